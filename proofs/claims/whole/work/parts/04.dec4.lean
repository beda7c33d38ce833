theorem dX11_init_0 : decode cX11_init 0 = .ok (.aload_n 0, 1) := by decide +kernel
theorem dX11_init_1 : decode cX11_init 1 = .ok (.invokespecial 1, 3) := by decide +kernel
theorem dX11_init_4 : decode cX11_init 4 = .ok (.aload_n 0, 1) := by decide +kernel
theorem dX11_init_5 : decode cX11_init 5 = .ok (.sipush 1300, 3) := by decide +kernel
theorem dX11_init_8 : decode cX11_init 8 = .ok (.newarray .boolean, 2) := by decide +kernel
theorem dX11_init_10 : decode cX11_init 10 = .ok (.putfield 9, 3) := by decide +kernel
theorem dX11_init_13 : decode cX11_init 13 = .ok (.aload_n 0, 1) := by decide +kernel
theorem dX11_init_14 : decode cX11_init 14 = .ok (.sipush 1300, 3) := by decide +kernel
theorem dX11_init_17 : decode cX11_init 17 = .ok (.newarray .int, 2) := by decide +kernel
theorem dX11_init_19 : decode cX11_init 19 = .ok (.putfield 13, 3) := by decide +kernel
theorem dX11_init_22 : decode cX11_init 22 = .ok (.aload_n 0, 1) := by decide +kernel
theorem dX11_init_23 : decode cX11_init 23 = .ok (.sipush 1300, 3) := by decide +kernel
theorem dX11_init_26 : decode cX11_init 26 = .ok (.newarray .int, 2) := by decide +kernel
theorem dX11_init_28 : decode cX11_init 28 = .ok (.putfield 17, 3) := by decide +kernel
theorem dX11_init_31 : decode cX11_init 31 = .ok (.aload_n 0, 1) := by decide +kernel
theorem dX11_init_32 : decode cX11_init 32 = .ok (.sipush 1300, 3) := by decide +kernel
theorem dX11_init_35 : decode cX11_init 35 = .ok (.newarray .int, 2) := by decide +kernel
theorem dX11_init_37 : decode cX11_init 37 = .ok (.putfield 20, 3) := by decide +kernel
theorem dX11_init_40 : decode cX11_init 40 = .ok (.aload_n 0, 1) := by decide +kernel
theorem dX11_init_41 : decode cX11_init 41 = .ok (.ldc 23, 2) := by decide +kernel
theorem dX11_init_43 : decode cX11_init 43 = .ok (.newarray .int, 2) := by decide +kernel
theorem dX11_init_45 : decode cX11_init 45 = .ok (.putfield 24, 3) := by decide +kernel
theorem dX11_init_48 : decode cX11_init 48 = .ok (.aload_n 0, 1) := by decide +kernel
theorem dX11_init_49 : decode cX11_init 49 = .ok (.ldc 23, 2) := by decide +kernel
theorem dX11_init_51 : decode cX11_init 51 = .ok (.newarray .int, 2) := by decide +kernel
theorem dX11_init_53 : decode cX11_init 53 = .ok (.putfield 27, 3) := by decide +kernel
theorem dX11_init_56 : decode cX11_init 56 = .ok (.aload_n 0, 1) := by decide +kernel
theorem dX11_init_57 : decode cX11_init 57 = .ok (.bipush 58, 2) := by decide +kernel
theorem dX11_init_59 : decode cX11_init 59 = .ok (.newarray .int, 2) := by decide +kernel
theorem dX11_init_61 : decode cX11_init 61 = .ok (.putfield 30, 3) := by decide +kernel
theorem dX11_init_64 : decode cX11_init 64 = .ok (.aload_n 0, 1) := by decide +kernel
theorem dX11_init_65 : decode cX11_init 65 = .ok (.bipush 58, 2) := by decide +kernel
theorem dX11_init_67 : decode cX11_init 67 = .ok (.newarray .int, 2) := by decide +kernel
theorem dX11_init_69 : decode cX11_init 69 = .ok (.putfield 33, 3) := by decide +kernel
theorem dX11_init_72 : decode cX11_init 72 = .ok (.aload_n 0, 1) := by decide +kernel
theorem dX11_init_73 : decode cX11_init 73 = .ok (.sipush 1300, 3) := by decide +kernel
theorem dX11_init_76 : decode cX11_init 76 = .ok (.newarray .int, 2) := by decide +kernel
theorem dX11_init_78 : decode cX11_init 78 = .ok (.putfield 36, 3) := by decide +kernel
theorem dX11_init_81 : decode cX11_init 81 = .ok (.aload_n 0, 1) := by decide +kernel
theorem dX11_init_82 : decode cX11_init 82 = .ok (.sipush 2000, 3) := by decide +kernel
theorem dX11_init_85 : decode cX11_init 85 = .ok (.newarray .int, 2) := by decide +kernel
theorem dX11_init_87 : decode cX11_init 87 = .ok (.putfield 39, 3) := by decide +kernel
theorem dX11_init_90 : decode cX11_init 90 = .ok (.aload_n 0, 1) := by decide +kernel
theorem dX11_init_91 : decode cX11_init 91 = .ok (.bipush 26, 2) := by decide +kernel
theorem dX11_init_93 : decode cX11_init 93 = .ok (.newarray .long, 2) := by decide +kernel
theorem dX11_init_95 : decode cX11_init 95 = .ok (.putfield 42, 3) := by decide +kernel
theorem dX11_init_98 : decode cX11_init 98 = .ok (.aload_n 0, 1) := by decide +kernel
theorem dX11_init_99 : decode cX11_init 99 = .ok (.bipush 26, 2) := by decide +kernel
theorem dX11_init_101 : decode cX11_init 101 = .ok (.newarray .int, 2) := by decide +kernel
theorem dX11_init_103 : decode cX11_init 103 = .ok (.putfield 46, 3) := by decide +kernel
theorem dX11_init_106 : decode cX11_init 106 = .ok (.aload_n 0, 1) := by decide +kernel
theorem dX11_init_107 : decode cX11_init 107 = .ok (.sipush 2001, 3) := by decide +kernel
theorem dX11_init_110 : decode cX11_init 110 = .ok (.newarray .int, 2) := by decide +kernel
theorem dX11_init_112 : decode cX11_init 112 = .ok (.putfield 49, 3) := by decide +kernel
theorem dX11_init_115 : decode cX11_init 115 = .ok (.aload_n 0, 1) := by decide +kernel
theorem dX11_init_116 : decode cX11_init 116 = .ok (.sipush 2001, 3) := by decide +kernel
theorem dX11_init_119 : decode cX11_init 119 = .ok (.newarray .int, 2) := by decide +kernel
theorem dX11_init_121 : decode cX11_init 121 = .ok (.putfield 52, 3) := by decide +kernel
theorem dX11_init_124 : decode cX11_init 124 = .ok (.aload_n 0, 1) := by decide +kernel
theorem dX11_init_125 : decode cX11_init 125 = .ok (.sipush 2001, 3) := by decide +kernel
theorem dX11_init_128 : decode cX11_init 128 = .ok (.newarray .int, 2) := by decide +kernel
theorem dX11_init_130 : decode cX11_init 130 = .ok (.putfield 55, 3) := by decide +kernel
theorem dX11_init_133 : decode cX11_init 133 = .ok (.aload_n 0, 1) := by decide +kernel
theorem dX11_init_134 : decode cX11_init 134 = .ok (.sipush 2001, 3) := by decide +kernel
theorem dX11_init_137 : decode cX11_init 137 = .ok (.newarray .long, 2) := by decide +kernel
theorem dX11_init_139 : decode cX11_init 139 = .ok (.putfield 58, 3) := by decide +kernel
theorem dX11_init_142 : decode cX11_init 142 = .ok (.aload_n 0, 1) := by decide +kernel
theorem dX11_init_143 : decode cX11_init 143 = .ok (.sipush 2001, 3) := by decide +kernel
theorem dX11_init_146 : decode cX11_init 146 = .ok (.newarray .int, 2) := by decide +kernel
theorem dX11_init_148 : decode cX11_init 148 = .ok (.putfield 61, 3) := by decide +kernel
theorem dX11_init_151 : decode cX11_init 151 = .ok (.aload_n 0, 1) := by decide +kernel
theorem dX11_init_152 : decode cX11_init 152 = .ok (.sipush 150, 3) := by decide +kernel
theorem dX11_init_155 : decode cX11_init 155 = .ok (.newarray .int, 2) := by decide +kernel
theorem dX11_init_157 : decode cX11_init 157 = .ok (.putfield 64, 3) := by decide +kernel
theorem dX11_init_160 : decode cX11_init 160 = .ok (.aload_n 0, 1) := by decide +kernel
theorem dX11_init_161 : decode cX11_init 161 = .ok (.sipush 150, 3) := by decide +kernel
theorem dX11_init_164 : decode cX11_init 164 = .ok (.newarray .int, 2) := by decide +kernel
theorem dX11_init_166 : decode cX11_init 166 = .ok (.putfield 67, 3) := by decide +kernel
theorem dX11_init_169 : decode cX11_init 169 = .ok (.aload_n 0, 1) := by decide +kernel
theorem dX11_init_170 : decode cX11_init 170 = .ok (.sipush 450, 3) := by decide +kernel
theorem dX11_init_173 : decode cX11_init 173 = .ok (.newarray .int, 2) := by decide +kernel
theorem dX11_init_175 : decode cX11_init 175 = .ok (.putfield 70, 3) := by decide +kernel
theorem dX11_init_178 : decode cX11_init 178 = .ok (.aload_n 0, 1) := by decide +kernel
theorem dX11_init_179 : decode cX11_init 179 = .ok (.sipush 450, 3) := by decide +kernel
theorem dX11_init_182 : decode cX11_init 182 = .ok (.newarray .int, 2) := by decide +kernel
theorem dX11_init_184 : decode cX11_init 184 = .ok (.putfield 73, 3) := by decide +kernel
theorem dX11_init_187 : decode cX11_init 187 = .ok (.aload_n 0, 1) := by decide +kernel
theorem dX11_init_188 : decode cX11_init 188 = .ok (.sipush 450, 3) := by decide +kernel
theorem dX11_init_191 : decode cX11_init 191 = .ok (.newarray .long, 2) := by decide +kernel
theorem dX11_init_193 : decode cX11_init 193 = .ok (.putfield 76, 3) := by decide +kernel
theorem dX11_init_196 : decode cX11_init 196 = .ok (.aload_n 0, 1) := by decide +kernel
theorem dX11_init_197 : decode cX11_init 197 = .ok (.sipush 450, 3) := by decide +kernel
theorem dX11_init_200 : decode cX11_init 200 = .ok (.newarray .int, 2) := by decide +kernel
theorem dX11_init_202 : decode cX11_init 202 = .ok (.putfield 79, 3) := by decide +kernel
theorem dX11_init_205 : decode cX11_init 205 = .ok (.aload_n 0, 1) := by decide +kernel
theorem dX11_init_206 : decode cX11_init 206 = .ok (.sipush 150, 3) := by decide +kernel
theorem dX11_init_209 : decode cX11_init 209 = .ok (.newarray .long, 2) := by decide +kernel
theorem dX11_init_211 : decode cX11_init 211 = .ok (.putfield 82, 3) := by decide +kernel
theorem dX11_init_214 : decode cX11_init 214 = .ok (.aload_n 0, 1) := by decide +kernel
theorem dX11_init_215 : decode cX11_init 215 = .ok (.sipush 150, 3) := by decide +kernel
theorem dX11_init_218 : decode cX11_init 218 = .ok (.newarray .int, 2) := by decide +kernel
theorem dX11_init_220 : decode cX11_init 220 = .ok (.putfield 85, 3) := by decide +kernel
theorem dX11_init_223 : decode cX11_init 223 = .ok (.aload_n 0, 1) := by decide +kernel
theorem dX11_init_224 : decode cX11_init 224 = .ok (.sipush 150, 3) := by decide +kernel
theorem dX11_init_227 : decode cX11_init 227 = .ok (.newarray .int, 2) := by decide +kernel
theorem dX11_init_229 : decode cX11_init 229 = .ok (.putfield 88, 3) := by decide +kernel
theorem dX11_init_232 : decode cX11_init 232 = .ok (.aload_n 0, 1) := by decide +kernel
theorem dX11_init_233 : decode cX11_init 233 = .ok (.sipush 150, 3) := by decide +kernel
theorem dX11_init_236 : decode cX11_init 236 = .ok (.newarray .int, 2) := by decide +kernel
theorem dX11_init_238 : decode cX11_init 238 = .ok (.putfield 91, 3) := by decide +kernel
theorem dX11_init_241 : decode cX11_init 241 = .ok (.aload_n 0, 1) := by decide +kernel
theorem dX11_init_242 : decode cX11_init 242 = .ok (.sipush 150, 3) := by decide +kernel
theorem dX11_init_245 : decode cX11_init 245 = .ok (.newarray .int, 2) := by decide +kernel
theorem dX11_init_247 : decode cX11_init 247 = .ok (.putfield 94, 3) := by decide +kernel
theorem dX11_init_250 : decode cX11_init 250 = .ok (.aload_n 0, 1) := by decide +kernel
theorem dX11_init_251 : decode cX11_init 251 = .ok (.sipush 450, 3) := by decide +kernel
theorem dX11_init_254 : decode cX11_init 254 = .ok (.newarray .int, 2) := by decide +kernel
theorem dX11_init_256 : decode cX11_init 256 = .ok (.putfield 97, 3) := by decide +kernel
theorem dX11_init_259 : decode cX11_init 259 = .ok (.aload_n 0, 1) := by decide +kernel
theorem dX11_init_260 : decode cX11_init 260 = .ok (.iconst (-1), 1) := by decide +kernel
theorem dX11_init_261 : decode cX11_init 261 = .ok (.putfield 100, 3) := by decide +kernel
theorem dX11_init_264 : decode cX11_init 264 = .ok (.aload_n 0, 1) := by decide +kernel
theorem dX11_init_265 : decode cX11_init 265 = .ok (.bipush 30, 2) := by decide +kernel
theorem dX11_init_267 : decode cX11_init 267 = .ok (.newarray .int, 2) := by decide +kernel
theorem dX11_init_269 : decode cX11_init 269 = .ok (.putfield 104, 3) := by decide +kernel
theorem dX11_init_272 : decode cX11_init 272 = .ok (.aload_n 0, 1) := by decide +kernel
theorem dX11_init_273 : decode cX11_init 273 = .ok (.sipush 300, 3) := by decide +kernel
theorem dX11_init_276 : decode cX11_init 276 = .ok (.newarray .int, 2) := by decide +kernel
theorem dX11_init_278 : decode cX11_init 278 = .ok (.putfield 107, 3) := by decide +kernel
theorem dX11_init_281 : decode cX11_init 281 = .ok (.aload_n 0, 1) := by decide +kernel
theorem dX11_init_282 : decode cX11_init 282 = .ok (.sipush 1300, 3) := by decide +kernel
theorem dX11_init_285 : decode cX11_init 285 = .ok (.newarray .int, 2) := by decide +kernel
theorem dX11_init_287 : decode cX11_init 287 = .ok (.putfield 110, 3) := by decide +kernel
theorem dX11_init_290 : decode cX11_init 290 = .ok (.aload_n 0, 1) := by decide +kernel
theorem dX11_init_291 : decode cX11_init 291 = .ok (.sipush 1300, 3) := by decide +kernel
theorem dX11_init_294 : decode cX11_init 294 = .ok (.newarray .int, 2) := by decide +kernel
theorem dX11_init_296 : decode cX11_init 296 = .ok (.putfield 113, 3) := by decide +kernel
theorem dX11_init_299 : decode cX11_init 299 = .ok (.aload_n 0, 1) := by decide +kernel
theorem dX11_init_300 : decode cX11_init 300 = .ok (.sipush 600, 3) := by decide +kernel
theorem dX11_init_303 : decode cX11_init 303 = .ok (.newarray .int, 2) := by decide +kernel
theorem dX11_init_305 : decode cX11_init 305 = .ok (.putfield 116, 3) := by decide +kernel
theorem dX11_init_308 : decode cX11_init 308 = .ok (.aload_n 0, 1) := by decide +kernel
theorem dX11_init_309 : decode cX11_init 309 = .ok (.iload_n 1, 1) := by decide +kernel
theorem dX11_init_310 : decode cX11_init 310 = .ok (.bipush 16, 2) := by decide +kernel
theorem dX11_init_312 : decode cX11_init 312 = .ok (.if_icmp .ge 8, 3) := by decide +kernel
theorem dX11_init_315 : decode cX11_init 315 = .ok (.bipush 16, 2) := by decide +kernel
theorem dX11_init_317 : decode cX11_init 317 = .ok (.goto 17, 3) := by decide +kernel
theorem dX11_init_320 : decode cX11_init 320 = .ok (.iload_n 1, 1) := by decide +kernel
theorem dX11_init_321 : decode cX11_init 321 = .ok (.sipush 1200, 3) := by decide +kernel
theorem dX11_init_324 : decode cX11_init 324 = .ok (.if_icmp .le 9, 3) := by decide +kernel
theorem dX11_init_327 : decode cX11_init 327 = .ok (.sipush 1200, 3) := by decide +kernel
theorem dX11_init_330 : decode cX11_init 330 = .ok (.goto 4, 3) := by decide +kernel
theorem dX11_init_333 : decode cX11_init 333 = .ok (.iload_n 1, 1) := by decide +kernel
theorem dX11_init_334 : decode cX11_init 334 = .ok (.putfield 119, 3) := by decide +kernel
theorem dX11_init_337 : decode cX11_init 337 = .ok (.aload_n 0, 1) := by decide +kernel
theorem dX11_init_338 : decode cX11_init 338 = .ok (.iload_n 2, 1) := by decide +kernel
theorem dX11_init_339 : decode cX11_init 339 = .ok (.iconst 1, 1) := by decide +kernel
theorem dX11_init_340 : decode cX11_init 340 = .ok (.if_icmp .ge 7, 3) := by decide +kernel
theorem dX11_init_343 : decode cX11_init 343 = .ok (.iconst 1, 1) := by decide +kernel
theorem dX11_init_344 : decode cX11_init 344 = .ok (.goto 15, 3) := by decide +kernel
theorem dX11_init_347 : decode cX11_init 347 = .ok (.iload_n 2, 1) := by decide +kernel
theorem dX11_init_348 : decode cX11_init 348 = .ok (.bipush 6, 2) := by decide +kernel
theorem dX11_init_350 : decode cX11_init 350 = .ok (.if_icmp .le 8, 3) := by decide +kernel
theorem dX11_init_353 : decode cX11_init 353 = .ok (.bipush 6, 2) := by decide +kernel
theorem dX11_init_355 : decode cX11_init 355 = .ok (.goto 4, 3) := by decide +kernel
theorem dX11_init_358 : decode cX11_init 358 = .ok (.iload_n 2, 1) := by decide +kernel
theorem dX11_init_359 : decode cX11_init 359 = .ok (.putfield 122, 3) := by decide +kernel
theorem dX11_init_362 : decode cX11_init 362 = .ok (.aload_n 0, 1) := by decide +kernel
theorem dX11_init_363 : decode cX11_init 363 = .ok (.aload_n 0, 1) := by decide +kernel
theorem dX11_init_364 : decode cX11_init 364 = .ok (.getfield 119, 3) := by decide +kernel
theorem dX11_init_367 : decode cX11_init 367 = .ok (.putfield 125, 3) := by decide +kernel
theorem dX11_init_370 : decode cX11_init 370 = .ok (.iconst 0, 1) := by decide +kernel
theorem dX11_init_371 : decode cX11_init 371 = .ok (.istore_n 3, 1) := by decide +kernel
theorem dX11_init_372 : decode cX11_init 372 = .ok (.iload_n 3, 1) := by decide +kernel
theorem dX11_init_373 : decode cX11_init 373 = .ok (.sipush 1300, 3) := by decide +kernel
theorem dX11_init_376 : decode cX11_init 376 = .ok (.if_icmp .ge 16, 3) := by decide +kernel
theorem dX11_init_379 : decode cX11_init 379 = .ok (.aload_n 0, 1) := by decide +kernel
theorem dX11_init_380 : decode cX11_init 380 = .ok (.getfield 17, 3) := by decide +kernel
theorem dX11_init_383 : decode cX11_init 383 = .ok (.iload_n 3, 1) := by decide +kernel
theorem dX11_init_384 : decode cX11_init 384 = .ok (.iconst (-1), 1) := by decide +kernel
theorem dX11_init_385 : decode cX11_init 385 = .ok (.iastore, 1) := by decide +kernel
theorem dX11_init_386 : decode cX11_init 386 = .ok (.iinc 3 1, 3) := by decide +kernel
theorem dX11_init_389 : decode cX11_init 389 = .ok (.goto (-17), 3) := by decide +kernel
theorem dX11_init_392 : decode cX11_init 392 = .ok (.iconst 0, 1) := by decide +kernel
theorem dX11_init_393 : decode cX11_init 393 = .ok (.istore_n 3, 1) := by decide +kernel
theorem dX11_init_394 : decode cX11_init 394 = .ok (.iload_n 3, 1) := by decide +kernel
theorem dX11_init_395 : decode cX11_init 395 = .ok (.bipush 58, 2) := by decide +kernel
theorem dX11_init_397 : decode cX11_init 397 = .ok (.if_icmp .ge 16, 3) := by decide +kernel
theorem dX11_init_400 : decode cX11_init 400 = .ok (.aload_n 0, 1) := by decide +kernel
theorem dX11_init_401 : decode cX11_init 401 = .ok (.getfield 30, 3) := by decide +kernel
theorem dX11_init_404 : decode cX11_init 404 = .ok (.iload_n 3, 1) := by decide +kernel
theorem dX11_init_405 : decode cX11_init 405 = .ok (.iconst 0, 1) := by decide +kernel
theorem dX11_init_406 : decode cX11_init 406 = .ok (.iastore, 1) := by decide +kernel
theorem dX11_init_407 : decode cX11_init 407 = .ok (.iinc 3 1, 3) := by decide +kernel
theorem dX11_init_410 : decode cX11_init 410 = .ok (.goto (-16), 3) := by decide +kernel
theorem dX11_init_413 : decode cX11_init 413 = .ok (.aload_n 0, 1) := by decide +kernel
theorem dX11_init_414 : decode cX11_init 414 = .ok (.invokevirtual 128, 3) := by decide +kernel
theorem dX11_init_417 : decode cX11_init 417 = .ok (.return_, 1) := by decide +kernel
theorem dX11_thrown_0 : decode cX11_thrown 0 = .ok (.aload_n 0, 1) := by decide +kernel
theorem dX11_thrown_1 : decode cX11_thrown 1 = .ok (.getfield 131, 3) := by decide +kernel
theorem dX11_thrown_4 : decode cX11_thrown 4 = .ok (.ireturn, 1) := by decide +kernel
theorem dX11_takes_0 : decode cX11_takes 0 = .ok (.aload_n 0, 1) := by decide +kernel
theorem dX11_takes_1 : decode cX11_takes 1 = .ok (.getfield 13, 3) := by decide +kernel
theorem dX11_takes_4 : decode cX11_takes 4 = .ok (.iload_n 1, 1) := by decide +kernel
theorem dX11_takes_5 : decode cX11_takes 5 = .ok (.iaload, 1) := by decide +kernel
theorem dX11_takes_6 : decode cX11_takes 6 = .ok (.iconst 2, 1) := by decide +kernel
theorem dX11_takes_7 : decode cX11_takes 7 = .ok (.iadd, 1) := by decide +kernel
theorem dX11_takes_8 : decode cX11_takes 8 = .ok (.ireturn, 1) := by decide +kernel
theorem dX11_isOld_0 : decode cX11_isOld 0 = .ok (.iload_n 1, 1) := by decide +kernel
theorem dX11_isOld_1 : decode cX11_isOld 1 = .ok (.iconst 2, 1) := by decide +kernel
theorem dX11_isOld_2 : decode cX11_isOld 2 = .ok (.if_icmp .ne 20, 3) := by decide +kernel
theorem dX11_isOld_5 : decode cX11_isOld 5 = .ok (.aload_n 0, 1) := by decide +kernel
theorem dX11_isOld_6 : decode cX11_isOld 6 = .ok (.getfield 17, 3) := by decide +kernel
theorem dX11_isOld_9 : decode cX11_isOld 9 = .ok (.iload_n 2, 1) := by decide +kernel
theorem dX11_isOld_10 : decode cX11_isOld 10 = .ok (.iaload, 1) := by decide +kernel
theorem dX11_isOld_11 : decode cX11_isOld 11 = .ok (.aload_n 0, 1) := by decide +kernel
theorem dX11_isOld_12 : decode cX11_isOld 12 = .ok (.getfield 134, 3) := by decide +kernel
theorem dX11_isOld_15 : decode cX11_isOld 15 = .ok (.if_icmp .eq 7, 3) := by decide +kernel
theorem dX11_isOld_18 : decode cX11_isOld 18 = .ok (.iconst 1, 1) := by decide +kernel
theorem dX11_isOld_19 : decode cX11_isOld 19 = .ok (.goto 4, 3) := by decide +kernel
theorem dX11_isOld_22 : decode cX11_isOld 22 = .ok (.iconst 0, 1) := by decide +kernel
theorem dX11_isOld_23 : decode cX11_isOld 23 = .ok (.ireturn, 1) := by decide +kernel
theorem dX11_move_0 : decode cX11_move 0 = .ok (.aload_n 0, 1) := by decide +kernel
theorem dX11_move_1 : decode cX11_move 1 = .ok (.getfield 137, 3) := by decide +kernel
theorem dX11_move_4 : decode cX11_move 4 = .ok (.aload_n 0, 1) := by decide +kernel
theorem dX11_move_5 : decode cX11_move 5 = .ok (.iload_n 1, 1) := by decide +kernel
theorem dX11_move_6 : decode cX11_move 6 = .ok (.invokevirtual 140, 3) := by decide +kernel
theorem dX11_move_9 : decode cX11_move 9 = .ok (.iadd, 1) := by decide +kernel
theorem dX11_move_10 : decode cX11_move 10 = .ok (.aload_n 0, 1) := by decide +kernel
theorem dX11_move_11 : decode cX11_move 11 = .ok (.getfield 125, 3) := by decide +kernel
theorem dX11_move_14 : decode cX11_move 14 = .ok (.if_icmp .le 15, 3) := by decide +kernel
theorem dX11_move_17 : decode cX11_move 17 = .ok (.aload_n 0, 1) := by decide +kernel
theorem dX11_move_18 : decode cX11_move 18 = .ok (.dup, 1) := by decide +kernel
theorem dX11_move_19 : decode cX11_move 19 = .ok (.getfield 144, 3) := by decide +kernel
theorem dX11_move_22 : decode cX11_move 22 = .ok (.iconst 1, 1) := by decide +kernel
theorem dX11_move_23 : decode cX11_move 23 = .ok (.iadd, 1) := by decide +kernel
theorem dX11_move_24 : decode cX11_move 24 = .ok (.putfield 144, 3) := by decide +kernel
theorem dX11_move_27 : decode cX11_move 27 = .ok (.iconst 0, 1) := by decide +kernel
theorem dX11_move_28 : decode cX11_move 28 = .ok (.ireturn, 1) := by decide +kernel
theorem dX11_move_29 : decode cX11_move 29 = .ok (.aload_n 0, 1) := by decide +kernel
theorem dX11_move_30 : decode cX11_move 30 = .ok (.getfield 17, 3) := by decide +kernel
theorem dX11_move_33 : decode cX11_move 33 = .ok (.iload_n 1, 1) := by decide +kernel
theorem dX11_move_34 : decode cX11_move 34 = .ok (.aload_n 0, 1) := by decide +kernel
theorem dX11_move_35 : decode cX11_move 35 = .ok (.getfield 134, 3) := by decide +kernel
theorem dX11_move_38 : decode cX11_move 38 = .ok (.iastore, 1) := by decide +kernel
theorem dX11_move_39 : decode cX11_move 39 = .ok (.aload_n 0, 1) := by decide +kernel
theorem dX11_move_40 : decode cX11_move 40 = .ok (.getfield 20, 3) := by decide +kernel
theorem dX11_move_43 : decode cX11_move 43 = .ok (.iload_n 1, 1) := by decide +kernel
theorem dX11_move_44 : decode cX11_move 44 = .ok (.aload_n 0, 1) := by decide +kernel
theorem dX11_move_45 : decode cX11_move 45 = .ok (.getfield 137, 3) := by decide +kernel
theorem dX11_move_48 : decode cX11_move 48 = .ok (.iastore, 1) := by decide +kernel
theorem dX11_move_49 : decode cX11_move 49 = .ok (.aload_n 0, 1) := by decide +kernel
theorem dX11_move_50 : decode cX11_move 50 = .ok (.dup, 1) := by decide +kernel
theorem dX11_move_51 : decode cX11_move 51 = .ok (.getfield 137, 3) := by decide +kernel
theorem dX11_move_54 : decode cX11_move 54 = .ok (.aload_n 0, 1) := by decide +kernel
theorem dX11_move_55 : decode cX11_move 55 = .ok (.iload_n 1, 1) := by decide +kernel
theorem dX11_move_56 : decode cX11_move 56 = .ok (.invokevirtual 140, 3) := by decide +kernel
theorem dX11_move_59 : decode cX11_move 59 = .ok (.iadd, 1) := by decide +kernel
theorem dX11_move_60 : decode cX11_move 60 = .ok (.putfield 137, 3) := by decide +kernel
theorem dX11_move_63 : decode cX11_move 63 = .ok (.aload_n 0, 1) := by decide +kernel
theorem dX11_move_64 : decode cX11_move 64 = .ok (.getfield 36, 3) := by decide +kernel
theorem dX11_move_67 : decode cX11_move 67 = .ok (.aload_n 0, 1) := by decide +kernel
theorem dX11_move_68 : decode cX11_move 68 = .ok (.getfield 147, 3) := by decide +kernel
theorem dX11_move_71 : decode cX11_move 71 = .ok (.iload_n 1, 1) := by decide +kernel
theorem dX11_move_72 : decode cX11_move 72 = .ok (.iastore, 1) := by decide +kernel
theorem dX11_move_73 : decode cX11_move 73 = .ok (.aload_n 0, 1) := by decide +kernel
theorem dX11_move_74 : decode cX11_move 74 = .ok (.dup, 1) := by decide +kernel
theorem dX11_move_75 : decode cX11_move 75 = .ok (.getfield 147, 3) := by decide +kernel
theorem dX11_move_78 : decode cX11_move 78 = .ok (.iconst 1, 1) := by decide +kernel
theorem dX11_move_79 : decode cX11_move 79 = .ok (.iadd, 1) := by decide +kernel
theorem dX11_move_80 : decode cX11_move 80 = .ok (.putfield 147, 3) := by decide +kernel
theorem dX11_move_83 : decode cX11_move 83 = .ok (.aload_n 0, 1) := by decide +kernel
theorem dX11_move_84 : decode cX11_move 84 = .ok (.dup, 1) := by decide +kernel
theorem dX11_move_85 : decode cX11_move 85 = .ok (.getfield 150, 3) := by decide +kernel
theorem dX11_move_88 : decode cX11_move 88 = .ok (.iconst 1, 1) := by decide +kernel
theorem dX11_move_89 : decode cX11_move 89 = .ok (.iadd, 1) := by decide +kernel
theorem dX11_move_90 : decode cX11_move 90 = .ok (.putfield 150, 3) := by decide +kernel
theorem dX11_move_93 : decode cX11_move 93 = .ok (.iconst 1, 1) := by decide +kernel
theorem dX11_move_94 : decode cX11_move 94 = .ok (.ireturn, 1) := by decide +kernel
theorem dX11_passOne_0 : decode cX11_passOne 0 = .ok (.aload_n 0, 1) := by decide +kernel
theorem dX11_passOne_1 : decode cX11_passOne 1 = .ok (.getfield 153, 3) := by decide +kernel
theorem dX11_passOne_4 : decode cX11_passOne 4 = .ok (.aload_n 0, 1) := by decide +kernel
theorem dX11_passOne_5 : decode cX11_passOne 5 = .ok (.getfield 20, 3) := by decide +kernel
theorem dX11_passOne_8 : decode cX11_passOne 8 = .ok (.aload_n 0, 1) := by decide +kernel
theorem dX11_passOne_9 : decode cX11_passOne 9 = .ok (.getfield 36, 3) := by decide +kernel
theorem dX11_passOne_12 : decode cX11_passOne 12 = .ok (.aload_n 0, 1) := by decide +kernel
theorem dX11_passOne_13 : decode cX11_passOne 13 = .ok (.getfield 156, 3) := by decide +kernel
theorem dX11_passOne_16 : decode cX11_passOne 16 = .ok (.iaload, 1) := by decide +kernel
theorem dX11_passOne_17 : decode cX11_passOne 17 = .ok (.iaload, 1) := by decide +kernel
theorem dX11_passOne_18 : decode cX11_passOne 18 = .ok (.aload_n 0, 1) := by decide +kernel
theorem dX11_passOne_19 : decode cX11_passOne 19 = .ok (.aload_n 0, 1) := by decide +kernel
theorem dX11_passOne_20 : decode cX11_passOne 20 = .ok (.getfield 36, 3) := by decide +kernel
theorem dX11_passOne_23 : decode cX11_passOne 23 = .ok (.aload_n 0, 1) := by decide +kernel
theorem dX11_passOne_24 : decode cX11_passOne 24 = .ok (.getfield 156, 3) := by decide +kernel
theorem dX11_passOne_27 : decode cX11_passOne 27 = .ok (.iaload, 1) := by decide +kernel
theorem dX11_passOne_28 : decode cX11_passOne 28 = .ok (.invokevirtual 140, 3) := by decide +kernel
theorem dX11_passOne_31 : decode cX11_passOne 31 = .ok (.iadd, 1) := by decide +kernel
theorem dX11_passOne_32 : decode cX11_passOne 32 = .ok (.if_icmp .lt 16, 3) := by decide +kernel
theorem dX11_passOne_35 : decode cX11_passOne 35 = .ok (.aload_n 0, 1) := by decide +kernel
theorem dX11_passOne_36 : decode cX11_passOne 36 = .ok (.dup, 1) := by decide +kernel
theorem dX11_passOne_37 : decode cX11_passOne 37 = .ok (.getfield 156, 3) := by decide +kernel
theorem dX11_passOne_40 : decode cX11_passOne 40 = .ok (.iconst 1, 1) := by decide +kernel
theorem dX11_passOne_41 : decode cX11_passOne 41 = .ok (.iadd, 1) := by decide +kernel
theorem dX11_passOne_42 : decode cX11_passOne 42 = .ok (.putfield 156, 3) := by decide +kernel
theorem dX11_passOne_45 : decode cX11_passOne 45 = .ok (.goto (-45), 3) := by decide +kernel
theorem dX11_passOne_48 : decode cX11_passOne 48 = .ok (.aload_n 0, 1) := by decide +kernel
theorem dX11_passOne_49 : decode cX11_passOne 49 = .ok (.getfield 36, 3) := by decide +kernel
theorem dX11_passOne_52 : decode cX11_passOne 52 = .ok (.aload_n 0, 1) := by decide +kernel
theorem dX11_passOne_53 : decode cX11_passOne 53 = .ok (.getfield 156, 3) := by decide +kernel
theorem dX11_passOne_56 : decode cX11_passOne 56 = .ok (.iaload, 1) := by decide +kernel
theorem dX11_passOne_57 : decode cX11_passOne 57 = .ok (.istore_n 1, 1) := by decide +kernel
theorem dX11_passOne_58 : decode cX11_passOne 58 = .ok (.aload_n 0, 1) := by decide +kernel
theorem dX11_passOne_59 : decode cX11_passOne 59 = .ok (.getfield 153, 3) := by decide +kernel
theorem dX11_passOne_62 : decode cX11_passOne 62 = .ok (.aload_n 0, 1) := by decide +kernel
theorem dX11_passOne_63 : decode cX11_passOne 63 = .ok (.getfield 20, 3) := by decide +kernel
theorem dX11_passOne_66 : decode cX11_passOne 66 = .ok (.iload_n 1, 1) := by decide +kernel
theorem dX11_passOne_67 : decode cX11_passOne 67 = .ok (.iaload, 1) := by decide +kernel
theorem dX11_passOne_68 : decode cX11_passOne 68 = .ok (.isub, 1) := by decide +kernel
theorem dX11_passOne_69 : decode cX11_passOne 69 = .ok (.iconst 2, 1) := by decide +kernel
theorem dX11_passOne_70 : decode cX11_passOne 70 = .ok (.isub, 1) := by decide +kernel
theorem dX11_passOne_71 : decode cX11_passOne 71 = .ok (.istore_n 2, 1) := by decide +kernel
theorem dX11_passOne_72 : decode cX11_passOne 72 = .ok (.iload_n 2, 1) := by decide +kernel
theorem dX11_passOne_73 : decode cX11_passOne 73 = .ok (.ifCond .lt 52, 3) := by decide +kernel
theorem dX11_passOne_76 : decode cX11_passOne 76 = .ok (.aload_n 0, 1) := by decide +kernel
theorem dX11_passOne_77 : decode cX11_passOne 77 = .ok (.aload_n 0, 1) := by decide +kernel
theorem dX11_passOne_78 : decode cX11_passOne 78 = .ok (.getfield 24, 3) := by decide +kernel
theorem dX11_passOne_81 : decode cX11_passOne 81 = .ok (.bipush 40, 2) := by decide +kernel
theorem dX11_passOne_83 : decode cX11_passOne 83 = .ok (.iload_n 1, 1) := by decide +kernel
theorem dX11_passOne_84 : decode cX11_passOne 84 = .ok (.imul, 1) := by decide +kernel
theorem dX11_passOne_85 : decode cX11_passOne 85 = .ok (.iload_n 2, 1) := by decide +kernel
theorem dX11_passOne_86 : decode cX11_passOne 86 = .ok (.iadd, 1) := by decide +kernel
theorem dX11_passOne_87 : decode cX11_passOne 87 = .ok (.iaload, 1) := by decide +kernel
theorem dX11_passOne_88 : decode cX11_passOne 88 = .ok (.aload_n 0, 1) := by decide +kernel
theorem dX11_passOne_89 : decode cX11_passOne 89 = .ok (.getfield 27, 3) := by decide +kernel
theorem dX11_passOne_92 : decode cX11_passOne 92 = .ok (.bipush 40, 2) := by decide +kernel
theorem dX11_passOne_94 : decode cX11_passOne 94 = .ok (.iload_n 1, 1) := by decide +kernel
theorem dX11_passOne_95 : decode cX11_passOne 95 = .ok (.imul, 1) := by decide +kernel
theorem dX11_passOne_96 : decode cX11_passOne 96 = .ok (.iload_n 2, 1) := by decide +kernel
theorem dX11_passOne_97 : decode cX11_passOne 97 = .ok (.iadd, 1) := by decide +kernel
theorem dX11_passOne_98 : decode cX11_passOne 98 = .ok (.iaload, 1) := by decide +kernel
theorem dX11_passOne_99 : decode cX11_passOne 99 = .ok (.invokevirtual 159, 3) := by decide +kernel
theorem dX11_passOne_102 : decode cX11_passOne 102 = .ok (.ifCond .eq 23, 3) := by decide +kernel
theorem dX11_passOne_105 : decode cX11_passOne 105 = .ok (.aload_n 0, 1) := by decide +kernel
theorem dX11_passOne_106 : decode cX11_passOne 106 = .ok (.aload_n 0, 1) := by decide +kernel
theorem dX11_passOne_107 : decode cX11_passOne 107 = .ok (.getfield 27, 3) := by decide +kernel
theorem dX11_passOne_110 : decode cX11_passOne 110 = .ok (.bipush 40, 2) := by decide +kernel
theorem dX11_passOne_112 : decode cX11_passOne 112 = .ok (.iload_n 1, 1) := by decide +kernel
theorem dX11_passOne_113 : decode cX11_passOne 113 = .ok (.imul, 1) := by decide +kernel
theorem dX11_passOne_114 : decode cX11_passOne 114 = .ok (.iload_n 2, 1) := by decide +kernel
theorem dX11_passOne_115 : decode cX11_passOne 115 = .ok (.iadd, 1) := by decide +kernel
theorem dX11_passOne_116 : decode cX11_passOne 116 = .ok (.iaload, 1) := by decide +kernel
theorem dX11_passOne_117 : decode cX11_passOne 117 = .ok (.invokevirtual 163, 3) := by decide +kernel
theorem dX11_passOne_120 : decode cX11_passOne 120 = .ok (.ifCond .ne 5, 3) := by decide +kernel
theorem dX11_passOne_123 : decode cX11_passOne 123 = .ok (.iconst 0, 1) := by decide +kernel
theorem dX11_passOne_124 : decode cX11_passOne 124 = .ok (.ireturn, 1) := by decide +kernel
theorem dX11_passOne_125 : decode cX11_passOne 125 = .ok (.aload_n 0, 1) := by decide +kernel
theorem dX11_passOne_126 : decode cX11_passOne 126 = .ok (.dup, 1) := by decide +kernel
theorem dX11_passOne_127 : decode cX11_passOne 127 = .ok (.getfield 153, 3) := by decide +kernel
theorem dX11_passOne_130 : decode cX11_passOne 130 = .ok (.iconst 1, 1) := by decide +kernel
theorem dX11_passOne_131 : decode cX11_passOne 131 = .ok (.iadd, 1) := by decide +kernel
theorem dX11_passOne_132 : decode cX11_passOne 132 = .ok (.putfield 153, 3) := by decide +kernel
theorem dX11_passOne_135 : decode cX11_passOne 135 = .ok (.aload_n 0, 1) := by decide +kernel
theorem dX11_passOne_136 : decode cX11_passOne 136 = .ok (.dup, 1) := by decide +kernel
theorem dX11_passOne_137 : decode cX11_passOne 137 = .ok (.getfield 167, 3) := by decide +kernel
theorem dX11_passOne_140 : decode cX11_passOne 140 = .ok (.iconst 1, 1) := by decide +kernel
theorem dX11_passOne_141 : decode cX11_passOne 141 = .ok (.iadd, 1) := by decide +kernel
theorem dX11_passOne_142 : decode cX11_passOne 142 = .ok (.putfield 167, 3) := by decide +kernel
theorem dX11_passOne_145 : decode cX11_passOne 145 = .ok (.iconst 1, 1) := by decide +kernel
theorem dX11_passOne_146 : decode cX11_passOne 146 = .ok (.ireturn, 1) := by decide +kernel
theorem dX11_turnOver_0 : decode cX11_turnOver 0 = .ok (.aload_n 0, 1) := by decide +kernel
theorem dX11_turnOver_1 : decode cX11_turnOver 1 = .ok (.iconst 1, 1) := by decide +kernel
theorem dX11_turnOver_2 : decode cX11_turnOver 2 = .ok (.aload_n 0, 1) := by decide +kernel
theorem dX11_turnOver_3 : decode cX11_turnOver 3 = .ok (.getfield 134, 3) := by decide +kernel
theorem dX11_turnOver_6 : decode cX11_turnOver 6 = .ok (.isub, 1) := by decide +kernel
theorem dX11_turnOver_7 : decode cX11_turnOver 7 = .ok (.putfield 134, 3) := by decide +kernel
theorem dX11_turnOver_10 : decode cX11_turnOver 10 = .ok (.iconst 0, 1) := by decide +kernel
theorem dX11_turnOver_11 : decode cX11_turnOver 11 = .ok (.istore_n 1, 1) := by decide +kernel
theorem dX11_turnOver_12 : decode cX11_turnOver 12 = .ok (.iload_n 1, 1) := by decide +kernel
theorem dX11_turnOver_13 : decode cX11_turnOver 13 = .ok (.sipush 1300, 3) := by decide +kernel
theorem dX11_turnOver_16 : decode cX11_turnOver 16 = .ok (.if_icmp .ge 29, 3) := by decide +kernel
theorem dX11_turnOver_19 : decode cX11_turnOver 19 = .ok (.aload_n 0, 1) := by decide +kernel
theorem dX11_turnOver_20 : decode cX11_turnOver 20 = .ok (.getfield 17, 3) := by decide +kernel
theorem dX11_turnOver_23 : decode cX11_turnOver 23 = .ok (.iload_n 1, 1) := by decide +kernel
theorem dX11_turnOver_24 : decode cX11_turnOver 24 = .ok (.iaload, 1) := by decide +kernel
theorem dX11_turnOver_25 : decode cX11_turnOver 25 = .ok (.aload_n 0, 1) := by decide +kernel
theorem dX11_turnOver_26 : decode cX11_turnOver 26 = .ok (.getfield 134, 3) := by decide +kernel
theorem dX11_turnOver_29 : decode cX11_turnOver 29 = .ok (.if_icmp .ne 10, 3) := by decide +kernel
theorem dX11_turnOver_32 : decode cX11_turnOver 32 = .ok (.aload_n 0, 1) := by decide +kernel
theorem dX11_turnOver_33 : decode cX11_turnOver 33 = .ok (.getfield 17, 3) := by decide +kernel
theorem dX11_turnOver_36 : decode cX11_turnOver 36 = .ok (.iload_n 1, 1) := by decide +kernel
theorem dX11_turnOver_37 : decode cX11_turnOver 37 = .ok (.iconst (-1), 1) := by decide +kernel
theorem dX11_turnOver_38 : decode cX11_turnOver 38 = .ok (.iastore, 1) := by decide +kernel
theorem dX11_turnOver_39 : decode cX11_turnOver 39 = .ok (.iinc 1 1, 3) := by decide +kernel
theorem dX11_turnOver_42 : decode cX11_turnOver 42 = .ok (.goto (-30), 3) := by decide +kernel
theorem dX11_turnOver_45 : decode cX11_turnOver 45 = .ok (.aload_n 0, 1) := by decide +kernel
theorem dX11_turnOver_46 : decode cX11_turnOver 46 = .ok (.iconst 0, 1) := by decide +kernel
theorem dX11_turnOver_47 : decode cX11_turnOver 47 = .ok (.putfield 137, 3) := by decide +kernel
theorem dX11_turnOver_50 : decode cX11_turnOver 50 = .ok (.aload_n 0, 1) := by decide +kernel
theorem dX11_turnOver_51 : decode cX11_turnOver 51 = .ok (.iconst 0, 1) := by decide +kernel
theorem dX11_turnOver_52 : decode cX11_turnOver 52 = .ok (.putfield 153, 3) := by decide +kernel
theorem dX11_turnOver_55 : decode cX11_turnOver 55 = .ok (.aload_n 0, 1) := by decide +kernel
theorem dX11_turnOver_56 : decode cX11_turnOver 56 = .ok (.iconst 0, 1) := by decide +kernel
theorem dX11_turnOver_57 : decode cX11_turnOver 57 = .ok (.putfield 156, 3) := by decide +kernel
theorem dX11_turnOver_60 : decode cX11_turnOver 60 = .ok (.aload_n 0, 1) := by decide +kernel
theorem dX11_turnOver_61 : decode cX11_turnOver 61 = .ok (.iconst 0, 1) := by decide +kernel
theorem dX11_turnOver_62 : decode cX11_turnOver 62 = .ok (.putfield 147, 3) := by decide +kernel
theorem dX11_turnOver_65 : decode cX11_turnOver 65 = .ok (.aload_n 0, 1) := by decide +kernel
theorem dX11_turnOver_66 : decode cX11_turnOver 66 = .ok (.aload_n 0, 1) := by decide +kernel
theorem dX11_turnOver_67 : decode cX11_turnOver 67 = .ok (.getfield 119, 3) := by decide +kernel
theorem dX11_turnOver_70 : decode cX11_turnOver 70 = .ok (.putfield 125, 3) := by decide +kernel
theorem dX11_turnOver_73 : decode cX11_turnOver 73 = .ok (.aload_n 0, 1) := by decide +kernel
theorem dX11_turnOver_74 : decode cX11_turnOver 74 = .ok (.dup, 1) := by decide +kernel
theorem dX11_turnOver_75 : decode cX11_turnOver 75 = .ok (.getfield 170, 3) := by decide +kernel
theorem dX11_turnOver_78 : decode cX11_turnOver 78 = .ok (.iconst 1, 1) := by decide +kernel
theorem dX11_turnOver_79 : decode cX11_turnOver 79 = .ok (.iadd, 1) := by decide +kernel
theorem dX11_turnOver_80 : decode cX11_turnOver 80 = .ok (.putfield 170, 3) := by decide +kernel
theorem dX11_turnOver_83 : decode cX11_turnOver 83 = .ok (.aload_n 0, 1) := by decide +kernel
theorem dX11_turnOver_84 : decode cX11_turnOver 84 = .ok (.getfield 150, 3) := by decide +kernel
theorem dX11_turnOver_87 : decode cX11_turnOver 87 = .ok (.istore_n 1, 1) := by decide +kernel
theorem dX11_turnOver_88 : decode cX11_turnOver 88 = .ok (.iconst 0, 1) := by decide +kernel
theorem dX11_turnOver_89 : decode cX11_turnOver 89 = .ok (.istore_n 2, 1) := by decide +kernel
theorem dX11_turnOver_90 : decode cX11_turnOver 90 = .ok (.iload_n 2, 1) := by decide +kernel
theorem dX11_turnOver_91 : decode cX11_turnOver 91 = .ok (.bipush 8, 2) := by decide +kernel
theorem dX11_turnOver_93 : decode cX11_turnOver 93 = .ok (.aload_n 0, 1) := by decide +kernel
theorem dX11_turnOver_94 : decode cX11_turnOver 94 = .ok (.getfield 173, 3) := by decide +kernel
theorem dX11_turnOver_97 : decode cX11_turnOver 97 = .ok (.iadd, 1) := by decide +kernel
theorem dX11_turnOver_98 : decode cX11_turnOver 98 = .ok (.if_icmp .ge 39, 3) := by decide +kernel
theorem dX11_turnOver_101 : decode cX11_turnOver 101 = .ok (.aload_n 0, 1) := by decide +kernel
theorem dX11_turnOver_102 : decode cX11_turnOver 102 = .ok (.aload_n 0, 1) := by decide +kernel
theorem dX11_turnOver_103 : decode cX11_turnOver 103 = .ok (.getfield 30, 3) := by decide +kernel
theorem dX11_turnOver_106 : decode cX11_turnOver 106 = .ok (.iload_n 2, 1) := by decide +kernel
theorem dX11_turnOver_107 : decode cX11_turnOver 107 = .ok (.iaload, 1) := by decide +kernel
theorem dX11_turnOver_108 : decode cX11_turnOver 108 = .ok (.aload_n 0, 1) := by decide +kernel
theorem dX11_turnOver_109 : decode cX11_turnOver 109 = .ok (.getfield 33, 3) := by decide +kernel
theorem dX11_turnOver_112 : decode cX11_turnOver 112 = .ok (.iload_n 2, 1) := by decide +kernel
theorem dX11_turnOver_113 : decode cX11_turnOver 113 = .ok (.iaload, 1) := by decide +kernel
theorem dX11_turnOver_114 : decode cX11_turnOver 114 = .ok (.invokevirtual 159, 3) := by decide +kernel
theorem dX11_turnOver_117 : decode cX11_turnOver 117 = .ok (.ifCond .eq 14, 3) := by decide +kernel
theorem dX11_turnOver_120 : decode cX11_turnOver 120 = .ok (.aload_n 0, 1) := by decide +kernel
theorem dX11_turnOver_121 : decode cX11_turnOver 121 = .ok (.aload_n 0, 1) := by decide +kernel
theorem dX11_turnOver_122 : decode cX11_turnOver 122 = .ok (.getfield 33, 3) := by decide +kernel
theorem dX11_turnOver_125 : decode cX11_turnOver 125 = .ok (.iload_n 2, 1) := by decide +kernel
theorem dX11_turnOver_126 : decode cX11_turnOver 126 = .ok (.iaload, 1) := by decide +kernel
theorem dX11_turnOver_127 : decode cX11_turnOver 127 = .ok (.invokevirtual 163, 3) := by decide +kernel
theorem dX11_turnOver_130 : decode cX11_turnOver 130 = .ok (.istore_n 3, 1) := by decide +kernel
theorem dX11_turnOver_131 : decode cX11_turnOver 131 = .ok (.iinc 2 1, 3) := by decide +kernel
theorem dX11_turnOver_134 : decode cX11_turnOver 134 = .ok (.goto (-44), 3) := by decide +kernel
theorem dX11_turnOver_137 : decode cX11_turnOver 137 = .ok (.aload_n 0, 1) := by decide +kernel
theorem dX11_turnOver_138 : decode cX11_turnOver 138 = .ok (.aload_n 0, 1) := by decide +kernel
theorem dX11_turnOver_139 : decode cX11_turnOver 139 = .ok (.getfield 150, 3) := by decide +kernel
theorem dX11_turnOver_142 : decode cX11_turnOver 142 = .ok (.iload_n 1, 1) := by decide +kernel
theorem dX11_turnOver_143 : decode cX11_turnOver 143 = .ok (.isub, 1) := by decide +kernel
theorem dX11_turnOver_144 : decode cX11_turnOver 144 = .ok (.putfield 176, 3) := by decide +kernel
theorem dX11_turnOver_147 : decode cX11_turnOver 147 = .ok (.return_, 1) := by decide +kernel
theorem dX11_make_0 : decode cX11_make 0 = .ok (.iload_n 2, 1) := by decide +kernel
theorem dX11_make_1 : decode cX11_make 1 = .ok (.iconst 2, 1) := by decide +kernel
theorem dX11_make_2 : decode cX11_make 2 = .ok (.iadd, 1) := by decide +kernel
theorem dX11_make_3 : decode cX11_make 3 = .ok (.istore 4, 2) := by decide +kernel
theorem dX11_make_5 : decode cX11_make 5 = .ok (.iconst 0, 1) := by decide +kernel
theorem dX11_make_6 : decode cX11_make 6 = .ok (.istore 5, 2) := by decide +kernel
theorem dX11_make_8 : decode cX11_make 8 = .ok (.iconst 1, 1) := by decide +kernel
theorem dX11_make_9 : decode cX11_make 9 = .ok (.istore 6, 2) := by decide +kernel
theorem dX11_make_11 : decode cX11_make 11 = .ok (.iload 6, 2) := by decide +kernel
theorem dX11_make_13 : decode cX11_make 13 = .ok (.ifCond .eq 50, 3) := by decide +kernel
theorem dX11_make_16 : decode cX11_make 16 = .ok (.iload 5, 2) := by decide +kernel
theorem dX11_make_18 : decode cX11_make 18 = .ok (.aload_n 0, 1) := by decide +kernel
theorem dX11_make_19 : decode cX11_make 19 = .ok (.getfield 122, 3) := by decide +kernel
theorem dX11_make_22 : decode cX11_make 22 = .ok (.iload 4, 2) := by decide +kernel
theorem dX11_make_24 : decode cX11_make 24 = .ok (.imul, 1) := by decide +kernel
theorem dX11_make_25 : decode cX11_make 25 = .ok (.if_icmp .ge 38, 3) := by decide +kernel
theorem dX11_make_28 : decode cX11_make 28 = .ok (.aload_n 0, 1) := by decide +kernel
theorem dX11_make_29 : decode cX11_make 29 = .ok (.getfield 153, 3) := by decide +kernel
theorem dX11_make_32 : decode cX11_make 32 = .ok (.aload_n 0, 1) := by decide +kernel
theorem dX11_make_33 : decode cX11_make 33 = .ok (.getfield 137, 3) := by decide +kernel
theorem dX11_make_36 : decode cX11_make 36 = .ok (.if_icmp .ge 27, 3) := by decide +kernel
theorem dX11_make_39 : decode cX11_make 39 = .ok (.aload_n 0, 1) := by decide +kernel
theorem dX11_make_40 : decode cX11_make 40 = .ok (.invokevirtual 179, 3) := by decide +kernel
theorem dX11_make_43 : decode cX11_make 43 = .ok (.istore 6, 2) := by decide +kernel
theorem dX11_make_45 : decode cX11_make 45 = .ok (.iload 5, 2) := by decide +kernel
theorem dX11_make_47 : decode cX11_make 47 = .ok (.iload 6, 2) := by decide +kernel
theorem dX11_make_49 : decode cX11_make 49 = .ok (.ifCond .eq 7, 3) := by decide +kernel
theorem dX11_make_52 : decode cX11_make 52 = .ok (.iconst 1, 1) := by decide +kernel
theorem dX11_make_53 : decode cX11_make 53 = .ok (.goto 4, 3) := by decide +kernel
theorem dX11_make_56 : decode cX11_make 56 = .ok (.iconst 0, 1) := by decide +kernel
theorem dX11_make_57 : decode cX11_make 57 = .ok (.iadd, 1) := by decide +kernel
theorem dX11_make_58 : decode cX11_make 58 = .ok (.istore 5, 2) := by decide +kernel
theorem dX11_make_60 : decode cX11_make 60 = .ok (.goto (-49), 3) := by decide +kernel
theorem dX11_make_63 : decode cX11_make 63 = .ok (.aload_n 0, 1) := by decide +kernel
theorem dX11_make_64 : decode cX11_make 64 = .ok (.iload 5, 2) := by decide +kernel
theorem dX11_make_66 : decode cX11_make 66 = .ok (.aload_n 0, 1) := by decide +kernel
theorem dX11_make_67 : decode cX11_make 67 = .ok (.getfield 183, 3) := by decide +kernel
theorem dX11_make_70 : decode cX11_make 70 = .ok (.if_icmp .le 8, 3) := by decide +kernel
theorem dX11_make_73 : decode cX11_make 73 = .ok (.iload 5, 2) := by decide +kernel
theorem dX11_make_75 : decode cX11_make 75 = .ok (.goto 7, 3) := by decide +kernel
theorem dX11_make_78 : decode cX11_make 78 = .ok (.aload_n 0, 1) := by decide +kernel
theorem dX11_make_79 : decode cX11_make 79 = .ok (.getfield 183, 3) := by decide +kernel
theorem dX11_make_82 : decode cX11_make 82 = .ok (.putfield 183, 3) := by decide +kernel
theorem dX11_make_85 : decode cX11_make 85 = .ok (.iload 6, 2) := by decide +kernel
theorem dX11_make_87 : decode cX11_make 87 = .ok (.ifCond .ne 6, 3) := by decide +kernel
theorem dX11_make_90 : decode cX11_make 90 = .ok (.bipush 8, 2) := by decide +kernel
theorem dX11_make_92 : decode cX11_make 92 = .ok (.ireturn, 1) := by decide +kernel
theorem dX11_make_93 : decode cX11_make 93 = .ok (.aload_n 0, 1) := by decide +kernel
theorem dX11_make_94 : decode cX11_make 94 = .ok (.getfield 125, 3) := by decide +kernel
theorem dX11_make_97 : decode cX11_make 97 = .ok (.aload_n 0, 1) := by decide +kernel
theorem dX11_make_98 : decode cX11_make 98 = .ok (.getfield 137, 3) := by decide +kernel
theorem dX11_make_101 : decode cX11_make 101 = .ok (.isub, 1) := by decide +kernel
theorem dX11_make_102 : decode cX11_make 102 = .ok (.iload 4, 2) := by decide +kernel
theorem dX11_make_104 : decode cX11_make 104 = .ok (.if_icmp .ge 58, 3) := by decide +kernel
theorem dX11_make_107 : decode cX11_make 107 = .ok (.aload_n 0, 1) := by decide +kernel
theorem dX11_make_108 : decode cX11_make 108 = .ok (.getfield 153, 3) := by decide +kernel
theorem dX11_make_111 : decode cX11_make 111 = .ok (.aload_n 0, 1) := by decide +kernel
theorem dX11_make_112 : decode cX11_make 112 = .ok (.getfield 137, 3) := by decide +kernel
theorem dX11_make_115 : decode cX11_make 115 = .ok (.if_icmp .ge 16, 3) := by decide +kernel
theorem dX11_make_118 : decode cX11_make 118 = .ok (.aload_n 0, 1) := by decide +kernel
theorem dX11_make_119 : decode cX11_make 119 = .ok (.dup, 1) := by decide +kernel
theorem dX11_make_120 : decode cX11_make 120 = .ok (.getfield 186, 3) := by decide +kernel
theorem dX11_make_123 : decode cX11_make 123 = .ok (.iconst 1, 1) := by decide +kernel
theorem dX11_make_124 : decode cX11_make 124 = .ok (.iadd, 1) := by decide +kernel
theorem dX11_make_125 : decode cX11_make 125 = .ok (.putfield 186, 3) := by decide +kernel
theorem dX11_make_128 : decode cX11_make 128 = .ok (.bipush 9, 2) := by decide +kernel
theorem dX11_make_130 : decode cX11_make 130 = .ok (.ireturn, 1) := by decide +kernel
theorem dX11_make_131 : decode cX11_make 131 = .ok (.aload_n 0, 1) := by decide +kernel
theorem dX11_make_132 : decode cX11_make 132 = .ok (.invokevirtual 189, 3) := by decide +kernel
theorem dX11_make_135 : decode cX11_make 135 = .ok (.aload_n 0, 1) := by decide +kernel
theorem dX11_make_136 : decode cX11_make 136 = .ok (.getfield 125, 3) := by decide +kernel
theorem dX11_make_139 : decode cX11_make 139 = .ok (.aload_n 0, 1) := by decide +kernel
theorem dX11_make_140 : decode cX11_make 140 = .ok (.getfield 137, 3) := by decide +kernel
theorem dX11_make_143 : decode cX11_make 143 = .ok (.isub, 1) := by decide +kernel
theorem dX11_make_144 : decode cX11_make 144 = .ok (.iload 4, 2) := by decide +kernel
theorem dX11_make_146 : decode cX11_make 146 = .ok (.if_icmp .ge 16, 3) := by decide +kernel
theorem dX11_make_149 : decode cX11_make 149 = .ok (.aload_n 0, 1) := by decide +kernel
theorem dX11_make_150 : decode cX11_make 150 = .ok (.dup, 1) := by decide +kernel
theorem dX11_make_151 : decode cX11_make 151 = .ok (.getfield 192, 3) := by decide +kernel
theorem dX11_make_154 : decode cX11_make 154 = .ok (.iconst 1, 1) := by decide +kernel
theorem dX11_make_155 : decode cX11_make 155 = .ok (.iadd, 1) := by decide +kernel
theorem dX11_make_156 : decode cX11_make 156 = .ok (.putfield 192, 3) := by decide +kernel
theorem dX11_make_159 : decode cX11_make 159 = .ok (.bipush 10, 2) := by decide +kernel
theorem dX11_make_161 : decode cX11_make 161 = .ok (.ireturn, 1) := by decide +kernel
theorem dX11_make_162 : decode cX11_make 162 = .ok (.iconst 0, 1) := by decide +kernel
theorem dX11_make_163 : decode cX11_make 163 = .ok (.istore 7, 2) := by decide +kernel
theorem dX11_make_165 : decode cX11_make 165 = .ok (.aload_n 0, 1) := by decide +kernel
theorem dX11_make_166 : decode cX11_make 166 = .ok (.getfield 17, 3) := by decide +kernel
theorem dX11_make_169 : decode cX11_make 169 = .ok (.iload 7, 2) := by decide +kernel
theorem dX11_make_171 : decode cX11_make 171 = .ok (.iaload, 1) := by decide +kernel
theorem dX11_make_172 : decode cX11_make 172 = .ok (.iconst (-1), 1) := by decide +kernel
theorem dX11_make_173 : decode cX11_make 173 = .ok (.if_icmp .eq 9, 3) := by decide +kernel
theorem dX11_make_176 : decode cX11_make 176 = .ok (.iinc 7 1, 3) := by decide +kernel
theorem dX11_make_179 : decode cX11_make 179 = .ok (.goto (-14), 3) := by decide +kernel
theorem dX11_make_182 : decode cX11_make 182 = .ok (.aload_n 0, 1) := by decide +kernel
theorem dX11_make_183 : decode cX11_make 183 = .ok (.dup, 1) := by decide +kernel
theorem dX11_make_184 : decode cX11_make 184 = .ok (.getfield 125, 3) := by decide +kernel
theorem dX11_make_187 : decode cX11_make 187 = .ok (.iload 4, 2) := by decide +kernel
theorem dX11_make_189 : decode cX11_make 189 = .ok (.isub, 1) := by decide +kernel
theorem dX11_make_190 : decode cX11_make 190 = .ok (.putfield 125, 3) := by decide +kernel
theorem dX11_make_193 : decode cX11_make 193 = .ok (.aload_n 0, 1) := by decide +kernel
theorem dX11_make_194 : decode cX11_make 194 = .ok (.getfield 17, 3) := by decide +kernel
theorem dX11_make_197 : decode cX11_make 197 = .ok (.iload 7, 2) := by decide +kernel
theorem dX11_make_199 : decode cX11_make 199 = .ok (.aload_n 0, 1) := by decide +kernel
theorem dX11_make_200 : decode cX11_make 200 = .ok (.getfield 134, 3) := by decide +kernel
theorem dX11_make_203 : decode cX11_make 203 = .ok (.iastore, 1) := by decide +kernel
theorem dX11_make_204 : decode cX11_make 204 = .ok (.aload_n 0, 1) := by decide +kernel
theorem dX11_make_205 : decode cX11_make 205 = .ok (.getfield 20, 3) := by decide +kernel
theorem dX11_make_208 : decode cX11_make 208 = .ok (.iload 7, 2) := by decide +kernel
theorem dX11_make_210 : decode cX11_make 210 = .ok (.aload_n 0, 1) := by decide +kernel
theorem dX11_make_211 : decode cX11_make 211 = .ok (.getfield 125, 3) := by decide +kernel
theorem dX11_make_214 : decode cX11_make 214 = .ok (.iastore, 1) := by decide +kernel
theorem dX11_make_215 : decode cX11_make 215 = .ok (.aload_n 0, 1) := by decide +kernel
theorem dX11_make_216 : decode cX11_make 216 = .ok (.getfield 9, 3) := by decide +kernel
theorem dX11_make_219 : decode cX11_make 219 = .ok (.iload 7, 2) := by decide +kernel
theorem dX11_make_221 : decode cX11_make 221 = .ok (.iload_n 3, 1) := by decide +kernel
theorem dX11_make_222 : decode cX11_make 222 = .ok (.bastore, 1) := by decide +kernel
theorem dX11_make_223 : decode cX11_make 223 = .ok (.aload_n 0, 1) := by decide +kernel
theorem dX11_make_224 : decode cX11_make 224 = .ok (.getfield 13, 3) := by decide +kernel
theorem dX11_make_227 : decode cX11_make 227 = .ok (.iload 7, 2) := by decide +kernel
theorem dX11_make_229 : decode cX11_make 229 = .ok (.iload_n 2, 1) := by decide +kernel
theorem dX11_make_230 : decode cX11_make 230 = .ok (.iastore, 1) := by decide +kernel
theorem dX11_make_231 : decode cX11_make 231 = .ok (.iconst 0, 1) := by decide +kernel
theorem dX11_make_232 : decode cX11_make 232 = .ok (.istore 8, 2) := by decide +kernel
theorem dX11_make_234 : decode cX11_make 234 = .ok (.iload 8, 2) := by decide +kernel
theorem dX11_make_236 : decode cX11_make 236 = .ok (.iload_n 2, 1) := by decide +kernel
theorem dX11_make_237 : decode cX11_make 237 = .ok (.if_icmp .ge 45, 3) := by decide +kernel
theorem dX11_make_240 : decode cX11_make 240 = .ok (.aload_n 0, 1) := by decide +kernel
theorem dX11_make_241 : decode cX11_make 241 = .ok (.getfield 24, 3) := by decide +kernel
theorem dX11_make_244 : decode cX11_make 244 = .ok (.bipush 40, 2) := by decide +kernel
theorem dX11_make_246 : decode cX11_make 246 = .ok (.iload 7, 2) := by decide +kernel
theorem dX11_make_248 : decode cX11_make 248 = .ok (.imul, 1) := by decide +kernel
theorem dX11_make_249 : decode cX11_make 249 = .ok (.iload 8, 2) := by decide +kernel
theorem dX11_make_251 : decode cX11_make 251 = .ok (.iadd, 1) := by decide +kernel
theorem dX11_make_252 : decode cX11_make 252 = .ok (.iload_n 3, 1) := by decide +kernel
theorem dX11_make_253 : decode cX11_make 253 = .ok (.ifCond .eq 7, 3) := by decide +kernel
theorem dX11_make_256 : decode cX11_make 256 = .ok (.iconst 1, 1) := by decide +kernel
theorem dX11_make_257 : decode cX11_make 257 = .ok (.goto 4, 3) := by decide +kernel
theorem dX11_make_260 : decode cX11_make 260 = .ok (.iconst 0, 1) := by decide +kernel
theorem dX11_make_261 : decode cX11_make 261 = .ok (.iastore, 1) := by decide +kernel
theorem dX11_make_262 : decode cX11_make 262 = .ok (.aload_n 0, 1) := by decide +kernel
theorem dX11_make_263 : decode cX11_make 263 = .ok (.getfield 27, 3) := by decide +kernel
theorem dX11_make_266 : decode cX11_make 266 = .ok (.bipush 40, 2) := by decide +kernel
theorem dX11_make_268 : decode cX11_make 268 = .ok (.iload 7, 2) := by decide +kernel
theorem dX11_make_270 : decode cX11_make 270 = .ok (.imul, 1) := by decide +kernel
theorem dX11_make_271 : decode cX11_make 271 = .ok (.iload 8, 2) := by decide +kernel
theorem dX11_make_273 : decode cX11_make 273 = .ok (.iadd, 1) := by decide +kernel
theorem dX11_make_274 : decode cX11_make 274 = .ok (.iconst 0, 1) := by decide +kernel
theorem dX11_make_275 : decode cX11_make 275 = .ok (.iastore, 1) := by decide +kernel
theorem dX11_make_276 : decode cX11_make 276 = .ok (.iinc 8 1, 3) := by decide +kernel
theorem dX11_make_279 : decode cX11_make 279 = .ok (.goto (-45), 3) := by decide +kernel
theorem dX11_make_282 : decode cX11_make 282 = .ok (.aload_n 0, 1) := by decide +kernel
theorem dX11_make_283 : decode cX11_make 283 = .ok (.dup, 1) := by decide +kernel
theorem dX11_make_284 : decode cX11_make 284 = .ok (.getfield 195, 3) := by decide +kernel
theorem dX11_make_287 : decode cX11_make 287 = .ok (.iconst 1, 1) := by decide +kernel
theorem dX11_make_288 : decode cX11_make 288 = .ok (.iadd, 1) := by decide +kernel
theorem dX11_make_289 : decode cX11_make 289 = .ok (.putfield 195, 3) := by decide +kernel
theorem dX11_make_292 : decode cX11_make 292 = .ok (.aload_n 0, 1) := by decide +kernel
theorem dX11_make_293 : decode cX11_make 293 = .ok (.getfield 30, 3) := by decide +kernel
theorem dX11_make_296 : decode cX11_make 296 = .ok (.iload_n 1, 1) := by decide +kernel
theorem dX11_make_297 : decode cX11_make 297 = .ok (.iconst 2, 1) := by decide +kernel
theorem dX11_make_298 : decode cX11_make 298 = .ok (.iastore, 1) := by decide +kernel
theorem dX11_make_299 : decode cX11_make 299 = .ok (.aload_n 0, 1) := by decide +kernel
theorem dX11_make_300 : decode cX11_make 300 = .ok (.getfield 33, 3) := by decide +kernel
theorem dX11_make_303 : decode cX11_make 303 = .ok (.iload_n 1, 1) := by decide +kernel
theorem dX11_make_304 : decode cX11_make 304 = .ok (.iload 7, 2) := by decide +kernel
theorem dX11_make_306 : decode cX11_make 306 = .ok (.iastore, 1) := by decide +kernel
theorem dX11_make_307 : decode cX11_make 307 = .ok (.iconst 0, 1) := by decide +kernel
theorem dX11_make_308 : decode cX11_make 308 = .ok (.ireturn, 1) := by decide +kernel
theorem dX11_pass_0 : decode cX11_pass 0 = .ok (.aload_n 0, 1) := by decide +kernel
theorem dX11_pass_1 : decode cX11_pass 1 = .ok (.iconst 0, 1) := by decide +kernel
theorem dX11_pass_2 : decode cX11_pass 2 = .ok (.putfield 131, 3) := by decide +kernel
theorem dX11_pass_5 : decode cX11_pass 5 = .ok (.iload_n 1, 1) := by decide +kernel
theorem dX11_pass_6 : decode cX11_pass 6 = .ok (.ifCond .lt 10, 3) := by decide +kernel
theorem dX11_pass_9 : decode cX11_pass 9 = .ok (.iload_n 1, 1) := by decide +kernel
theorem dX11_pass_10 : decode cX11_pass 10 = .ok (.sipush 1000, 3) := by decide +kernel
theorem dX11_pass_13 : decode cX11_pass 13 = .ok (.if_icmp .le 5, 3) := by decide +kernel
theorem dX11_pass_16 : decode cX11_pass 16 = .ok (.iconst (-1), 1) := by decide +kernel
theorem dX11_pass_17 : decode cX11_pass 17 = .ok (.ireturn, 1) := by decide +kernel
theorem dX11_pass_18 : decode cX11_pass 18 = .ok (.iconst 0, 1) := by decide +kernel
theorem dX11_pass_19 : decode cX11_pass 19 = .ok (.istore_n 2, 1) := by decide +kernel
theorem dX11_pass_20 : decode cX11_pass 20 = .ok (.iload_n 2, 1) := by decide +kernel
theorem dX11_pass_21 : decode cX11_pass 21 = .ok (.iload_n 1, 1) := by decide +kernel
theorem dX11_pass_22 : decode cX11_pass 22 = .ok (.if_icmp .ge 27, 3) := by decide +kernel
theorem dX11_pass_25 : decode cX11_pass 25 = .ok (.aload_n 0, 1) := by decide +kernel
theorem dX11_pass_26 : decode cX11_pass 26 = .ok (.getfield 153, 3) := by decide +kernel
theorem dX11_pass_29 : decode cX11_pass 29 = .ok (.aload_n 0, 1) := by decide +kernel
theorem dX11_pass_30 : decode cX11_pass 30 = .ok (.getfield 137, 3) := by decide +kernel
theorem dX11_pass_33 : decode cX11_pass 33 = .ok (.if_icmp .ge 16, 3) := by decide +kernel
theorem dX11_pass_36 : decode cX11_pass 36 = .ok (.aload_n 0, 1) := by decide +kernel
theorem dX11_pass_37 : decode cX11_pass 37 = .ok (.invokevirtual 179, 3) := by decide +kernel
theorem dX11_pass_40 : decode cX11_pass 40 = .ok (.ifCond .eq 9, 3) := by decide +kernel
theorem dX11_pass_43 : decode cX11_pass 43 = .ok (.iinc 2 1, 3) := by decide +kernel
theorem dX11_pass_46 : decode cX11_pass 46 = .ok (.goto (-26), 3) := by decide +kernel
theorem dX11_pass_49 : decode cX11_pass 49 = .ok (.iload_n 2, 1) := by decide +kernel
theorem dX11_pass_50 : decode cX11_pass 50 = .ok (.ireturn, 1) := by decide +kernel
theorem dX11_turn_0 : decode cX11_turn 0 = .ok (.aload_n 0, 1) := by decide +kernel
theorem dX11_turn_1 : decode cX11_turn 1 = .ok (.iconst 0, 1) := by decide +kernel
theorem dX11_turn_2 : decode cX11_turn 2 = .ok (.putfield 131, 3) := by decide +kernel
theorem dX11_turn_5 : decode cX11_turn 5 = .ok (.aload_n 0, 1) := by decide +kernel
theorem dX11_turn_6 : decode cX11_turn 6 = .ok (.getfield 153, 3) := by decide +kernel
theorem dX11_turn_9 : decode cX11_turn 9 = .ok (.aload_n 0, 1) := by decide +kernel
theorem dX11_turn_10 : decode cX11_turn 10 = .ok (.getfield 137, 3) := by decide +kernel
theorem dX11_turn_13 : decode cX11_turn 13 = .ok (.if_icmp .ge 5, 3) := by decide +kernel
theorem dX11_turn_16 : decode cX11_turn 16 = .ok (.iconst 0, 1) := by decide +kernel
theorem dX11_turn_17 : decode cX11_turn 17 = .ok (.ireturn, 1) := by decide +kernel
theorem dX11_turn_18 : decode cX11_turn 18 = .ok (.aload_n 0, 1) := by decide +kernel
theorem dX11_turn_19 : decode cX11_turn 19 = .ok (.invokevirtual 189, 3) := by decide +kernel
theorem dX11_turn_22 : decode cX11_turn 22 = .ok (.iconst 1, 1) := by decide +kernel
theorem dX11_turn_23 : decode cX11_turn 23 = .ok (.ireturn, 1) := by decide +kernel
theorem dX11_memory_0 : decode cX11_memory 0 = .ok (.aload_n 0, 1) := by decide +kernel
theorem dX11_memory_1 : decode cX11_memory 1 = .ok (.iconst 0, 1) := by decide +kernel
theorem dX11_memory_2 : decode cX11_memory 2 = .ok (.putfield 131, 3) := by decide +kernel
theorem dX11_memory_5 : decode cX11_memory 5 = .ok (.iload_n 1, 1) := by decide +kernel
theorem dX11_memory_6 : decode cX11_memory 6 = .ok (.tableswitch 149 0 14 #[74, 79, 84, 89, 94, 99, 104, 109, 114, 119, 124, 129, 134, 139, 144], 74) := by decide +kernel
theorem dX11_memory_80 : decode cX11_memory 80 = .ok (.aload_n 0, 1) := by decide +kernel
theorem dX11_memory_81 : decode cX11_memory 81 = .ok (.getfield 137, 3) := by decide +kernel
theorem dX11_memory_84 : decode cX11_memory 84 = .ok (.ireturn, 1) := by decide +kernel
theorem dX11_memory_85 : decode cX11_memory 85 = .ok (.aload_n 0, 1) := by decide +kernel
theorem dX11_memory_86 : decode cX11_memory 86 = .ok (.getfield 153, 3) := by decide +kernel
theorem dX11_memory_89 : decode cX11_memory 89 = .ok (.ireturn, 1) := by decide +kernel
theorem dX11_memory_90 : decode cX11_memory 90 = .ok (.aload_n 0, 1) := by decide +kernel
theorem dX11_memory_91 : decode cX11_memory 91 = .ok (.getfield 125, 3) := by decide +kernel
theorem dX11_memory_94 : decode cX11_memory 94 = .ok (.ireturn, 1) := by decide +kernel
theorem dX11_memory_95 : decode cX11_memory 95 = .ok (.aload_n 0, 1) := by decide +kernel
theorem dX11_memory_96 : decode cX11_memory 96 = .ok (.getfield 134, 3) := by decide +kernel
theorem dX11_memory_99 : decode cX11_memory 99 = .ok (.ireturn, 1) := by decide +kernel
theorem dX11_memory_100 : decode cX11_memory 100 = .ok (.aload_n 0, 1) := by decide +kernel
theorem dX11_memory_101 : decode cX11_memory 101 = .ok (.getfield 170, 3) := by decide +kernel
theorem dX11_memory_104 : decode cX11_memory 104 = .ok (.ireturn, 1) := by decide +kernel
theorem dX11_memory_105 : decode cX11_memory 105 = .ok (.aload_n 0, 1) := by decide +kernel
theorem dX11_memory_106 : decode cX11_memory 106 = .ok (.getfield 150, 3) := by decide +kernel
theorem dX11_memory_109 : decode cX11_memory 109 = .ok (.ireturn, 1) := by decide +kernel
theorem dX11_memory_110 : decode cX11_memory 110 = .ok (.aload_n 0, 1) := by decide +kernel
theorem dX11_memory_111 : decode cX11_memory 111 = .ok (.getfield 167, 3) := by decide +kernel
theorem dX11_memory_114 : decode cX11_memory 114 = .ok (.ireturn, 1) := by decide +kernel
theorem dX11_memory_115 : decode cX11_memory 115 = .ok (.aload_n 0, 1) := by decide +kernel
theorem dX11_memory_116 : decode cX11_memory 116 = .ok (.getfield 195, 3) := by decide +kernel
theorem dX11_memory_119 : decode cX11_memory 119 = .ok (.ireturn, 1) := by decide +kernel
theorem dX11_memory_120 : decode cX11_memory 120 = .ok (.aload_n 0, 1) := by decide +kernel
theorem dX11_memory_121 : decode cX11_memory 121 = .ok (.getfield 144, 3) := by decide +kernel
theorem dX11_memory_124 : decode cX11_memory 124 = .ok (.ireturn, 1) := by decide +kernel
theorem dX11_memory_125 : decode cX11_memory 125 = .ok (.aload_n 0, 1) := by decide +kernel
theorem dX11_memory_126 : decode cX11_memory 126 = .ok (.getfield 186, 3) := by decide +kernel
theorem dX11_memory_129 : decode cX11_memory 129 = .ok (.ireturn, 1) := by decide +kernel
theorem dX11_memory_130 : decode cX11_memory 130 = .ok (.aload_n 0, 1) := by decide +kernel
theorem dX11_memory_131 : decode cX11_memory 131 = .ok (.getfield 192, 3) := by decide +kernel
theorem dX11_memory_134 : decode cX11_memory 134 = .ok (.ireturn, 1) := by decide +kernel
theorem dX11_memory_135 : decode cX11_memory 135 = .ok (.aload_n 0, 1) := by decide +kernel
theorem dX11_memory_136 : decode cX11_memory 136 = .ok (.getfield 183, 3) := by decide +kernel
theorem dX11_memory_139 : decode cX11_memory 139 = .ok (.ireturn, 1) := by decide +kernel
theorem dX11_memory_140 : decode cX11_memory 140 = .ok (.aload_n 0, 1) := by decide +kernel
theorem dX11_memory_141 : decode cX11_memory 141 = .ok (.getfield 176, 3) := by decide +kernel
theorem dX11_memory_144 : decode cX11_memory 144 = .ok (.ireturn, 1) := by decide +kernel
theorem dX11_memory_145 : decode cX11_memory 145 = .ok (.aload_n 0, 1) := by decide +kernel
theorem dX11_memory_146 : decode cX11_memory 146 = .ok (.getfield 119, 3) := by decide +kernel
theorem dX11_memory_149 : decode cX11_memory 149 = .ok (.ireturn, 1) := by decide +kernel
theorem dX11_memory_150 : decode cX11_memory 150 = .ok (.aload_n 0, 1) := by decide +kernel
theorem dX11_memory_151 : decode cX11_memory 151 = .ok (.getfield 122, 3) := by decide +kernel
theorem dX11_memory_154 : decode cX11_memory 154 = .ok (.ireturn, 1) := by decide +kernel
theorem dX11_memory_155 : decode cX11_memory 155 = .ok (.iconst (-1), 1) := by decide +kernel
theorem dX11_memory_156 : decode cX11_memory 156 = .ok (.ireturn, 1) := by decide +kernel
theorem dX11_isNumber_0 : decode cX11_isNumber 0 = .ok (.aload_n 0, 1) := by decide +kernel
theorem dX11_isNumber_1 : decode cX11_isNumber 1 = .ok (.getfield 30, 3) := by decide +kernel
theorem dX11_isNumber_4 : decode cX11_isNumber 4 = .ok (.iload_n 1, 1) := by decide +kernel
theorem dX11_isNumber_5 : decode cX11_isNumber 5 = .ok (.iaload, 1) := by decide +kernel
theorem dX11_isNumber_6 : decode cX11_isNumber 6 = .ok (.ifCond .ne 7, 3) := by decide +kernel
theorem dX11_isNumber_9 : decode cX11_isNumber 9 = .ok (.iconst 1, 1) := by decide +kernel
theorem dX11_isNumber_10 : decode cX11_isNumber 10 = .ok (.goto 4, 3) := by decide +kernel
theorem dX11_isNumber_13 : decode cX11_isNumber 13 = .ok (.iconst 0, 1) := by decide +kernel
theorem dX11_isNumber_14 : decode cX11_isNumber 14 = .ok (.ireturn, 1) := by decide +kernel
theorem dX11_isThing_0 : decode cX11_isThing 0 = .ok (.aload_n 0, 1) := by decide +kernel
theorem dX11_isThing_1 : decode cX11_isThing 1 = .ok (.getfield 30, 3) := by decide +kernel
theorem dX11_isThing_4 : decode cX11_isThing 4 = .ok (.iload_n 1, 1) := by decide +kernel
theorem dX11_isThing_5 : decode cX11_isThing 5 = .ok (.iaload, 1) := by decide +kernel
theorem dX11_isThing_6 : decode cX11_isThing 6 = .ok (.iconst 2, 1) := by decide +kernel
theorem dX11_isThing_7 : decode cX11_isThing 7 = .ok (.if_icmp .ne 7, 3) := by decide +kernel
theorem dX11_isThing_10 : decode cX11_isThing 10 = .ok (.iconst 1, 1) := by decide +kernel
theorem dX11_isThing_11 : decode cX11_isThing 11 = .ok (.goto 4, 3) := by decide +kernel
theorem dX11_isThing_14 : decode cX11_isThing 14 = .ok (.iconst 0, 1) := by decide +kernel
theorem dX11_isThing_15 : decode cX11_isThing 15 = .ok (.ireturn, 1) := by decide +kernel
theorem dX11_give_0 : decode cX11_give 0 = .ok (.aload_n 0, 1) := by decide +kernel
theorem dX11_give_1 : decode cX11_give 1 = .ok (.getfield 30, 3) := by decide +kernel
theorem dX11_give_4 : decode cX11_give 4 = .ok (.iload_n 1, 1) := by decide +kernel
theorem dX11_give_5 : decode cX11_give 5 = .ok (.iload_n 2, 1) := by decide +kernel
theorem dX11_give_6 : decode cX11_give 6 = .ok (.iastore, 1) := by decide +kernel
theorem dX11_give_7 : decode cX11_give 7 = .ok (.aload_n 0, 1) := by decide +kernel
theorem dX11_give_8 : decode cX11_give 8 = .ok (.getfield 33, 3) := by decide +kernel
theorem dX11_give_11 : decode cX11_give 11 = .ok (.iload_n 1, 1) := by decide +kernel
theorem dX11_give_12 : decode cX11_give 12 = .ok (.iload_n 3, 1) := by decide +kernel
theorem dX11_give_13 : decode cX11_give 13 = .ok (.iastore, 1) := by decide +kernel
theorem dX11_give_14 : decode cX11_give 14 = .ok (.return_, 1) := by decide +kernel
theorem dX11_makes_0 : decode cX11_makes 0 = .ok (.iload_n 2, 1) := by decide +kernel
theorem dX11_makes_1 : decode cX11_makes 1 = .ok (.ifCond .lt 9, 3) := by decide +kernel
theorem dX11_makes_4 : decode cX11_makes 4 = .ok (.iload_n 2, 1) := by decide +kernel
theorem dX11_makes_5 : decode cX11_makes 5 = .ok (.bipush 40, 2) := by decide +kernel
theorem dX11_makes_7 : decode cX11_makes 7 = .ok (.if_icmp .le 7, 3) := by decide +kernel
theorem dX11_makes_10 : decode cX11_makes 10 = .ok (.iconst 4, 1) := by decide +kernel
theorem dX11_makes_11 : decode cX11_makes 11 = .ok (.goto 10, 3) := by decide +kernel
theorem dX11_makes_14 : decode cX11_makes 14 = .ok (.aload_n 0, 1) := by decide +kernel
theorem dX11_makes_15 : decode cX11_makes 15 = .ok (.iload_n 1, 1) := by decide +kernel
theorem dX11_makes_16 : decode cX11_makes 16 = .ok (.iload_n 2, 1) := by decide +kernel
theorem dX11_makes_17 : decode cX11_makes 17 = .ok (.iload_n 3, 1) := by decide +kernel
theorem dX11_makes_18 : decode cX11_makes 18 = .ok (.invokevirtual 198, 3) := by decide +kernel
theorem dX11_makes_21 : decode cX11_makes 21 = .ok (.ireturn, 1) := by decide +kernel
theorem dX11_reads_0 : decode cX11_reads 0 = .ok (.aload_n 0, 1) := by decide +kernel
theorem dX11_reads_1 : decode cX11_reads 1 = .ok (.iload_n 2, 1) := by decide +kernel
theorem dX11_reads_2 : decode cX11_reads 2 = .ok (.invokevirtual 202, 3) := by decide +kernel
theorem dX11_reads_5 : decode cX11_reads 5 = .ok (.ifCond .ne 5, 3) := by decide +kernel
theorem dX11_reads_8 : decode cX11_reads 8 = .ok (.iconst 2, 1) := by decide +kernel
theorem dX11_reads_9 : decode cX11_reads 9 = .ok (.ireturn, 1) := by decide +kernel
theorem dX11_reads_10 : decode cX11_reads 10 = .ok (.aload_n 0, 1) := by decide +kernel
theorem dX11_reads_11 : decode cX11_reads 11 = .ok (.getfield 33, 3) := by decide +kernel
theorem dX11_reads_14 : decode cX11_reads 14 = .ok (.iload_n 2, 1) := by decide +kernel
theorem dX11_reads_15 : decode cX11_reads 15 = .ok (.iaload, 1) := by decide +kernel
theorem dX11_reads_16 : decode cX11_reads 16 = .ok (.istore 4, 2) := by decide +kernel
theorem dX11_reads_18 : decode cX11_reads 18 = .ok (.iload_n 3, 1) := by decide +kernel
theorem dX11_reads_19 : decode cX11_reads 19 = .ok (.ifCond .lt 14, 3) := by decide +kernel
theorem dX11_reads_22 : decode cX11_reads 22 = .ok (.iload_n 3, 1) := by decide +kernel
theorem dX11_reads_23 : decode cX11_reads 23 = .ok (.aload_n 0, 1) := by decide +kernel
theorem dX11_reads_24 : decode cX11_reads 24 = .ok (.getfield 13, 3) := by decide +kernel
theorem dX11_reads_27 : decode cX11_reads 27 = .ok (.iload 4, 2) := by decide +kernel
theorem dX11_reads_29 : decode cX11_reads 29 = .ok (.iaload, 1) := by decide +kernel
theorem dX11_reads_30 : decode cX11_reads 30 = .ok (.if_icmp .lt 5, 3) := by decide +kernel
theorem dX11_reads_33 : decode cX11_reads 33 = .ok (.iconst 3, 1) := by decide +kernel
theorem dX11_reads_34 : decode cX11_reads 34 = .ok (.ireturn, 1) := by decide +kernel
theorem dX11_reads_35 : decode cX11_reads 35 = .ok (.bipush 40, 2) := by decide +kernel
theorem dX11_reads_37 : decode cX11_reads 37 = .ok (.iload 4, 2) := by decide +kernel
theorem dX11_reads_39 : decode cX11_reads 39 = .ok (.imul, 1) := by decide +kernel
theorem dX11_reads_40 : decode cX11_reads 40 = .ok (.iload_n 3, 1) := by decide +kernel
theorem dX11_reads_41 : decode cX11_reads 41 = .ok (.iadd, 1) := by decide +kernel
theorem dX11_reads_42 : decode cX11_reads 42 = .ok (.istore 5, 2) := by decide +kernel
theorem dX11_reads_44 : decode cX11_reads 44 = .ok (.aload_n 0, 1) := by decide +kernel
theorem dX11_reads_45 : decode cX11_reads 45 = .ok (.aload_n 0, 1) := by decide +kernel
theorem dX11_reads_46 : decode cX11_reads 46 = .ok (.getfield 24, 3) := by decide +kernel
theorem dX11_reads_49 : decode cX11_reads 49 = .ok (.iload 5, 2) := by decide +kernel
theorem dX11_reads_51 : decode cX11_reads 51 = .ok (.iaload, 1) := by decide +kernel
theorem dX11_reads_52 : decode cX11_reads 52 = .ok (.aload_n 0, 1) := by decide +kernel
theorem dX11_reads_53 : decode cX11_reads 53 = .ok (.getfield 27, 3) := by decide +kernel
theorem dX11_reads_56 : decode cX11_reads 56 = .ok (.iload 5, 2) := by decide +kernel
theorem dX11_reads_58 : decode cX11_reads 58 = .ok (.iaload, 1) := by decide +kernel
theorem dX11_reads_59 : decode cX11_reads 59 = .ok (.invokevirtual 159, 3) := by decide +kernel
theorem dX11_reads_62 : decode cX11_reads 62 = .ok (.ifCond .eq 20, 3) := by decide +kernel
theorem dX11_reads_65 : decode cX11_reads 65 = .ok (.aload_n 0, 1) := by decide +kernel
theorem dX11_reads_66 : decode cX11_reads 66 = .ok (.aload_n 0, 1) := by decide +kernel
theorem dX11_reads_67 : decode cX11_reads 67 = .ok (.getfield 27, 3) := by decide +kernel
theorem dX11_reads_70 : decode cX11_reads 70 = .ok (.iload 5, 2) := by decide +kernel
theorem dX11_reads_72 : decode cX11_reads 72 = .ok (.iaload, 1) := by decide +kernel
theorem dX11_reads_73 : decode cX11_reads 73 = .ok (.invokevirtual 163, 3) := by decide +kernel
theorem dX11_reads_76 : decode cX11_reads 76 = .ok (.ifCond .ne 6, 3) := by decide +kernel
theorem dX11_reads_79 : decode cX11_reads 79 = .ok (.bipush 8, 2) := by decide +kernel
theorem dX11_reads_81 : decode cX11_reads 81 = .ok (.ireturn, 1) := by decide +kernel
theorem dX11_reads_82 : decode cX11_reads 82 = .ok (.aload_n 0, 1) := by decide +kernel
theorem dX11_reads_83 : decode cX11_reads 83 = .ok (.iload_n 1, 1) := by decide +kernel
theorem dX11_reads_84 : decode cX11_reads 84 = .ok (.aload_n 0, 1) := by decide +kernel
theorem dX11_reads_85 : decode cX11_reads 85 = .ok (.getfield 24, 3) := by decide +kernel
theorem dX11_reads_88 : decode cX11_reads 88 = .ok (.iload 5, 2) := by decide +kernel
theorem dX11_reads_90 : decode cX11_reads 90 = .ok (.iaload, 1) := by decide +kernel
theorem dX11_reads_91 : decode cX11_reads 91 = .ok (.aload_n 0, 1) := by decide +kernel
theorem dX11_reads_92 : decode cX11_reads 92 = .ok (.getfield 27, 3) := by decide +kernel
theorem dX11_reads_95 : decode cX11_reads 95 = .ok (.iload 5, 2) := by decide +kernel
theorem dX11_reads_97 : decode cX11_reads 97 = .ok (.iaload, 1) := by decide +kernel
theorem dX11_reads_98 : decode cX11_reads 98 = .ok (.invokevirtual 205, 3) := by decide +kernel
theorem dX11_reads_101 : decode cX11_reads 101 = .ok (.iconst 0, 1) := by decide +kernel
theorem dX11_reads_102 : decode cX11_reads 102 = .ok (.ireturn, 1) := by decide +kernel
theorem dX11_writes_0 : decode cX11_writes 0 = .ok (.aload_n 0, 1) := by decide +kernel
theorem dX11_writes_1 : decode cX11_writes 1 = .ok (.iload_n 1, 1) := by decide +kernel
theorem dX11_writes_2 : decode cX11_writes 2 = .ok (.invokevirtual 202, 3) := by decide +kernel
theorem dX11_writes_5 : decode cX11_writes 5 = .ok (.ifCond .ne 5, 3) := by decide +kernel
theorem dX11_writes_8 : decode cX11_writes 8 = .ok (.iconst 2, 1) := by decide +kernel
theorem dX11_writes_9 : decode cX11_writes 9 = .ok (.ireturn, 1) := by decide +kernel
theorem dX11_writes_10 : decode cX11_writes 10 = .ok (.aload_n 0, 1) := by decide +kernel
theorem dX11_writes_11 : decode cX11_writes 11 = .ok (.getfield 33, 3) := by decide +kernel
theorem dX11_writes_14 : decode cX11_writes 14 = .ok (.iload_n 1, 1) := by decide +kernel
theorem dX11_writes_15 : decode cX11_writes 15 = .ok (.iaload, 1) := by decide +kernel
theorem dX11_writes_16 : decode cX11_writes 16 = .ok (.istore 4, 2) := by decide +kernel
theorem dX11_writes_18 : decode cX11_writes 18 = .ok (.iload_n 2, 1) := by decide +kernel
theorem dX11_writes_19 : decode cX11_writes 19 = .ok (.ifCond .lt 14, 3) := by decide +kernel
theorem dX11_writes_22 : decode cX11_writes 22 = .ok (.iload_n 2, 1) := by decide +kernel
theorem dX11_writes_23 : decode cX11_writes 23 = .ok (.aload_n 0, 1) := by decide +kernel
theorem dX11_writes_24 : decode cX11_writes 24 = .ok (.getfield 13, 3) := by decide +kernel
theorem dX11_writes_27 : decode cX11_writes 27 = .ok (.iload 4, 2) := by decide +kernel
theorem dX11_writes_29 : decode cX11_writes 29 = .ok (.iaload, 1) := by decide +kernel
theorem dX11_writes_30 : decode cX11_writes 30 = .ok (.if_icmp .lt 5, 3) := by decide +kernel
theorem dX11_writes_33 : decode cX11_writes 33 = .ok (.iconst 3, 1) := by decide +kernel
theorem dX11_writes_34 : decode cX11_writes 34 = .ok (.ireturn, 1) := by decide +kernel
theorem dX11_writes_35 : decode cX11_writes 35 = .ok (.aload_n 0, 1) := by decide +kernel
theorem dX11_writes_36 : decode cX11_writes 36 = .ok (.getfield 9, 3) := by decide +kernel
theorem dX11_writes_39 : decode cX11_writes 39 = .ok (.iload 4, 2) := by decide +kernel
theorem dX11_writes_41 : decode cX11_writes 41 = .ok (.baload, 1) := by decide +kernel
theorem dX11_writes_42 : decode cX11_writes 42 = .ok (.ifCond .ne 13, 3) := by decide +kernel
theorem dX11_writes_45 : decode cX11_writes 45 = .ok (.aload_n 0, 1) := by decide +kernel
theorem dX11_writes_46 : decode cX11_writes 46 = .ok (.iload_n 3, 1) := by decide +kernel
theorem dX11_writes_47 : decode cX11_writes 47 = .ok (.invokevirtual 209, 3) := by decide +kernel
theorem dX11_writes_50 : decode cX11_writes 50 = .ok (.ifCond .ne 5, 3) := by decide +kernel
theorem dX11_writes_53 : decode cX11_writes 53 = .ok (.iconst 5, 1) := by decide +kernel
theorem dX11_writes_54 : decode cX11_writes 54 = .ok (.ireturn, 1) := by decide +kernel
theorem dX11_writes_55 : decode cX11_writes 55 = .ok (.aload_n 0, 1) := by decide +kernel
theorem dX11_writes_56 : decode cX11_writes 56 = .ok (.getfield 24, 3) := by decide +kernel
theorem dX11_writes_59 : decode cX11_writes 59 = .ok (.bipush 40, 2) := by decide +kernel
theorem dX11_writes_61 : decode cX11_writes 61 = .ok (.iload 4, 2) := by decide +kernel
theorem dX11_writes_63 : decode cX11_writes 63 = .ok (.imul, 1) := by decide +kernel
theorem dX11_writes_64 : decode cX11_writes 64 = .ok (.iload_n 2, 1) := by decide +kernel
theorem dX11_writes_65 : decode cX11_writes 65 = .ok (.iadd, 1) := by decide +kernel
theorem dX11_writes_66 : decode cX11_writes 66 = .ok (.aload_n 0, 1) := by decide +kernel
theorem dX11_writes_67 : decode cX11_writes 67 = .ok (.getfield 30, 3) := by decide +kernel
theorem dX11_writes_70 : decode cX11_writes 70 = .ok (.iload_n 3, 1) := by decide +kernel
theorem dX11_writes_71 : decode cX11_writes 71 = .ok (.iaload, 1) := by decide +kernel
theorem dX11_writes_72 : decode cX11_writes 72 = .ok (.iastore, 1) := by decide +kernel
theorem dX11_writes_73 : decode cX11_writes 73 = .ok (.aload_n 0, 1) := by decide +kernel
theorem dX11_writes_74 : decode cX11_writes 74 = .ok (.getfield 27, 3) := by decide +kernel
theorem dX11_writes_77 : decode cX11_writes 77 = .ok (.bipush 40, 2) := by decide +kernel
theorem dX11_writes_79 : decode cX11_writes 79 = .ok (.iload 4, 2) := by decide +kernel
theorem dX11_writes_81 : decode cX11_writes 81 = .ok (.imul, 1) := by decide +kernel
theorem dX11_writes_82 : decode cX11_writes 82 = .ok (.iload_n 2, 1) := by decide +kernel
theorem dX11_writes_83 : decode cX11_writes 83 = .ok (.iadd, 1) := by decide +kernel
theorem dX11_writes_84 : decode cX11_writes 84 = .ok (.aload_n 0, 1) := by decide +kernel
theorem dX11_writes_85 : decode cX11_writes 85 = .ok (.getfield 33, 3) := by decide +kernel
theorem dX11_writes_88 : decode cX11_writes 88 = .ok (.iload_n 3, 1) := by decide +kernel
theorem dX11_writes_89 : decode cX11_writes 89 = .ok (.iaload, 1) := by decide +kernel
theorem dX11_writes_90 : decode cX11_writes 90 = .ok (.iastore, 1) := by decide +kernel
theorem dX11_writes_91 : decode cX11_writes 91 = .ok (.iconst 0, 1) := by decide +kernel
theorem dX11_writes_92 : decode cX11_writes 92 = .ok (.ireturn, 1) := by decide +kernel
theorem dX11_sortOf_0 : decode cX11_sortOf 0 = .ok (.iload_n 1, 1) := by decide +kernel
theorem dX11_sortOf_1 : decode cX11_sortOf 1 = .ok (.ifCond .ne 7, 3) := by decide +kernel
theorem dX11_sortOf_4 : decode cX11_sortOf 4 = .ok (.iconst 0, 1) := by decide +kernel
theorem dX11_sortOf_5 : decode cX11_sortOf 5 = .ok (.goto 26, 3) := by decide +kernel
theorem dX11_sortOf_8 : decode cX11_sortOf 8 = .ok (.iload_n 1, 1) := by decide +kernel
theorem dX11_sortOf_9 : decode cX11_sortOf 9 = .ok (.iconst 1, 1) := by decide +kernel
theorem dX11_sortOf_10 : decode cX11_sortOf 10 = .ok (.if_icmp .ne 7, 3) := by decide +kernel
theorem dX11_sortOf_13 : decode cX11_sortOf 13 = .ok (.iconst 1, 1) := by decide +kernel
theorem dX11_sortOf_14 : decode cX11_sortOf 14 = .ok (.goto 17, 3) := by decide +kernel
theorem dX11_sortOf_17 : decode cX11_sortOf 17 = .ok (.aload_n 0, 1) := by decide +kernel
theorem dX11_sortOf_18 : decode cX11_sortOf 18 = .ok (.getfield 9, 3) := by decide +kernel
theorem dX11_sortOf_21 : decode cX11_sortOf 21 = .ok (.iload_n 2, 1) := by decide +kernel
theorem dX11_sortOf_22 : decode cX11_sortOf 22 = .ok (.baload, 1) := by decide +kernel
theorem dX11_sortOf_23 : decode cX11_sortOf 23 = .ok (.ifCond .eq 7, 3) := by decide +kernel
theorem dX11_sortOf_26 : decode cX11_sortOf 26 = .ok (.iconst 2, 1) := by decide +kernel
theorem dX11_sortOf_27 : decode cX11_sortOf 27 = .ok (.goto 4, 3) := by decide +kernel
theorem dX11_sortOf_30 : decode cX11_sortOf 30 = .ok (.iconst 3, 1) := by decide +kernel
theorem dX11_sortOf_31 : decode cX11_sortOf 31 = .ok (.ireturn, 1) := by decide +kernel
theorem dX11_reckons_0 : decode cX11_reckons 0 = .ok (.aload_n 0, 1) := by decide +kernel
theorem dX11_reckons_1 : decode cX11_reckons 1 = .ok (.iload_n 3, 1) := by decide +kernel
theorem dX11_reckons_2 : decode cX11_reckons 2 = .ok (.invokevirtual 209, 3) := by decide +kernel
theorem dX11_reckons_5 : decode cX11_reckons 5 = .ok (.ifCond .eq 12, 3) := by decide +kernel
theorem dX11_reckons_8 : decode cX11_reckons 8 = .ok (.aload_n 0, 1) := by decide +kernel
theorem dX11_reckons_9 : decode cX11_reckons 9 = .ok (.iload 4, 2) := by decide +kernel
theorem dX11_reckons_11 : decode cX11_reckons 11 = .ok (.invokevirtual 209, 3) := by decide +kernel
theorem dX11_reckons_14 : decode cX11_reckons 14 = .ok (.ifCond .ne 5, 3) := by decide +kernel
theorem dX11_reckons_17 : decode cX11_reckons 17 = .ok (.iconst 1, 1) := by decide +kernel
theorem dX11_reckons_18 : decode cX11_reckons 18 = .ok (.ireturn, 1) := by decide +kernel
theorem dX11_reckons_19 : decode cX11_reckons 19 = .ok (.aload_n 0, 1) := by decide +kernel
theorem dX11_reckons_20 : decode cX11_reckons 20 = .ok (.getfield 33, 3) := by decide +kernel
theorem dX11_reckons_23 : decode cX11_reckons 23 = .ok (.iload_n 3, 1) := by decide +kernel
theorem dX11_reckons_24 : decode cX11_reckons 24 = .ok (.iaload, 1) := by decide +kernel
theorem dX11_reckons_25 : decode cX11_reckons 25 = .ok (.istore 5, 2) := by decide +kernel
theorem dX11_reckons_27 : decode cX11_reckons 27 = .ok (.aload_n 0, 1) := by decide +kernel
theorem dX11_reckons_28 : decode cX11_reckons 28 = .ok (.getfield 33, 3) := by decide +kernel
theorem dX11_reckons_31 : decode cX11_reckons 31 = .ok (.iload 4, 2) := by decide +kernel
theorem dX11_reckons_33 : decode cX11_reckons 33 = .ok (.iaload, 1) := by decide +kernel
theorem dX11_reckons_34 : decode cX11_reckons 34 = .ok (.istore 6, 2) := by decide +kernel
theorem dX11_reckons_36 : decode cX11_reckons 36 = .ok (.aload_n 0, 1) := by decide +kernel
theorem dX11_reckons_37 : decode cX11_reckons 37 = .ok (.iload_n 2, 1) := by decide +kernel
theorem dX11_reckons_38 : decode cX11_reckons 38 = .ok (.iconst 0, 1) := by decide +kernel
theorem dX11_reckons_39 : decode cX11_reckons 39 = .ok (.iload_n 1, 1) := by decide +kernel
theorem dX11_reckons_40 : decode cX11_reckons 40 = .ok (.bipush 13, 2) := by decide +kernel
theorem dX11_reckons_42 : decode cX11_reckons 42 = .ok (.if_icmp .ne 11, 3) := by decide +kernel
theorem dX11_reckons_45 : decode cX11_reckons 45 = .ok (.iload 5, 2) := by decide +kernel
theorem dX11_reckons_47 : decode cX11_reckons 47 = .ok (.iload 6, 2) := by decide +kernel
theorem dX11_reckons_49 : decode cX11_reckons 49 = .ok (.iadd, 1) := by decide +kernel
theorem dX11_reckons_50 : decode cX11_reckons 50 = .ok (.goto 43, 3) := by decide +kernel
theorem dX11_reckons_53 : decode cX11_reckons 53 = .ok (.iload_n 1, 1) := by decide +kernel
theorem dX11_reckons_54 : decode cX11_reckons 54 = .ok (.bipush 14, 2) := by decide +kernel
theorem dX11_reckons_56 : decode cX11_reckons 56 = .ok (.if_icmp .ne 11, 3) := by decide +kernel
theorem dX11_reckons_59 : decode cX11_reckons 59 = .ok (.iload 5, 2) := by decide +kernel
theorem dX11_reckons_61 : decode cX11_reckons 61 = .ok (.iload 6, 2) := by decide +kernel
theorem dX11_reckons_63 : decode cX11_reckons 63 = .ok (.isub, 1) := by decide +kernel
theorem dX11_reckons_64 : decode cX11_reckons 64 = .ok (.goto 29, 3) := by decide +kernel
theorem dX11_reckons_67 : decode cX11_reckons 67 = .ok (.iload_n 1, 1) := by decide +kernel
theorem dX11_reckons_68 : decode cX11_reckons 68 = .ok (.bipush 15, 2) := by decide +kernel
theorem dX11_reckons_70 : decode cX11_reckons 70 = .ok (.if_icmp .ne 11, 3) := by decide +kernel
theorem dX11_reckons_73 : decode cX11_reckons 73 = .ok (.iload 5, 2) := by decide +kernel
theorem dX11_reckons_75 : decode cX11_reckons 75 = .ok (.iload 6, 2) := by decide +kernel
theorem dX11_reckons_77 : decode cX11_reckons 77 = .ok (.imul, 1) := by decide +kernel
theorem dX11_reckons_78 : decode cX11_reckons 78 = .ok (.goto 15, 3) := by decide +kernel
theorem dX11_reckons_81 : decode cX11_reckons 81 = .ok (.iload 5, 2) := by decide +kernel
theorem dX11_reckons_83 : decode cX11_reckons 83 = .ok (.iload 6, 2) := by decide +kernel
theorem dX11_reckons_85 : decode cX11_reckons 85 = .ok (.if_icmp .ge 7, 3) := by decide +kernel
theorem dX11_reckons_88 : decode cX11_reckons 88 = .ok (.iconst 1, 1) := by decide +kernel
theorem dX11_reckons_89 : decode cX11_reckons 89 = .ok (.goto 4, 3) := by decide +kernel
theorem dX11_reckons_92 : decode cX11_reckons 92 = .ok (.iconst 0, 1) := by decide +kernel
theorem dX11_reckons_93 : decode cX11_reckons 93 = .ok (.invokevirtual 205, 3) := by decide +kernel
theorem dX11_reckons_96 : decode cX11_reckons 96 = .ok (.iconst 0, 1) := by decide +kernel
theorem dX11_reckons_97 : decode cX11_reckons 97 = .ok (.ireturn, 1) := by decide +kernel
theorem dX11_does_0 : decode cX11_does 0 = .ok (.iload_n 1, 1) := by decide +kernel
theorem dX11_does_1 : decode cX11_does 1 = .ok (.tableswitch 460 0 19 #[95, 104, 123, 132, 132, 149, 149, 183, 192, 219, 228, 254, 283, 460, 460, 460, 460, 307, 362, 409], 95) := by decide +kernel
theorem dX11_does_96 : decode cX11_does 96 = .ok (.aload_n 0, 1) := by decide +kernel
theorem dX11_does_97 : decode cX11_does 97 = .ok (.iload_n 2, 1) := by decide +kernel
theorem dX11_does_98 : decode cX11_does 98 = .ok (.iconst 0, 1) := by decide +kernel
theorem dX11_does_99 : decode cX11_does 99 = .ok (.iload_n 3, 1) := by decide +kernel
theorem dX11_does_100 : decode cX11_does 100 = .ok (.invokevirtual 205, 3) := by decide +kernel
theorem dX11_does_103 : decode cX11_does 103 = .ok (.iconst 0, 1) := by decide +kernel
theorem dX11_does_104 : decode cX11_does 104 = .ok (.ireturn, 1) := by decide +kernel
theorem dX11_does_105 : decode cX11_does 105 = .ok (.aload_n 0, 1) := by decide +kernel
theorem dX11_does_106 : decode cX11_does 106 = .ok (.iload_n 2, 1) := by decide +kernel
theorem dX11_does_107 : decode cX11_does 107 = .ok (.aload_n 0, 1) := by decide +kernel
theorem dX11_does_108 : decode cX11_does 108 = .ok (.getfield 30, 3) := by decide +kernel
theorem dX11_does_111 : decode cX11_does 111 = .ok (.iload_n 3, 1) := by decide +kernel
theorem dX11_does_112 : decode cX11_does 112 = .ok (.iaload, 1) := by decide +kernel
theorem dX11_does_113 : decode cX11_does 113 = .ok (.aload_n 0, 1) := by decide +kernel
theorem dX11_does_114 : decode cX11_does 114 = .ok (.getfield 33, 3) := by decide +kernel
theorem dX11_does_117 : decode cX11_does 117 = .ok (.iload_n 3, 1) := by decide +kernel
theorem dX11_does_118 : decode cX11_does 118 = .ok (.iaload, 1) := by decide +kernel
theorem dX11_does_119 : decode cX11_does 119 = .ok (.invokevirtual 205, 3) := by decide +kernel
theorem dX11_does_122 : decode cX11_does 122 = .ok (.iconst 0, 1) := by decide +kernel
theorem dX11_does_123 : decode cX11_does 123 = .ok (.ireturn, 1) := by decide +kernel
theorem dX11_does_124 : decode cX11_does 124 = .ok (.aload_n 0, 1) := by decide +kernel
theorem dX11_does_125 : decode cX11_does 125 = .ok (.iload_n 2, 1) := by decide +kernel
theorem dX11_does_126 : decode cX11_does 126 = .ok (.iconst 1, 1) := by decide +kernel
theorem dX11_does_127 : decode cX11_does 127 = .ok (.iconst 0, 1) := by decide +kernel
theorem dX11_does_128 : decode cX11_does 128 = .ok (.invokevirtual 205, 3) := by decide +kernel
theorem dX11_does_131 : decode cX11_does 131 = .ok (.iconst 0, 1) := by decide +kernel
theorem dX11_does_132 : decode cX11_does 132 = .ok (.ireturn, 1) := by decide +kernel
theorem dX11_does_133 : decode cX11_does 133 = .ok (.aload_n 0, 1) := by decide +kernel
theorem dX11_does_134 : decode cX11_does 134 = .ok (.iload_n 2, 1) := by decide +kernel
theorem dX11_does_135 : decode cX11_does 135 = .ok (.iload_n 3, 1) := by decide +kernel
theorem dX11_does_136 : decode cX11_does 136 = .ok (.iload_n 1, 1) := by decide +kernel
theorem dX11_does_137 : decode cX11_does 137 = .ok (.iconst 3, 1) := by decide +kernel
theorem dX11_does_138 : decode cX11_does 138 = .ok (.if_icmp .ne 7, 3) := by decide +kernel
theorem dX11_does_141 : decode cX11_does 141 = .ok (.iconst 1, 1) := by decide +kernel
theorem dX11_does_142 : decode cX11_does 142 = .ok (.goto 4, 3) := by decide +kernel
theorem dX11_does_145 : decode cX11_does 145 = .ok (.iconst 0, 1) := by decide +kernel
theorem dX11_does_146 : decode cX11_does 146 = .ok (.invokevirtual 212, 3) := by decide +kernel
theorem dX11_does_149 : decode cX11_does 149 = .ok (.ireturn, 1) := by decide +kernel
theorem dX11_does_150 : decode cX11_does 150 = .ok (.aload_n 0, 1) := by decide +kernel
theorem dX11_does_151 : decode cX11_does 151 = .ok (.iload_n 3, 1) := by decide +kernel
theorem dX11_does_152 : decode cX11_does 152 = .ok (.invokevirtual 209, 3) := by decide +kernel
theorem dX11_does_155 : decode cX11_does 155 = .ok (.ifCond .eq 27, 3) := by decide +kernel
theorem dX11_does_158 : decode cX11_does 158 = .ok (.aload_n 0, 1) := by decide +kernel
theorem dX11_does_159 : decode cX11_does 159 = .ok (.iload_n 2, 1) := by decide +kernel
theorem dX11_does_160 : decode cX11_does 160 = .ok (.aload_n 0, 1) := by decide +kernel
theorem dX11_does_161 : decode cX11_does 161 = .ok (.getfield 33, 3) := by decide +kernel
theorem dX11_does_164 : decode cX11_does 164 = .ok (.iload_n 3, 1) := by decide +kernel
theorem dX11_does_165 : decode cX11_does 165 = .ok (.iaload, 1) := by decide +kernel
theorem dX11_does_166 : decode cX11_does 166 = .ok (.iload_n 1, 1) := by decide +kernel
theorem dX11_does_167 : decode cX11_does 167 = .ok (.iconst 5, 1) := by decide +kernel
theorem dX11_does_168 : decode cX11_does 168 = .ok (.if_icmp .ne 7, 3) := by decide +kernel
theorem dX11_does_171 : decode cX11_does 171 = .ok (.iconst 1, 1) := by decide +kernel
theorem dX11_does_172 : decode cX11_does 172 = .ok (.goto 4, 3) := by decide +kernel
theorem dX11_does_175 : decode cX11_does 175 = .ok (.iconst 0, 1) := by decide +kernel
theorem dX11_does_176 : decode cX11_does 176 = .ok (.invokevirtual 212, 3) := by decide +kernel
theorem dX11_does_179 : decode cX11_does 179 = .ok (.goto 4, 3) := by decide +kernel
theorem dX11_does_182 : decode cX11_does 182 = .ok (.iconst 1, 1) := by decide +kernel
theorem dX11_does_183 : decode cX11_does 183 = .ok (.ireturn, 1) := by decide +kernel
theorem dX11_does_184 : decode cX11_does 184 = .ok (.aload_n 0, 1) := by decide +kernel
theorem dX11_does_185 : decode cX11_does 185 = .ok (.iload_n 2, 1) := by decide +kernel
theorem dX11_does_186 : decode cX11_does 186 = .ok (.iload_n 3, 1) := by decide +kernel
theorem dX11_does_187 : decode cX11_does 187 = .ok (.iload 4, 2) := by decide +kernel
theorem dX11_does_189 : decode cX11_does 189 = .ok (.invokevirtual 215, 3) := by decide +kernel
theorem dX11_does_192 : decode cX11_does 192 = .ok (.ireturn, 1) := by decide +kernel
theorem dX11_does_193 : decode cX11_does 193 = .ok (.aload_n 0, 1) := by decide +kernel
theorem dX11_does_194 : decode cX11_does 194 = .ok (.iload 4, 2) := by decide +kernel
theorem dX11_does_196 : decode cX11_does 196 = .ok (.invokevirtual 209, 3) := by decide +kernel
theorem dX11_does_199 : decode cX11_does 199 = .ok (.ifCond .eq 19, 3) := by decide +kernel
theorem dX11_does_202 : decode cX11_does 202 = .ok (.aload_n 0, 1) := by decide +kernel
theorem dX11_does_203 : decode cX11_does 203 = .ok (.iload_n 2, 1) := by decide +kernel
theorem dX11_does_204 : decode cX11_does 204 = .ok (.iload_n 3, 1) := by decide +kernel
theorem dX11_does_205 : decode cX11_does 205 = .ok (.aload_n 0, 1) := by decide +kernel
theorem dX11_does_206 : decode cX11_does 206 = .ok (.getfield 33, 3) := by decide +kernel
theorem dX11_does_209 : decode cX11_does 209 = .ok (.iload 4, 2) := by decide +kernel
theorem dX11_does_211 : decode cX11_does 211 = .ok (.iaload, 1) := by decide +kernel
theorem dX11_does_212 : decode cX11_does 212 = .ok (.invokevirtual 215, 3) := by decide +kernel
theorem dX11_does_215 : decode cX11_does 215 = .ok (.goto 4, 3) := by decide +kernel
theorem dX11_does_218 : decode cX11_does 218 = .ok (.iconst 1, 1) := by decide +kernel
theorem dX11_does_219 : decode cX11_does 219 = .ok (.ireturn, 1) := by decide +kernel
theorem dX11_does_220 : decode cX11_does 220 = .ok (.aload_n 0, 1) := by decide +kernel
theorem dX11_does_221 : decode cX11_does 221 = .ok (.iload_n 2, 1) := by decide +kernel
theorem dX11_does_222 : decode cX11_does 222 = .ok (.iload_n 3, 1) := by decide +kernel
theorem dX11_does_223 : decode cX11_does 223 = .ok (.iload 4, 2) := by decide +kernel
theorem dX11_does_225 : decode cX11_does 225 = .ok (.invokevirtual 219, 3) := by decide +kernel
theorem dX11_does_228 : decode cX11_does 228 = .ok (.ireturn, 1) := by decide +kernel
theorem dX11_does_229 : decode cX11_does 229 = .ok (.aload_n 0, 1) := by decide +kernel
theorem dX11_does_230 : decode cX11_does 230 = .ok (.iload_n 3, 1) := by decide +kernel
theorem dX11_does_231 : decode cX11_does 231 = .ok (.invokevirtual 209, 3) := by decide +kernel
theorem dX11_does_234 : decode cX11_does 234 = .ok (.ifCond .eq 19, 3) := by decide +kernel
theorem dX11_does_237 : decode cX11_does 237 = .ok (.aload_n 0, 1) := by decide +kernel
theorem dX11_does_238 : decode cX11_does 238 = .ok (.iload_n 2, 1) := by decide +kernel
theorem dX11_does_239 : decode cX11_does 239 = .ok (.aload_n 0, 1) := by decide +kernel
theorem dX11_does_240 : decode cX11_does 240 = .ok (.getfield 33, 3) := by decide +kernel
theorem dX11_does_243 : decode cX11_does 243 = .ok (.iload_n 3, 1) := by decide +kernel
theorem dX11_does_244 : decode cX11_does 244 = .ok (.iaload, 1) := by decide +kernel
theorem dX11_does_245 : decode cX11_does 245 = .ok (.iload 4, 2) := by decide +kernel
theorem dX11_does_247 : decode cX11_does 247 = .ok (.invokevirtual 219, 3) := by decide +kernel
theorem dX11_does_250 : decode cX11_does 250 = .ok (.goto 4, 3) := by decide +kernel
theorem dX11_does_253 : decode cX11_does 253 = .ok (.iconst 1, 1) := by decide +kernel
theorem dX11_does_254 : decode cX11_does 254 = .ok (.ireturn, 1) := by decide +kernel
theorem dX11_does_255 : decode cX11_does 255 = .ok (.aload_n 0, 1) := by decide +kernel
theorem dX11_does_256 : decode cX11_does 256 = .ok (.iload_n 3, 1) := by decide +kernel
theorem dX11_does_257 : decode cX11_does 257 = .ok (.invokevirtual 202, 3) := by decide +kernel
theorem dX11_does_260 : decode cX11_does 260 = .ok (.ifCond .ne 5, 3) := by decide +kernel
theorem dX11_does_263 : decode cX11_does 263 = .ok (.iconst 2, 1) := by decide +kernel
theorem dX11_does_264 : decode cX11_does 264 = .ok (.ireturn, 1) := by decide +kernel
theorem dX11_does_265 : decode cX11_does 265 = .ok (.aload_n 0, 1) := by decide +kernel
theorem dX11_does_266 : decode cX11_does 266 = .ok (.iload_n 2, 1) := by decide +kernel
theorem dX11_does_267 : decode cX11_does 267 = .ok (.iconst 0, 1) := by decide +kernel
theorem dX11_does_268 : decode cX11_does 268 = .ok (.aload_n 0, 1) := by decide +kernel
theorem dX11_does_269 : decode cX11_does 269 = .ok (.getfield 13, 3) := by decide +kernel
theorem dX11_does_272 : decode cX11_does 272 = .ok (.aload_n 0, 1) := by decide +kernel
theorem dX11_does_273 : decode cX11_does 273 = .ok (.getfield 33, 3) := by decide +kernel
theorem dX11_does_276 : decode cX11_does 276 = .ok (.iload_n 3, 1) := by decide +kernel
theorem dX11_does_277 : decode cX11_does 277 = .ok (.iaload, 1) := by decide +kernel
theorem dX11_does_278 : decode cX11_does 278 = .ok (.iaload, 1) := by decide +kernel
theorem dX11_does_279 : decode cX11_does 279 = .ok (.invokevirtual 205, 3) := by decide +kernel
theorem dX11_does_282 : decode cX11_does 282 = .ok (.iconst 0, 1) := by decide +kernel
theorem dX11_does_283 : decode cX11_does 283 = .ok (.ireturn, 1) := by decide +kernel
theorem dX11_does_284 : decode cX11_does 284 = .ok (.aload_n 0, 1) := by decide +kernel
theorem dX11_does_285 : decode cX11_does 285 = .ok (.iload_n 2, 1) := by decide +kernel
theorem dX11_does_286 : decode cX11_does 286 = .ok (.iconst 0, 1) := by decide +kernel
theorem dX11_does_287 : decode cX11_does 287 = .ok (.aload_n 0, 1) := by decide +kernel
theorem dX11_does_288 : decode cX11_does 288 = .ok (.aload_n 0, 1) := by decide +kernel
theorem dX11_does_289 : decode cX11_does 289 = .ok (.getfield 30, 3) := by decide +kernel
theorem dX11_does_292 : decode cX11_does 292 = .ok (.iload_n 3, 1) := by decide +kernel
theorem dX11_does_293 : decode cX11_does 293 = .ok (.iaload, 1) := by decide +kernel
theorem dX11_does_294 : decode cX11_does 294 = .ok (.aload_n 0, 1) := by decide +kernel
theorem dX11_does_295 : decode cX11_does 295 = .ok (.getfield 33, 3) := by decide +kernel
theorem dX11_does_298 : decode cX11_does 298 = .ok (.iload_n 3, 1) := by decide +kernel
theorem dX11_does_299 : decode cX11_does 299 = .ok (.iaload, 1) := by decide +kernel
theorem dX11_does_300 : decode cX11_does 300 = .ok (.invokevirtual 222, 3) := by decide +kernel
theorem dX11_does_303 : decode cX11_does 303 = .ok (.invokevirtual 205, 3) := by decide +kernel
theorem dX11_does_306 : decode cX11_does 306 = .ok (.iconst 0, 1) := by decide +kernel
theorem dX11_does_307 : decode cX11_does 307 = .ok (.ireturn, 1) := by decide +kernel
theorem dX11_does_308 : decode cX11_does 308 = .ok (.aload_n 0, 1) := by decide +kernel
theorem dX11_does_309 : decode cX11_does 309 = .ok (.iload_n 2, 1) := by decide +kernel
theorem dX11_does_310 : decode cX11_does 310 = .ok (.iconst 0, 1) := by decide +kernel
theorem dX11_does_311 : decode cX11_does 311 = .ok (.aload_n 0, 1) := by decide +kernel
theorem dX11_does_312 : decode cX11_does 312 = .ok (.getfield 30, 3) := by decide +kernel
theorem dX11_does_315 : decode cX11_does 315 = .ok (.iload_n 3, 1) := by decide +kernel
theorem dX11_does_316 : decode cX11_does 316 = .ok (.iaload, 1) := by decide +kernel
theorem dX11_does_317 : decode cX11_does 317 = .ok (.aload_n 0, 1) := by decide +kernel
theorem dX11_does_318 : decode cX11_does 318 = .ok (.getfield 30, 3) := by decide +kernel
theorem dX11_does_321 : decode cX11_does 321 = .ok (.iload 4, 2) := by decide +kernel
theorem dX11_does_323 : decode cX11_does 323 = .ok (.iaload, 1) := by decide +kernel
theorem dX11_does_324 : decode cX11_does 324 = .ok (.if_icmp .ne 33, 3) := by decide +kernel
theorem dX11_does_327 : decode cX11_does 327 = .ok (.aload_n 0, 1) := by decide +kernel
theorem dX11_does_328 : decode cX11_does 328 = .ok (.getfield 30, 3) := by decide +kernel
theorem dX11_does_331 : decode cX11_does 331 = .ok (.iload_n 3, 1) := by decide +kernel
theorem dX11_does_332 : decode cX11_does 332 = .ok (.iaload, 1) := by decide +kernel
theorem dX11_does_333 : decode cX11_does 333 = .ok (.iconst 1, 1) := by decide +kernel
theorem dX11_does_334 : decode cX11_does 334 = .ok (.if_icmp .eq 19, 3) := by decide +kernel
theorem dX11_does_337 : decode cX11_does 337 = .ok (.aload_n 0, 1) := by decide +kernel
theorem dX11_does_338 : decode cX11_does 338 = .ok (.getfield 33, 3) := by decide +kernel
theorem dX11_does_341 : decode cX11_does 341 = .ok (.iload_n 3, 1) := by decide +kernel
theorem dX11_does_342 : decode cX11_does 342 = .ok (.iaload, 1) := by decide +kernel
theorem dX11_does_343 : decode cX11_does 343 = .ok (.aload_n 0, 1) := by decide +kernel
theorem dX11_does_344 : decode cX11_does 344 = .ok (.getfield 33, 3) := by decide +kernel
theorem dX11_does_347 : decode cX11_does 347 = .ok (.iload 4, 2) := by decide +kernel
theorem dX11_does_349 : decode cX11_does 349 = .ok (.iaload, 1) := by decide +kernel
theorem dX11_does_350 : decode cX11_does 350 = .ok (.if_icmp .ne 7, 3) := by decide +kernel
theorem dX11_does_353 : decode cX11_does 353 = .ok (.iconst 1, 1) := by decide +kernel
theorem dX11_does_354 : decode cX11_does 354 = .ok (.goto 4, 3) := by decide +kernel
theorem dX11_does_357 : decode cX11_does 357 = .ok (.iconst 0, 1) := by decide +kernel
theorem dX11_does_358 : decode cX11_does 358 = .ok (.invokevirtual 205, 3) := by decide +kernel
theorem dX11_does_361 : decode cX11_does 361 = .ok (.iconst 0, 1) := by decide +kernel
theorem dX11_does_362 : decode cX11_does 362 = .ok (.ireturn, 1) := by decide +kernel
theorem dX11_does_363 : decode cX11_does 363 = .ok (.aload_n 0, 1) := by decide +kernel
theorem dX11_does_364 : decode cX11_does 364 = .ok (.getfield 173, 3) := by decide +kernel
theorem dX11_does_367 : decode cX11_does 367 = .ok (.bipush 50, 2) := by decide +kernel
theorem dX11_does_369 : decode cX11_does 369 = .ok (.if_icmp .ne 6, 3) := by decide +kernel
theorem dX11_does_372 : decode cX11_does 372 = .ok (.bipush 6, 2) := by decide +kernel
theorem dX11_does_374 : decode cX11_does 374 = .ok (.ireturn, 1) := by decide +kernel
theorem dX11_does_375 : decode cX11_does 375 = .ok (.aload_n 0, 1) := by decide +kernel
theorem dX11_does_376 : decode cX11_does 376 = .ok (.bipush 8, 2) := by decide +kernel
theorem dX11_does_378 : decode cX11_does 378 = .ok (.aload_n 0, 1) := by decide +kernel
theorem dX11_does_379 : decode cX11_does 379 = .ok (.getfield 173, 3) := by decide +kernel
theorem dX11_does_382 : decode cX11_does 382 = .ok (.iadd, 1) := by decide +kernel
theorem dX11_does_383 : decode cX11_does 383 = .ok (.aload_n 0, 1) := by decide +kernel
theorem dX11_does_384 : decode cX11_does 384 = .ok (.getfield 30, 3) := by decide +kernel
theorem dX11_does_387 : decode cX11_does 387 = .ok (.iload_n 2, 1) := by decide +kernel
theorem dX11_does_388 : decode cX11_does 388 = .ok (.iaload, 1) := by decide +kernel
theorem dX11_does_389 : decode cX11_does 389 = .ok (.aload_n 0, 1) := by decide +kernel
theorem dX11_does_390 : decode cX11_does 390 = .ok (.getfield 33, 3) := by decide +kernel
theorem dX11_does_393 : decode cX11_does 393 = .ok (.iload_n 2, 1) := by decide +kernel
theorem dX11_does_394 : decode cX11_does 394 = .ok (.iaload, 1) := by decide +kernel
theorem dX11_does_395 : decode cX11_does 395 = .ok (.invokevirtual 205, 3) := by decide +kernel
theorem dX11_does_398 : decode cX11_does 398 = .ok (.aload_n 0, 1) := by decide +kernel
theorem dX11_does_399 : decode cX11_does 399 = .ok (.dup, 1) := by decide +kernel
theorem dX11_does_400 : decode cX11_does 400 = .ok (.getfield 173, 3) := by decide +kernel
theorem dX11_does_403 : decode cX11_does 403 = .ok (.iconst 1, 1) := by decide +kernel
theorem dX11_does_404 : decode cX11_does 404 = .ok (.iadd, 1) := by decide +kernel
theorem dX11_does_405 : decode cX11_does 405 = .ok (.putfield 173, 3) := by decide +kernel
theorem dX11_does_408 : decode cX11_does 408 = .ok (.iconst 0, 1) := by decide +kernel
theorem dX11_does_409 : decode cX11_does 409 = .ok (.ireturn, 1) := by decide +kernel
theorem dX11_does_410 : decode cX11_does 410 = .ok (.aload_n 0, 1) := by decide +kernel
theorem dX11_does_411 : decode cX11_does 411 = .ok (.getfield 173, 3) := by decide +kernel
theorem dX11_does_414 : decode cX11_does 414 = .ok (.ifCond .ne 6, 3) := by decide +kernel
theorem dX11_does_417 : decode cX11_does 417 = .ok (.bipush 6, 2) := by decide +kernel
theorem dX11_does_419 : decode cX11_does 419 = .ok (.ireturn, 1) := by decide +kernel
theorem dX11_does_420 : decode cX11_does 420 = .ok (.aload_n 0, 1) := by decide +kernel
theorem dX11_does_421 : decode cX11_does 421 = .ok (.dup, 1) := by decide +kernel
theorem dX11_does_422 : decode cX11_does 422 = .ok (.getfield 173, 3) := by decide +kernel
theorem dX11_does_425 : decode cX11_does 425 = .ok (.iconst 1, 1) := by decide +kernel
theorem dX11_does_426 : decode cX11_does 426 = .ok (.isub, 1) := by decide +kernel
theorem dX11_does_427 : decode cX11_does 427 = .ok (.putfield 173, 3) := by decide +kernel
theorem dX11_does_430 : decode cX11_does 430 = .ok (.aload_n 0, 1) := by decide +kernel
theorem dX11_does_431 : decode cX11_does 431 = .ok (.iload_n 2, 1) := by decide +kernel
theorem dX11_does_432 : decode cX11_does 432 = .ok (.aload_n 0, 1) := by decide +kernel
theorem dX11_does_433 : decode cX11_does 433 = .ok (.getfield 30, 3) := by decide +kernel
theorem dX11_does_436 : decode cX11_does 436 = .ok (.bipush 8, 2) := by decide +kernel
theorem dX11_does_438 : decode cX11_does 438 = .ok (.aload_n 0, 1) := by decide +kernel
theorem dX11_does_439 : decode cX11_does 439 = .ok (.getfield 173, 3) := by decide +kernel
theorem dX11_does_442 : decode cX11_does 442 = .ok (.iadd, 1) := by decide +kernel
theorem dX11_does_443 : decode cX11_does 443 = .ok (.iaload, 1) := by decide +kernel
theorem dX11_does_444 : decode cX11_does 444 = .ok (.aload_n 0, 1) := by decide +kernel
theorem dX11_does_445 : decode cX11_does 445 = .ok (.getfield 33, 3) := by decide +kernel
theorem dX11_does_448 : decode cX11_does 448 = .ok (.bipush 8, 2) := by decide +kernel
theorem dX11_does_450 : decode cX11_does 450 = .ok (.aload_n 0, 1) := by decide +kernel
theorem dX11_does_451 : decode cX11_does 451 = .ok (.getfield 173, 3) := by decide +kernel
theorem dX11_does_454 : decode cX11_does 454 = .ok (.iadd, 1) := by decide +kernel
theorem dX11_does_455 : decode cX11_does 455 = .ok (.iaload, 1) := by decide +kernel
theorem dX11_does_456 : decode cX11_does 456 = .ok (.invokevirtual 205, 3) := by decide +kernel
theorem dX11_does_459 : decode cX11_does 459 = .ok (.iconst 0, 1) := by decide +kernel
theorem dX11_does_460 : decode cX11_does 460 = .ok (.ireturn, 1) := by decide +kernel
theorem dX11_does_461 : decode cX11_does 461 = .ok (.aload_n 0, 1) := by decide +kernel
theorem dX11_does_462 : decode cX11_does 462 = .ok (.iload_n 1, 1) := by decide +kernel
theorem dX11_does_463 : decode cX11_does 463 = .ok (.iload_n 2, 1) := by decide +kernel
theorem dX11_does_464 : decode cX11_does 464 = .ok (.iload_n 3, 1) := by decide +kernel
theorem dX11_does_465 : decode cX11_does 465 = .ok (.iload 4, 2) := by decide +kernel
theorem dX11_does_467 : decode cX11_does 467 = .ok (.invokevirtual 226, 3) := by decide +kernel
theorem dX11_does_470 : decode cX11_does 470 = .ok (.ireturn, 1) := by decide +kernel
theorem dX11_many_0 : decode cX11_many 0 = .ok (.iload_n 0, 1) := by decide +kernel
theorem dX11_many_1 : decode cX11_many 1 = .ok (.ifCond .ne 7, 3) := by decide +kernel
theorem dX11_many_4 : decode cX11_many 4 = .ok (.iconst 0, 1) := by decide +kernel
theorem dX11_many_5 : decode cX11_many 5 = .ok (.goto 24, 3) := by decide +kernel
theorem dX11_many_8 : decode cX11_many 8 = .ok (.iload_n 0, 1) := by decide +kernel
theorem dX11_many_9 : decode cX11_many 9 = .ok (.bipush 10, 2) := by decide +kernel
theorem dX11_many_11 : decode cX11_many 11 = .ok (.if_icmp .ge 7, 3) := by decide +kernel
theorem dX11_many_14 : decode cX11_many 14 = .ok (.iconst 1, 1) := by decide +kernel
theorem dX11_many_15 : decode cX11_many 15 = .ok (.goto 14, 3) := by decide +kernel
theorem dX11_many_18 : decode cX11_many 18 = .ok (.iload_n 0, 1) := by decide +kernel
theorem dX11_many_19 : decode cX11_many 19 = .ok (.bipush 100, 2) := by decide +kernel
theorem dX11_many_21 : decode cX11_many 21 = .ok (.if_icmp .ge 7, 3) := by decide +kernel
theorem dX11_many_24 : decode cX11_many 24 = .ok (.iconst 2, 1) := by decide +kernel
theorem dX11_many_25 : decode cX11_many 25 = .ok (.goto 4, 3) := by decide +kernel
theorem dX11_many_28 : decode cX11_many 28 = .ok (.iconst 3, 1) := by decide +kernel
theorem dX11_many_29 : decode cX11_many 29 = .ok (.ireturn, 1) := by decide +kernel
theorem dX11_kindOf_0 : decode cX11_kindOf 0 = .ok (.iload_n 0, 1) := by decide +kernel
theorem dX11_kindOf_1 : decode cX11_kindOf 1 = .ok (.invokestatic 230, 3) := by decide +kernel
theorem dX11_kindOf_4 : decode cX11_kindOf 4 = .ok (.iconst 1, 1) := by decide +kernel
theorem dX11_kindOf_5 : decode cX11_kindOf 5 = .ok (.isub, 1) := by decide +kernel
theorem dX11_kindOf_6 : decode cX11_kindOf 6 = .ok (.iload_n 1, 1) := by decide +kernel
theorem dX11_kindOf_7 : decode cX11_kindOf 7 = .ok (.isub, 1) := by decide +kernel
theorem dX11_kindOf_8 : decode cX11_kindOf 8 = .ok (.istore_n 2, 1) := by decide +kernel
theorem dX11_kindOf_9 : decode cX11_kindOf 9 = .ok (.iload_n 0, 1) := by decide +kernel
theorem dX11_kindOf_10 : decode cX11_kindOf 10 = .ok (.istore_n 3, 1) := by decide +kernel
theorem dX11_kindOf_11 : decode cX11_kindOf 11 = .ok (.iload_n 2, 1) := by decide +kernel
theorem dX11_kindOf_12 : decode cX11_kindOf 12 = .ok (.ifCond .le 14, 3) := by decide +kernel
theorem dX11_kindOf_15 : decode cX11_kindOf 15 = .ok (.iload_n 3, 1) := by decide +kernel
theorem dX11_kindOf_16 : decode cX11_kindOf 16 = .ok (.bipush 10, 2) := by decide +kernel
theorem dX11_kindOf_18 : decode cX11_kindOf 18 = .ok (.idiv, 1) := by decide +kernel
theorem dX11_kindOf_19 : decode cX11_kindOf 19 = .ok (.istore_n 3, 1) := by decide +kernel
theorem dX11_kindOf_20 : decode cX11_kindOf 20 = .ok (.iinc 2 (-1), 3) := by decide +kernel
theorem dX11_kindOf_23 : decode cX11_kindOf 23 = .ok (.goto (-12), 3) := by decide +kernel
theorem dX11_kindOf_26 : decode cX11_kindOf 26 = .ok (.iload_n 3, 1) := by decide +kernel
theorem dX11_kindOf_27 : decode cX11_kindOf 27 = .ok (.bipush 10, 2) := by decide +kernel
theorem dX11_kindOf_29 : decode cX11_kindOf 29 = .ok (.irem, 1) := by decide +kernel
theorem dX11_kindOf_30 : decode cX11_kindOf 30 = .ok (.ireturn, 1) := by decide +kernel
theorem dX11_act_0 : decode cX11_act 0 = .ok (.aload_n 0, 1) := by decide +kernel
theorem dX11_act_1 : decode cX11_act 1 = .ok (.iconst 0, 1) := by decide +kernel
theorem dX11_act_2 : decode cX11_act 2 = .ok (.putfield 131, 3) := by decide +kernel
theorem dX11_act_5 : decode cX11_act 5 = .ok (.iload_n 1, 1) := by decide +kernel
theorem dX11_act_6 : decode cX11_act 6 = .ok (.ifCond .lt 9, 3) := by decide +kernel
theorem dX11_act_9 : decode cX11_act 9 = .ok (.iload_n 1, 1) := by decide +kernel
theorem dX11_act_10 : decode cX11_act 10 = .ok (.bipush 19, 2) := by decide +kernel
theorem dX11_act_12 : decode cX11_act 12 = .ok (.if_icmp .le 5, 3) := by decide +kernel
theorem dX11_act_15 : decode cX11_act 15 = .ok (.iconst (-1), 1) := by decide +kernel
theorem dX11_act_16 : decode cX11_act 16 = .ok (.ireturn, 1) := by decide +kernel
theorem dX11_act_17 : decode cX11_act 17 = .ok (.iconst 0, 1) := by decide +kernel
theorem dX11_act_18 : decode cX11_act 18 = .ok (.istore 5, 2) := by decide +kernel
theorem dX11_act_20 : decode cX11_act 20 = .ok (.iload 5, 2) := by decide +kernel
theorem dX11_act_22 : decode cX11_act 22 = .ok (.getstatic 232, 3) := by decide +kernel
theorem dX11_act_25 : decode cX11_act 25 = .ok (.iload_n 1, 1) := by decide +kernel
theorem dX11_act_26 : decode cX11_act 26 = .ok (.iaload, 1) := by decide +kernel
theorem dX11_act_27 : decode cX11_act 27 = .ok (.invokestatic 230, 3) := by decide +kernel
theorem dX11_act_30 : decode cX11_act 30 = .ok (.if_icmp .ge 60, 3) := by decide +kernel
theorem dX11_act_33 : decode cX11_act 33 = .ok (.iload 5, 2) := by decide +kernel
theorem dX11_act_35 : decode cX11_act 35 = .ok (.ifCond .ne 7, 3) := by decide +kernel
theorem dX11_act_38 : decode cX11_act 38 = .ok (.iload_n 2, 1) := by decide +kernel
theorem dX11_act_39 : decode cX11_act 39 = .ok (.goto 15, 3) := by decide +kernel
theorem dX11_act_42 : decode cX11_act 42 = .ok (.iload 5, 2) := by decide +kernel
theorem dX11_act_44 : decode cX11_act 44 = .ok (.iconst 1, 1) := by decide +kernel
theorem dX11_act_45 : decode cX11_act 45 = .ok (.if_icmp .ne 7, 3) := by decide +kernel
theorem dX11_act_48 : decode cX11_act 48 = .ok (.iload_n 3, 1) := by decide +kernel
theorem dX11_act_49 : decode cX11_act 49 = .ok (.goto 5, 3) := by decide +kernel
theorem dX11_act_52 : decode cX11_act 52 = .ok (.iload 4, 2) := by decide +kernel
theorem dX11_act_54 : decode cX11_act 54 = .ok (.istore 6, 2) := by decide +kernel
theorem dX11_act_56 : decode cX11_act 56 = .ok (.getstatic 232, 3) := by decide +kernel
theorem dX11_act_59 : decode cX11_act 59 = .ok (.iload_n 1, 1) := by decide +kernel
theorem dX11_act_60 : decode cX11_act 60 = .ok (.iaload, 1) := by decide +kernel
theorem dX11_act_61 : decode cX11_act 61 = .ok (.iload 5, 2) := by decide +kernel
theorem dX11_act_63 : decode cX11_act 63 = .ok (.invokestatic 235, 3) := by decide +kernel
theorem dX11_act_66 : decode cX11_act 66 = .ok (.iconst 1, 1) := by decide +kernel
theorem dX11_act_67 : decode cX11_act 67 = .ok (.if_icmp .ne 17, 3) := by decide +kernel
theorem dX11_act_70 : decode cX11_act 70 = .ok (.iload 6, 2) := by decide +kernel
theorem dX11_act_72 : decode cX11_act 72 = .ok (.ifCond .lt 10, 3) := by decide +kernel
theorem dX11_act_75 : decode cX11_act 75 = .ok (.iload 6, 2) := by decide +kernel
theorem dX11_act_77 : decode cX11_act 77 = .ok (.bipush 7, 2) := by decide +kernel
theorem dX11_act_79 : decode cX11_act 79 = .ok (.if_icmp .le 5, 3) := by decide +kernel
theorem dX11_act_82 : decode cX11_act 82 = .ok (.iconst (-1), 1) := by decide +kernel
theorem dX11_act_83 : decode cX11_act 83 = .ok (.ireturn, 1) := by decide +kernel
theorem dX11_act_84 : decode cX11_act 84 = .ok (.iinc 5 1, 3) := by decide +kernel
theorem dX11_act_87 : decode cX11_act 87 = .ok (.goto (-67), 3) := by decide +kernel
theorem dX11_act_90 : decode cX11_act 90 = .ok (.aload_n 0, 1) := by decide +kernel
theorem dX11_act_91 : decode cX11_act 91 = .ok (.iload_n 1, 1) := by decide +kernel
theorem dX11_act_92 : decode cX11_act 92 = .ok (.iload_n 2, 1) := by decide +kernel
theorem dX11_act_93 : decode cX11_act 93 = .ok (.iload_n 3, 1) := by decide +kernel
theorem dX11_act_94 : decode cX11_act 94 = .ok (.iload 4, 2) := by decide +kernel
theorem dX11_act_96 : decode cX11_act 96 = .ok (.invokevirtual 238, 3) := by decide +kernel
theorem dX11_act_99 : decode cX11_act 99 = .ok (.ireturn, 1) := by decide +kernel
theorem dX11_tellWords_0 : decode cX11_tellWords 0 = .ok (.ldc 241, 2) := by decide +kernel
theorem dX11_tellWords_2 : decode cX11_tellWords 2 = .ok (.astore_n 1, 1) := by decide +kernel
theorem dX11_tellWords_3 : decode cX11_tellWords 3 = .ok (.iconst 0, 1) := by decide +kernel
theorem dX11_tellWords_4 : decode cX11_tellWords 4 = .ok (.istore_n 2, 1) := by decide +kernel
theorem dX11_tellWords_5 : decode cX11_tellWords 5 = .ok (.iconst 0, 1) := by decide +kernel
theorem dX11_tellWords_6 : decode cX11_tellWords 6 = .ok (.istore_n 3, 1) := by decide +kernel
theorem dX11_tellWords_7 : decode cX11_tellWords 7 = .ok (.iload_n 3, 1) := by decide +kernel
theorem dX11_tellWords_8 : decode cX11_tellWords 8 = .ok (.aload_n 1, 1) := by decide +kernel
theorem dX11_tellWords_9 : decode cX11_tellWords 9 = .ok (.invokevirtual 243, 3) := by decide +kernel
theorem dX11_tellWords_12 : decode cX11_tellWords 12 = .ok (.if_icmp .ge 57, 3) := by decide +kernel
theorem dX11_tellWords_15 : decode cX11_tellWords 15 = .ok (.aload_n 1, 1) := by decide +kernel
theorem dX11_tellWords_16 : decode cX11_tellWords 16 = .ok (.iload_n 3, 1) := by decide +kernel
theorem dX11_tellWords_17 : decode cX11_tellWords 17 = .ok (.invokevirtual 249, 3) := by decide +kernel
theorem dX11_tellWords_20 : decode cX11_tellWords 20 = .ok (.bipush 32, 2) := by decide +kernel
theorem dX11_tellWords_22 : decode cX11_tellWords 22 = .ok (.if_icmp .ne 9, 3) := by decide +kernel
theorem dX11_tellWords_25 : decode cX11_tellWords 25 = .ok (.iinc 2 1, 3) := by decide +kernel
theorem dX11_tellWords_28 : decode cX11_tellWords 28 = .ok (.goto 35, 3) := by decide +kernel
theorem dX11_tellWords_31 : decode cX11_tellWords 31 = .ok (.aload_n 0, 1) := by decide +kernel
theorem dX11_tellWords_32 : decode cX11_tellWords 32 = .ok (.getfield 42, 3) := by decide +kernel
theorem dX11_tellWords_35 : decode cX11_tellWords 35 = .ok (.iload_n 2, 1) := by decide +kernel
theorem dX11_tellWords_36 : decode cX11_tellWords 36 = .ok (.aload_n 0, 1) := by decide +kernel
theorem dX11_tellWords_37 : decode cX11_tellWords 37 = .ok (.getfield 42, 3) := by decide +kernel
theorem dX11_tellWords_40 : decode cX11_tellWords 40 = .ok (.iload_n 2, 1) := by decide +kernel
theorem dX11_tellWords_41 : decode cX11_tellWords 41 = .ok (.laload, 1) := by decide +kernel
theorem dX11_tellWords_42 : decode cX11_tellWords 42 = .ok (.bipush 8, 2) := by decide +kernel
theorem dX11_tellWords_44 : decode cX11_tellWords 44 = .ok (.lshl, 1) := by decide +kernel
theorem dX11_tellWords_45 : decode cX11_tellWords 45 = .ok (.aload_n 1, 1) := by decide +kernel
theorem dX11_tellWords_46 : decode cX11_tellWords 46 = .ok (.iload_n 3, 1) := by decide +kernel
theorem dX11_tellWords_47 : decode cX11_tellWords 47 = .ok (.invokevirtual 249, 3) := by decide +kernel
theorem dX11_tellWords_50 : decode cX11_tellWords 50 = .ok (.i2l, 1) := by decide +kernel
theorem dX11_tellWords_51 : decode cX11_tellWords 51 = .ok (.lor, 1) := by decide +kernel
theorem dX11_tellWords_52 : decode cX11_tellWords 52 = .ok (.lastore, 1) := by decide +kernel
theorem dX11_tellWords_53 : decode cX11_tellWords 53 = .ok (.aload_n 0, 1) := by decide +kernel
theorem dX11_tellWords_54 : decode cX11_tellWords 54 = .ok (.getfield 46, 3) := by decide +kernel
theorem dX11_tellWords_57 : decode cX11_tellWords 57 = .ok (.iload_n 2, 1) := by decide +kernel
theorem dX11_tellWords_58 : decode cX11_tellWords 58 = .ok (.dup2, 1) := by decide +kernel
theorem dX11_tellWords_59 : decode cX11_tellWords 59 = .ok (.iaload, 1) := by decide +kernel
theorem dX11_tellWords_60 : decode cX11_tellWords 60 = .ok (.iconst 1, 1) := by decide +kernel
theorem dX11_tellWords_61 : decode cX11_tellWords 61 = .ok (.iadd, 1) := by decide +kernel
theorem dX11_tellWords_62 : decode cX11_tellWords 62 = .ok (.iastore, 1) := by decide +kernel
theorem dX11_tellWords_63 : decode cX11_tellWords 63 = .ok (.iinc 3 1, 3) := by decide +kernel
theorem dX11_tellWords_66 : decode cX11_tellWords 66 = .ok (.goto (-59), 3) := by decide +kernel
theorem dX11_tellWords_69 : decode cX11_tellWords 69 = .ok (.return_, 1) := by decide +kernel
theorem dX11_four_0 : decode cX11_four 0 = .ok (.iconst 3, 1) := by decide +kernel
theorem dX11_four_1 : decode cX11_four 1 = .ok (.istore_n 2, 1) := by decide +kernel
theorem dX11_four_2 : decode cX11_four 2 = .ok (.iload_n 2, 1) := by decide +kernel
theorem dX11_four_3 : decode cX11_four 3 = .ok (.ifCond .lt 38, 3) := by decide +kernel
theorem dX11_four_6 : decode cX11_four 6 = .ok (.aload_n 0, 1) := by decide +kernel
theorem dX11_four_7 : decode cX11_four 7 = .ok (.getfield 39, 3) := by decide +kernel
theorem dX11_four_10 : decode cX11_four 10 = .ok (.aload_n 0, 1) := by decide +kernel
theorem dX11_four_11 : decode cX11_four 11 = .ok (.getfield 253, 3) := by decide +kernel
theorem dX11_four_14 : decode cX11_four 14 = .ok (.iload_n 1, 1) := by decide +kernel
theorem dX11_four_15 : decode cX11_four 15 = .ok (.bipush 8, 2) := by decide +kernel
theorem dX11_four_17 : decode cX11_four 17 = .ok (.iload_n 2, 1) := by decide +kernel
theorem dX11_four_18 : decode cX11_four 18 = .ok (.imul, 1) := by decide +kernel
theorem dX11_four_19 : decode cX11_four 19 = .ok (.ishr, 1) := by decide +kernel
theorem dX11_four_20 : decode cX11_four 20 = .ok (.sipush 255, 3) := by decide +kernel
theorem dX11_four_23 : decode cX11_four 23 = .ok (.iand, 1) := by decide +kernel
theorem dX11_four_24 : decode cX11_four 24 = .ok (.iastore, 1) := by decide +kernel
theorem dX11_four_25 : decode cX11_four 25 = .ok (.aload_n 0, 1) := by decide +kernel
theorem dX11_four_26 : decode cX11_four 26 = .ok (.dup, 1) := by decide +kernel
theorem dX11_four_27 : decode cX11_four 27 = .ok (.getfield 253, 3) := by decide +kernel
theorem dX11_four_30 : decode cX11_four 30 = .ok (.iconst 1, 1) := by decide +kernel
theorem dX11_four_31 : decode cX11_four 31 = .ok (.iadd, 1) := by decide +kernel
theorem dX11_four_32 : decode cX11_four 32 = .ok (.putfield 253, 3) := by decide +kernel
theorem dX11_four_35 : decode cX11_four 35 = .ok (.iinc 2 (-1), 3) := by decide +kernel
theorem dX11_four_38 : decode cX11_four 38 = .ok (.goto (-36), 3) := by decide +kernel
theorem dX11_four_41 : decode cX11_four 41 = .ok (.return_, 1) := by decide +kernel
theorem dX11_feed_0 : decode cX11_feed 0 = .ok (.aload_n 0, 1) := by decide +kernel
theorem dX11_feed_1 : decode cX11_feed 1 = .ok (.iconst 0, 1) := by decide +kernel
theorem dX11_feed_2 : decode cX11_feed 2 = .ok (.putfield 131, 3) := by decide +kernel
theorem dX11_feed_5 : decode cX11_feed 5 = .ok (.aload_n 0, 1) := by decide +kernel
theorem dX11_feed_6 : decode cX11_feed 6 = .ok (.getfield 253, 3) := by decide +kernel
theorem dX11_feed_9 : decode cX11_feed 9 = .ok (.sipush 1980, 3) := by decide +kernel
theorem dX11_feed_12 : decode cX11_feed 12 = .ok (.if_icmp .le 5, 3) := by decide +kernel
theorem dX11_feed_15 : decode cX11_feed 15 = .ok (.iconst (-1), 1) := by decide +kernel
theorem dX11_feed_16 : decode cX11_feed 16 = .ok (.ireturn, 1) := by decide +kernel
theorem dX11_feed_17 : decode cX11_feed 17 = .ok (.aload_n 0, 1) := by decide +kernel
theorem dX11_feed_18 : decode cX11_feed 18 = .ok (.iload_n 1, 1) := by decide +kernel
theorem dX11_feed_19 : decode cX11_feed 19 = .ok (.invokevirtual 256, 3) := by decide +kernel
theorem dX11_feed_22 : decode cX11_feed 22 = .ok (.aload_n 0, 1) := by decide +kernel
theorem dX11_feed_23 : decode cX11_feed 23 = .ok (.iload_n 2, 1) := by decide +kernel
theorem dX11_feed_24 : decode cX11_feed 24 = .ok (.invokevirtual 256, 3) := by decide +kernel
theorem dX11_feed_27 : decode cX11_feed 27 = .ok (.aload_n 0, 1) := by decide +kernel
theorem dX11_feed_28 : decode cX11_feed 28 = .ok (.iload_n 3, 1) := by decide +kernel
theorem dX11_feed_29 : decode cX11_feed 29 = .ok (.invokevirtual 256, 3) := by decide +kernel
theorem dX11_feed_32 : decode cX11_feed 32 = .ok (.aload_n 0, 1) := by decide +kernel
theorem dX11_feed_33 : decode cX11_feed 33 = .ok (.iload 4, 2) := by decide +kernel
theorem dX11_feed_35 : decode cX11_feed 35 = .ok (.invokevirtual 256, 3) := by decide +kernel
theorem dX11_feed_38 : decode cX11_feed 38 = .ok (.aload_n 0, 1) := by decide +kernel
theorem dX11_feed_39 : decode cX11_feed 39 = .ok (.iload 5, 2) := by decide +kernel
theorem dX11_feed_41 : decode cX11_feed 41 = .ok (.invokevirtual 256, 3) := by decide +kernel
theorem dX11_feed_44 : decode cX11_feed 44 = .ok (.aload_n 0, 1) := by decide +kernel
theorem dX11_feed_45 : decode cX11_feed 45 = .ok (.getfield 253, 3) := by decide +kernel
theorem dX11_feed_48 : decode cX11_feed 48 = .ok (.ireturn, 1) := by decide +kernel
theorem dX11_end_0 : decode cX11_end 0 = .ok (.aload_n 0, 1) := by decide +kernel
theorem dX11_end_1 : decode cX11_end 1 = .ok (.iconst 0, 1) := by decide +kernel
theorem dX11_end_2 : decode cX11_end 2 = .ok (.putfield 131, 3) := by decide +kernel
theorem dX11_end_5 : decode cX11_end 5 = .ok (.iload_n 1, 1) := by decide +kernel
theorem dX11_end_6 : decode cX11_end 6 = .ok (.ifCond .lt 11, 3) := by decide +kernel
theorem dX11_end_9 : decode cX11_end 9 = .ok (.iload_n 1, 1) := by decide +kernel
theorem dX11_end_10 : decode cX11_end 10 = .ok (.aload_n 0, 1) := by decide +kernel
theorem dX11_end_11 : decode cX11_end 11 = .ok (.getfield 253, 3) := by decide +kernel
theorem dX11_end_14 : decode cX11_end 14 = .ok (.if_icmp .le 5, 3) := by decide +kernel
theorem dX11_end_17 : decode cX11_end 17 = .ok (.iconst (-1), 1) := by decide +kernel
theorem dX11_end_18 : decode cX11_end 18 = .ok (.ireturn, 1) := by decide +kernel
theorem dX11_end_19 : decode cX11_end 19 = .ok (.aload_n 0, 1) := by decide +kernel
theorem dX11_end_20 : decode cX11_end 20 = .ok (.iload_n 1, 1) := by decide +kernel
theorem dX11_end_21 : decode cX11_end 21 = .ok (.putfield 253, 3) := by decide +kernel
theorem dX11_end_24 : decode cX11_end 24 = .ok (.iload_n 1, 1) := by decide +kernel
theorem dX11_end_25 : decode cX11_end 25 = .ok (.ireturn, 1) := by decide +kernel
theorem dX11_good_0 : decode cX11_good 0 = .ok (.aload_n 0, 1) := by decide +kernel
theorem dX11_good_1 : decode cX11_good 1 = .ok (.getfield 260, 3) := by decide +kernel
theorem dX11_good_4 : decode cX11_good 4 = .ok (.ifCond .ne 7, 3) := by decide +kernel
theorem dX11_good_7 : decode cX11_good 7 = .ok (.iconst 1, 1) := by decide +kernel
theorem dX11_good_8 : decode cX11_good 8 = .ok (.goto 4, 3) := by decide +kernel
theorem dX11_good_11 : decode cX11_good 11 = .ok (.iconst 0, 1) := by decide +kernel
theorem dX11_good_12 : decode cX11_good 12 = .ok (.ireturn, 1) := by decide +kernel
theorem dX11_fails_0 : decode cX11_fails 0 = .ok (.aload_n 0, 1) := by decide +kernel
theorem dX11_fails_1 : decode cX11_fails 1 = .ok (.getfield 260, 3) := by decide +kernel
theorem dX11_fails_4 : decode cX11_fails 4 = .ok (.ifCond .le 4, 3) := by decide +kernel
theorem dX11_fails_7 : decode cX11_fails 7 = .ok (.return_, 1) := by decide +kernel
theorem dX11_fails_8 : decode cX11_fails 8 = .ok (.aload_n 0, 1) := by decide +kernel
theorem dX11_fails_9 : decode cX11_fails 9 = .ok (.iload_n 1, 1) := by decide +kernel
theorem dX11_fails_10 : decode cX11_fails 10 = .ok (.putfield 260, 3) := by decide +kernel
theorem dX11_fails_13 : decode cX11_fails 13 = .ok (.aload_n 0, 1) := by decide +kernel
theorem dX11_fails_14 : decode cX11_fails 14 = .ok (.iload_n 2, 1) := by decide +kernel
theorem dX11_fails_15 : decode cX11_fails 15 = .ok (.putfield 263, 3) := by decide +kernel
theorem dX11_fails_18 : decode cX11_fails 18 = .ok (.return_, 1) := by decide +kernel
theorem dX11_isLetter_0 : decode cX11_isLetter 0 = .ok (.iload_n 1, 1) := by decide +kernel
theorem dX11_isLetter_1 : decode cX11_isLetter 1 = .ok (.aload_n 0, 1) := by decide +kernel
theorem dX11_isLetter_2 : decode cX11_isLetter 2 = .ok (.getfield 253, 3) := by decide +kernel
theorem dX11_isLetter_5 : decode cX11_isLetter 5 = .ok (.if_icmp .ge 29, 3) := by decide +kernel
theorem dX11_isLetter_8 : decode cX11_isLetter 8 = .ok (.aload_n 0, 1) := by decide +kernel
theorem dX11_isLetter_9 : decode cX11_isLetter 9 = .ok (.getfield 39, 3) := by decide +kernel
theorem dX11_isLetter_12 : decode cX11_isLetter 12 = .ok (.iload_n 1, 1) := by decide +kernel
theorem dX11_isLetter_13 : decode cX11_isLetter 13 = .ok (.iaload, 1) := by decide +kernel
theorem dX11_isLetter_14 : decode cX11_isLetter 14 = .ok (.bipush 97, 2) := by decide +kernel
theorem dX11_isLetter_16 : decode cX11_isLetter 16 = .ok (.if_icmp .lt 18, 3) := by decide +kernel
theorem dX11_isLetter_19 : decode cX11_isLetter 19 = .ok (.aload_n 0, 1) := by decide +kernel
theorem dX11_isLetter_20 : decode cX11_isLetter 20 = .ok (.getfield 39, 3) := by decide +kernel
theorem dX11_isLetter_23 : decode cX11_isLetter 23 = .ok (.iload_n 1, 1) := by decide +kernel
theorem dX11_isLetter_24 : decode cX11_isLetter 24 = .ok (.iaload, 1) := by decide +kernel
theorem dX11_isLetter_25 : decode cX11_isLetter 25 = .ok (.bipush 122, 2) := by decide +kernel
theorem dX11_isLetter_27 : decode cX11_isLetter 27 = .ok (.if_icmp .gt 7, 3) := by decide +kernel
theorem dX11_isLetter_30 : decode cX11_isLetter 30 = .ok (.iconst 1, 1) := by decide +kernel
theorem dX11_isLetter_31 : decode cX11_isLetter 31 = .ok (.goto 4, 3) := by decide +kernel
theorem dX11_isLetter_34 : decode cX11_isLetter 34 = .ok (.iconst 0, 1) := by decide +kernel
theorem dX11_isLetter_35 : decode cX11_isLetter 35 = .ok (.ireturn, 1) := by decide +kernel
theorem dX11_isDigit_0 : decode cX11_isDigit 0 = .ok (.iload_n 1, 1) := by decide +kernel
theorem dX11_isDigit_1 : decode cX11_isDigit 1 = .ok (.aload_n 0, 1) := by decide +kernel
theorem dX11_isDigit_2 : decode cX11_isDigit 2 = .ok (.getfield 253, 3) := by decide +kernel
theorem dX11_isDigit_5 : decode cX11_isDigit 5 = .ok (.if_icmp .ge 29, 3) := by decide +kernel
theorem dX11_isDigit_8 : decode cX11_isDigit 8 = .ok (.aload_n 0, 1) := by decide +kernel
theorem dX11_isDigit_9 : decode cX11_isDigit 9 = .ok (.getfield 39, 3) := by decide +kernel
theorem dX11_isDigit_12 : decode cX11_isDigit 12 = .ok (.iload_n 1, 1) := by decide +kernel
theorem dX11_isDigit_13 : decode cX11_isDigit 13 = .ok (.iaload, 1) := by decide +kernel
theorem dX11_isDigit_14 : decode cX11_isDigit 14 = .ok (.bipush 48, 2) := by decide +kernel
theorem dX11_isDigit_16 : decode cX11_isDigit 16 = .ok (.if_icmp .lt 18, 3) := by decide +kernel
theorem dX11_isDigit_19 : decode cX11_isDigit 19 = .ok (.aload_n 0, 1) := by decide +kernel
theorem dX11_isDigit_20 : decode cX11_isDigit 20 = .ok (.getfield 39, 3) := by decide +kernel
theorem dX11_isDigit_23 : decode cX11_isDigit 23 = .ok (.iload_n 1, 1) := by decide +kernel
theorem dX11_isDigit_24 : decode cX11_isDigit 24 = .ok (.iaload, 1) := by decide +kernel
theorem dX11_isDigit_25 : decode cX11_isDigit 25 = .ok (.bipush 57, 2) := by decide +kernel
theorem dX11_isDigit_27 : decode cX11_isDigit 27 = .ok (.if_icmp .gt 7, 3) := by decide +kernel
theorem dX11_isDigit_30 : decode cX11_isDigit 30 = .ok (.iconst 1, 1) := by decide +kernel
theorem dX11_isDigit_31 : decode cX11_isDigit 31 = .ok (.goto 4, 3) := by decide +kernel
theorem dX11_isDigit_34 : decode cX11_isDigit 34 = .ok (.iconst 0, 1) := by decide +kernel
theorem dX11_isDigit_35 : decode cX11_isDigit 35 = .ok (.ireturn, 1) := by decide +kernel
theorem dX11_token_0 : decode cX11_token 0 = .ok (.aload_n 0, 1) := by decide +kernel
theorem dX11_token_1 : decode cX11_token 1 = .ok (.getfield 49, 3) := by decide +kernel
theorem dX11_token_4 : decode cX11_token 4 = .ok (.aload_n 0, 1) := by decide +kernel
theorem dX11_token_5 : decode cX11_token 5 = .ok (.getfield 266, 3) := by decide +kernel
theorem dX11_token_8 : decode cX11_token 8 = .ok (.iload_n 1, 1) := by decide +kernel
theorem dX11_token_9 : decode cX11_token 9 = .ok (.iastore, 1) := by decide +kernel
theorem dX11_token_10 : decode cX11_token 10 = .ok (.aload_n 0, 1) := by decide +kernel
theorem dX11_token_11 : decode cX11_token 11 = .ok (.getfield 52, 3) := by decide +kernel
theorem dX11_token_14 : decode cX11_token 14 = .ok (.aload_n 0, 1) := by decide +kernel
theorem dX11_token_15 : decode cX11_token 15 = .ok (.getfield 266, 3) := by decide +kernel
theorem dX11_token_18 : decode cX11_token 18 = .ok (.iload_n 2, 1) := by decide +kernel
theorem dX11_token_19 : decode cX11_token 19 = .ok (.iastore, 1) := by decide +kernel
theorem dX11_token_20 : decode cX11_token 20 = .ok (.aload_n 0, 1) := by decide +kernel
theorem dX11_token_21 : decode cX11_token 21 = .ok (.getfield 55, 3) := by decide +kernel
theorem dX11_token_24 : decode cX11_token 24 = .ok (.aload_n 0, 1) := by decide +kernel
theorem dX11_token_25 : decode cX11_token 25 = .ok (.getfield 266, 3) := by decide +kernel
theorem dX11_token_28 : decode cX11_token 28 = .ok (.iload_n 3, 1) := by decide +kernel
theorem dX11_token_29 : decode cX11_token 29 = .ok (.iastore, 1) := by decide +kernel
theorem dX11_token_30 : decode cX11_token 30 = .ok (.aload_n 0, 1) := by decide +kernel
theorem dX11_token_31 : decode cX11_token 31 = .ok (.getfield 58, 3) := by decide +kernel
theorem dX11_token_34 : decode cX11_token 34 = .ok (.aload_n 0, 1) := by decide +kernel
theorem dX11_token_35 : decode cX11_token 35 = .ok (.getfield 266, 3) := by decide +kernel
theorem dX11_token_38 : decode cX11_token 38 = .ok (.lconst 0, 1) := by decide +kernel
theorem dX11_token_39 : decode cX11_token 39 = .ok (.lastore, 1) := by decide +kernel
theorem dX11_token_40 : decode cX11_token 40 = .ok (.aload_n 0, 1) := by decide +kernel
theorem dX11_token_41 : decode cX11_token 41 = .ok (.dup, 1) := by decide +kernel
theorem dX11_token_42 : decode cX11_token 42 = .ok (.getfield 266, 3) := by decide +kernel
theorem dX11_token_45 : decode cX11_token 45 = .ok (.iconst 1, 1) := by decide +kernel
theorem dX11_token_46 : decode cX11_token 46 = .ok (.iadd, 1) := by decide +kernel
theorem dX11_token_47 : decode cX11_token 47 = .ok (.putfield 266, 3) := by decide +kernel
theorem dX11_token_50 : decode cX11_token 50 = .ok (.return_, 1) := by decide +kernel
theorem dX11_name_0 : decode cX11_name 0 = .ok (.iload_n 1, 1) := by decide +kernel
theorem dX11_name_1 : decode cX11_name 1 = .ok (.istore_n 2, 1) := by decide +kernel
theorem dX11_name_2 : decode cX11_name 2 = .ok (.aload_n 0, 1) := by decide +kernel
theorem dX11_name_3 : decode cX11_name 3 = .ok (.iload_n 2, 1) := by decide +kernel
theorem dX11_name_4 : decode cX11_name 4 = .ok (.invokevirtual 269, 3) := by decide +kernel
theorem dX11_name_7 : decode cX11_name 7 = .ok (.ifCond .ne 11, 3) := by decide +kernel
theorem dX11_name_10 : decode cX11_name 10 = .ok (.aload_n 0, 1) := by decide +kernel
theorem dX11_name_11 : decode cX11_name 11 = .ok (.iload_n 2, 1) := by decide +kernel
theorem dX11_name_12 : decode cX11_name 12 = .ok (.invokevirtual 272, 3) := by decide +kernel
theorem dX11_name_15 : decode cX11_name 15 = .ok (.ifCond .eq 9, 3) := by decide +kernel
theorem dX11_name_18 : decode cX11_name 18 = .ok (.iinc 2 1, 3) := by decide +kernel
theorem dX11_name_21 : decode cX11_name 21 = .ok (.goto (-19), 3) := by decide +kernel
theorem dX11_name_24 : decode cX11_name 24 = .ok (.iload_n 2, 1) := by decide +kernel
theorem dX11_name_25 : decode cX11_name 25 = .ok (.iload_n 1, 1) := by decide +kernel
theorem dX11_name_26 : decode cX11_name 26 = .ok (.isub, 1) := by decide +kernel
theorem dX11_name_27 : decode cX11_name 27 = .ok (.bipush 8, 2) := by decide +kernel
theorem dX11_name_29 : decode cX11_name 29 = .ok (.if_icmp .le 11, 3) := by decide +kernel
theorem dX11_name_32 : decode cX11_name 32 = .ok (.aload_n 0, 1) := by decide +kernel
theorem dX11_name_33 : decode cX11_name 33 = .ok (.iconst 1, 1) := by decide +kernel
theorem dX11_name_34 : decode cX11_name 34 = .ok (.iload_n 1, 1) := by decide +kernel
theorem dX11_name_35 : decode cX11_name 35 = .ok (.invokevirtual 275, 3) := by decide +kernel
theorem dX11_name_38 : decode cX11_name 38 = .ok (.iload_n 2, 1) := by decide +kernel
theorem dX11_name_39 : decode cX11_name 39 = .ok (.ireturn, 1) := by decide +kernel
theorem dX11_name_40 : decode cX11_name 40 = .ok (.lconst 0, 1) := by decide +kernel
theorem dX11_name_41 : decode cX11_name 41 = .ok (.lstore_n 3, 1) := by decide +kernel
theorem dX11_name_42 : decode cX11_name 42 = .ok (.iload_n 1, 1) := by decide +kernel
theorem dX11_name_43 : decode cX11_name 43 = .ok (.istore 5, 2) := by decide +kernel
theorem dX11_name_45 : decode cX11_name 45 = .ok (.iload 5, 2) := by decide +kernel
theorem dX11_name_47 : decode cX11_name 47 = .ok (.iload_n 2, 1) := by decide +kernel
theorem dX11_name_48 : decode cX11_name 48 = .ok (.if_icmp .ge 23, 3) := by decide +kernel
theorem dX11_name_51 : decode cX11_name 51 = .ok (.lload_n 3, 1) := by decide +kernel
theorem dX11_name_52 : decode cX11_name 52 = .ok (.bipush 8, 2) := by decide +kernel
theorem dX11_name_54 : decode cX11_name 54 = .ok (.lshl, 1) := by decide +kernel
theorem dX11_name_55 : decode cX11_name 55 = .ok (.aload_n 0, 1) := by decide +kernel
theorem dX11_name_56 : decode cX11_name 56 = .ok (.getfield 39, 3) := by decide +kernel
theorem dX11_name_59 : decode cX11_name 59 = .ok (.iload 5, 2) := by decide +kernel
theorem dX11_name_61 : decode cX11_name 61 = .ok (.iaload, 1) := by decide +kernel
theorem dX11_name_62 : decode cX11_name 62 = .ok (.i2l, 1) := by decide +kernel
theorem dX11_name_63 : decode cX11_name 63 = .ok (.lor, 1) := by decide +kernel
theorem dX11_name_64 : decode cX11_name 64 = .ok (.lstore_n 3, 1) := by decide +kernel
theorem dX11_name_65 : decode cX11_name 65 = .ok (.iinc 5 1, 3) := by decide +kernel
theorem dX11_name_68 : decode cX11_name 68 = .ok (.goto (-23), 3) := by decide +kernel
theorem dX11_name_71 : decode cX11_name 71 = .ok (.iconst 0, 1) := by decide +kernel
theorem dX11_name_72 : decode cX11_name 72 = .ok (.istore 5, 2) := by decide +kernel
theorem dX11_name_74 : decode cX11_name 74 = .ok (.iload 5, 2) := by decide +kernel
theorem dX11_name_76 : decode cX11_name 76 = .ok (.bipush 26, 2) := by decide +kernel
theorem dX11_name_78 : decode cX11_name 78 = .ok (.if_icmp .ge 34, 3) := by decide +kernel
theorem dX11_name_81 : decode cX11_name 81 = .ok (.aload_n 0, 1) := by decide +kernel
theorem dX11_name_82 : decode cX11_name 82 = .ok (.getfield 42, 3) := by decide +kernel
theorem dX11_name_85 : decode cX11_name 85 = .ok (.iload 5, 2) := by decide +kernel
theorem dX11_name_87 : decode cX11_name 87 = .ok (.laload, 1) := by decide +kernel
theorem dX11_name_88 : decode cX11_name 88 = .ok (.lload_n 3, 1) := by decide +kernel
theorem dX11_name_89 : decode cX11_name 89 = .ok (.lcmp, 1) := by decide +kernel
theorem dX11_name_90 : decode cX11_name 90 = .ok (.ifCond .ne 16, 3) := by decide +kernel
theorem dX11_name_93 : decode cX11_name 93 = .ok (.aload_n 0, 1) := by decide +kernel
theorem dX11_name_94 : decode cX11_name 94 = .ok (.getfield 46, 3) := by decide +kernel
theorem dX11_name_97 : decode cX11_name 97 = .ok (.iload 5, 2) := by decide +kernel
theorem dX11_name_99 : decode cX11_name 99 = .ok (.iaload, 1) := by decide +kernel
theorem dX11_name_100 : decode cX11_name 100 = .ok (.iload_n 2, 1) := by decide +kernel
theorem dX11_name_101 : decode cX11_name 101 = .ok (.iload_n 1, 1) := by decide +kernel
theorem dX11_name_102 : decode cX11_name 102 = .ok (.isub, 1) := by decide +kernel
theorem dX11_name_103 : decode cX11_name 103 = .ok (.if_icmp .eq 9, 3) := by decide +kernel
theorem dX11_name_106 : decode cX11_name 106 = .ok (.iinc 5 1, 3) := by decide +kernel
theorem dX11_name_109 : decode cX11_name 109 = .ok (.goto (-35), 3) := by decide +kernel
theorem dX11_name_112 : decode cX11_name 112 = .ok (.aload_n 0, 1) := by decide +kernel
theorem dX11_name_113 : decode cX11_name 113 = .ok (.iload 5, 2) := by decide +kernel
theorem dX11_name_115 : decode cX11_name 115 = .ok (.bipush 26, 2) := by decide +kernel
theorem dX11_name_117 : decode cX11_name 117 = .ok (.if_icmp .ge 7, 3) := by decide +kernel
theorem dX11_name_120 : decode cX11_name 120 = .ok (.iconst 1, 1) := by decide +kernel
theorem dX11_name_121 : decode cX11_name 121 = .ok (.goto 23, 3) := by decide +kernel
theorem dX11_name_124 : decode cX11_name 124 = .ok (.iload_n 2, 1) := by decide +kernel
theorem dX11_name_125 : decode cX11_name 125 = .ok (.iload_n 1, 1) := by decide +kernel
theorem dX11_name_126 : decode cX11_name 126 = .ok (.isub, 1) := by decide +kernel
theorem dX11_name_127 : decode cX11_name 127 = .ok (.iconst 1, 1) := by decide +kernel
theorem dX11_name_128 : decode cX11_name 128 = .ok (.if_icmp .ne 15, 3) := by decide +kernel
theorem dX11_name_131 : decode cX11_name 131 = .ok (.lload_n 3, 1) := by decide +kernel
theorem dX11_name_132 : decode cX11_name 132 = .ok (.ldc2_w 279, 3) := by decide +kernel
theorem dX11_name_135 : decode cX11_name 135 = .ok (.lcmp, 1) := by decide +kernel
theorem dX11_name_136 : decode cX11_name 136 = .ok (.ifCond .gt 7, 3) := by decide +kernel
theorem dX11_name_139 : decode cX11_name 139 = .ok (.iconst 2, 1) := by decide +kernel
theorem dX11_name_140 : decode cX11_name 140 = .ok (.goto 4, 3) := by decide +kernel
theorem dX11_name_143 : decode cX11_name 143 = .ok (.iconst 3, 1) := by decide +kernel
theorem dX11_name_144 : decode cX11_name 144 = .ok (.iload_n 1, 1) := by decide +kernel
theorem dX11_name_145 : decode cX11_name 145 = .ok (.iload_n 2, 1) := by decide +kernel
theorem dX11_name_146 : decode cX11_name 146 = .ok (.iload_n 1, 1) := by decide +kernel
theorem dX11_name_147 : decode cX11_name 147 = .ok (.isub, 1) := by decide +kernel
theorem dX11_name_148 : decode cX11_name 148 = .ok (.invokevirtual 281, 3) := by decide +kernel
theorem dX11_name_151 : decode cX11_name 151 = .ok (.aload_n 0, 1) := by decide +kernel
theorem dX11_name_152 : decode cX11_name 152 = .ok (.getfield 58, 3) := by decide +kernel
theorem dX11_name_155 : decode cX11_name 155 = .ok (.aload_n 0, 1) := by decide +kernel
theorem dX11_name_156 : decode cX11_name 156 = .ok (.getfield 266, 3) := by decide +kernel
theorem dX11_name_159 : decode cX11_name 159 = .ok (.iconst 1, 1) := by decide +kernel
theorem dX11_name_160 : decode cX11_name 160 = .ok (.isub, 1) := by decide +kernel
theorem dX11_name_161 : decode cX11_name 161 = .ok (.lload_n 3, 1) := by decide +kernel
theorem dX11_name_162 : decode cX11_name 162 = .ok (.lastore, 1) := by decide +kernel
theorem dX11_name_163 : decode cX11_name 163 = .ok (.aload_n 0, 1) := by decide +kernel
theorem dX11_name_164 : decode cX11_name 164 = .ok (.getfield 61, 3) := by decide +kernel
theorem dX11_name_167 : decode cX11_name 167 = .ok (.aload_n 0, 1) := by decide +kernel
theorem dX11_name_168 : decode cX11_name 168 = .ok (.getfield 266, 3) := by decide +kernel
theorem dX11_name_171 : decode cX11_name 171 = .ok (.iconst 1, 1) := by decide +kernel
theorem dX11_name_172 : decode cX11_name 172 = .ok (.isub, 1) := by decide +kernel
theorem dX11_name_173 : decode cX11_name 173 = .ok (.iload 5, 2) := by decide +kernel
theorem dX11_name_175 : decode cX11_name 175 = .ok (.bipush 26, 2) := by decide +kernel
theorem dX11_name_177 : decode cX11_name 177 = .ok (.if_icmp .ge 8, 3) := by decide +kernel
theorem dX11_name_180 : decode cX11_name 180 = .ok (.iload 5, 2) := by decide +kernel
theorem dX11_name_182 : decode cX11_name 182 = .ok (.goto 8, 3) := by decide +kernel
theorem dX11_name_185 : decode cX11_name 185 = .ok (.lload_n 3, 1) := by decide +kernel
theorem dX11_name_186 : decode cX11_name 186 = .ok (.l2i, 1) := by decide +kernel
theorem dX11_name_187 : decode cX11_name 187 = .ok (.bipush 97, 2) := by decide +kernel
theorem dX11_name_189 : decode cX11_name 189 = .ok (.isub, 1) := by decide +kernel
theorem dX11_name_190 : decode cX11_name 190 = .ok (.iastore, 1) := by decide +kernel
theorem dX11_name_191 : decode cX11_name 191 = .ok (.iload_n 2, 1) := by decide +kernel
theorem dX11_name_192 : decode cX11_name 192 = .ok (.ireturn, 1) := by decide +kernel
theorem dX11_number_0 : decode cX11_number 0 = .ok (.aload_n 0, 1) := by decide +kernel
theorem dX11_number_1 : decode cX11_number 1 = .ok (.getfield 39, 3) := by decide +kernel
theorem dX11_number_4 : decode cX11_number 4 = .ok (.iload_n 1, 1) := by decide +kernel
theorem dX11_number_5 : decode cX11_number 5 = .ok (.iaload, 1) := by decide +kernel
theorem dX11_number_6 : decode cX11_number 6 = .ok (.bipush 45, 2) := by decide +kernel
theorem dX11_number_8 : decode cX11_number 8 = .ok (.if_icmp .ne 9, 3) := by decide +kernel
theorem dX11_number_11 : decode cX11_number 11 = .ok (.iload_n 1, 1) := by decide +kernel
theorem dX11_number_12 : decode cX11_number 12 = .ok (.iconst 1, 1) := by decide +kernel
theorem dX11_number_13 : decode cX11_number 13 = .ok (.iadd, 1) := by decide +kernel
theorem dX11_number_14 : decode cX11_number 14 = .ok (.goto 4, 3) := by decide +kernel
theorem dX11_number_17 : decode cX11_number 17 = .ok (.iload_n 1, 1) := by decide +kernel
theorem dX11_number_18 : decode cX11_number 18 = .ok (.istore_n 2, 1) := by decide +kernel
theorem dX11_number_19 : decode cX11_number 19 = .ok (.iload_n 2, 1) := by decide +kernel
theorem dX11_number_20 : decode cX11_number 20 = .ok (.istore_n 3, 1) := by decide +kernel
theorem dX11_number_21 : decode cX11_number 21 = .ok (.lconst 0, 1) := by decide +kernel
theorem dX11_number_22 : decode cX11_number 22 = .ok (.lstore 4, 2) := by decide +kernel
theorem dX11_number_24 : decode cX11_number 24 = .ok (.aload_n 0, 1) := by decide +kernel
theorem dX11_number_25 : decode cX11_number 25 = .ok (.iload_n 2, 1) := by decide +kernel
theorem dX11_number_26 : decode cX11_number 26 = .ok (.invokevirtual 272, 3) := by decide +kernel
theorem dX11_number_29 : decode cX11_number 29 = .ok (.ifCond .eq 37, 3) := by decide +kernel
theorem dX11_number_32 : decode cX11_number 32 = .ok (.iload_n 2, 1) := by decide +kernel
theorem dX11_number_33 : decode cX11_number 33 = .ok (.iload_n 3, 1) := by decide +kernel
theorem dX11_number_34 : decode cX11_number 34 = .ok (.isub, 1) := by decide +kernel
theorem dX11_number_35 : decode cX11_number 35 = .ok (.bipush 10, 2) := by decide +kernel
theorem dX11_number_37 : decode cX11_number 37 = .ok (.if_icmp .ge 23, 3) := by decide +kernel
theorem dX11_number_40 : decode cX11_number 40 = .ok (.ldc2_w 284, 3) := by decide +kernel
theorem dX11_number_43 : decode cX11_number 43 = .ok (.lload 4, 2) := by decide +kernel
theorem dX11_number_45 : decode cX11_number 45 = .ok (.lmul, 1) := by decide +kernel
theorem dX11_number_46 : decode cX11_number 46 = .ok (.aload_n 0, 1) := by decide +kernel
theorem dX11_number_47 : decode cX11_number 47 = .ok (.getfield 39, 3) := by decide +kernel
theorem dX11_number_50 : decode cX11_number 50 = .ok (.iload_n 2, 1) := by decide +kernel
theorem dX11_number_51 : decode cX11_number 51 = .ok (.iaload, 1) := by decide +kernel
theorem dX11_number_52 : decode cX11_number 52 = .ok (.i2l, 1) := by decide +kernel
theorem dX11_number_53 : decode cX11_number 53 = .ok (.ladd, 1) := by decide +kernel
theorem dX11_number_54 : decode cX11_number 54 = .ok (.ldc2_w 286, 3) := by decide +kernel
theorem dX11_number_57 : decode cX11_number 57 = .ok (.lsub, 1) := by decide +kernel
theorem dX11_number_58 : decode cX11_number 58 = .ok (.lstore 4, 2) := by decide +kernel
theorem dX11_number_60 : decode cX11_number 60 = .ok (.iinc 2 1, 3) := by decide +kernel
theorem dX11_number_63 : decode cX11_number 63 = .ok (.goto (-39), 3) := by decide +kernel
theorem dX11_number_66 : decode cX11_number 66 = .ok (.iload_n 3, 1) := by decide +kernel
theorem dX11_number_67 : decode cX11_number 67 = .ok (.iload_n 1, 1) := by decide +kernel
theorem dX11_number_68 : decode cX11_number 68 = .ok (.if_icmp .le 8, 3) := by decide +kernel
theorem dX11_number_71 : decode cX11_number 71 = .ok (.lload 4, 2) := by decide +kernel
theorem dX11_number_73 : decode cX11_number 73 = .ok (.lneg, 1) := by decide +kernel
theorem dX11_number_74 : decode cX11_number 74 = .ok (.lstore 4, 2) := by decide +kernel
theorem dX11_number_76 : decode cX11_number 76 = .ok (.iload_n 2, 1) := by decide +kernel
theorem dX11_number_77 : decode cX11_number 77 = .ok (.iload_n 3, 1) := by decide +kernel
theorem dX11_number_78 : decode cX11_number 78 = .ok (.if_icmp .eq 29, 3) := by decide +kernel
theorem dX11_number_81 : decode cX11_number 81 = .ok (.iload_n 2, 1) := by decide +kernel
theorem dX11_number_82 : decode cX11_number 82 = .ok (.iload_n 3, 1) := by decide +kernel
theorem dX11_number_83 : decode cX11_number 83 = .ok (.isub, 1) := by decide +kernel
theorem dX11_number_84 : decode cX11_number 84 = .ok (.bipush 10, 2) := by decide +kernel
theorem dX11_number_86 : decode cX11_number 86 = .ok (.if_icmp .gt 21, 3) := by decide +kernel
theorem dX11_number_89 : decode cX11_number 89 = .ok (.lload 4, 2) := by decide +kernel
theorem dX11_number_91 : decode cX11_number 91 = .ok (.ldc2_w 288, 3) := by decide +kernel
theorem dX11_number_94 : decode cX11_number 94 = .ok (.lcmp, 1) := by decide +kernel
theorem dX11_number_95 : decode cX11_number 95 = .ok (.ifCond .lt 12, 3) := by decide +kernel
theorem dX11_number_98 : decode cX11_number 98 = .ok (.lload 4, 2) := by decide +kernel
theorem dX11_number_100 : decode cX11_number 100 = .ok (.ldc2_w 290, 3) := by decide +kernel
theorem dX11_number_103 : decode cX11_number 103 = .ok (.lcmp, 1) := by decide +kernel
theorem dX11_number_104 : decode cX11_number 104 = .ok (.ifCond .le 12, 3) := by decide +kernel
theorem dX11_number_107 : decode cX11_number 107 = .ok (.aload_n 0, 1) := by decide +kernel
theorem dX11_number_108 : decode cX11_number 108 = .ok (.iconst 1, 1) := by decide +kernel
theorem dX11_number_109 : decode cX11_number 109 = .ok (.iload_n 1, 1) := by decide +kernel
theorem dX11_number_110 : decode cX11_number 110 = .ok (.invokevirtual 275, 3) := by decide +kernel
theorem dX11_number_113 : decode cX11_number 113 = .ok (.goto 12, 3) := by decide +kernel
theorem dX11_number_116 : decode cX11_number 116 = .ok (.aload_n 0, 1) := by decide +kernel
theorem dX11_number_117 : decode cX11_number 117 = .ok (.iconst 4, 1) := by decide +kernel
theorem dX11_number_118 : decode cX11_number 118 = .ok (.iload_n 1, 1) := by decide +kernel
theorem dX11_number_119 : decode cX11_number 119 = .ok (.iload_n 2, 1) := by decide +kernel
theorem dX11_number_120 : decode cX11_number 120 = .ok (.iload_n 1, 1) := by decide +kernel
theorem dX11_number_121 : decode cX11_number 121 = .ok (.isub, 1) := by decide +kernel
theorem dX11_number_122 : decode cX11_number 122 = .ok (.invokevirtual 281, 3) := by decide +kernel
theorem dX11_number_125 : decode cX11_number 125 = .ok (.aload_n 0, 1) := by decide +kernel
theorem dX11_number_126 : decode cX11_number 126 = .ok (.invokevirtual 292, 3) := by decide +kernel
theorem dX11_number_129 : decode cX11_number 129 = .ok (.ifCond .eq 17, 3) := by decide +kernel
theorem dX11_number_132 : decode cX11_number 132 = .ok (.aload_n 0, 1) := by decide +kernel
theorem dX11_number_133 : decode cX11_number 133 = .ok (.getfield 61, 3) := by decide +kernel
theorem dX11_number_136 : decode cX11_number 136 = .ok (.aload_n 0, 1) := by decide +kernel
theorem dX11_number_137 : decode cX11_number 137 = .ok (.getfield 266, 3) := by decide +kernel
theorem dX11_number_140 : decode cX11_number 140 = .ok (.iconst 1, 1) := by decide +kernel
theorem dX11_number_141 : decode cX11_number 141 = .ok (.isub, 1) := by decide +kernel
theorem dX11_number_142 : decode cX11_number 142 = .ok (.lload 4, 2) := by decide +kernel
theorem dX11_number_144 : decode cX11_number 144 = .ok (.l2i, 1) := by decide +kernel
theorem dX11_number_145 : decode cX11_number 145 = .ok (.iastore, 1) := by decide +kernel
theorem dX11_number_146 : decode cX11_number 146 = .ok (.iload_n 2, 1) := by decide +kernel
theorem dX11_number_147 : decode cX11_number 147 = .ok (.ireturn, 1) := by decide +kernel
theorem dX11_cut_0 : decode cX11_cut 0 = .ok (.aload_n 0, 1) := by decide +kernel
theorem dX11_cut_1 : decode cX11_cut 1 = .ok (.iconst 0, 1) := by decide +kernel
theorem dX11_cut_2 : decode cX11_cut 2 = .ok (.putfield 266, 3) := by decide +kernel
theorem dX11_cut_5 : decode cX11_cut 5 = .ok (.iconst 0, 1) := by decide +kernel
theorem dX11_cut_6 : decode cX11_cut 6 = .ok (.istore_n 1, 1) := by decide +kernel
theorem dX11_cut_7 : decode cX11_cut 7 = .ok (.iload_n 1, 1) := by decide +kernel
theorem dX11_cut_8 : decode cX11_cut 8 = .ok (.aload_n 0, 1) := by decide +kernel
theorem dX11_cut_9 : decode cX11_cut 9 = .ok (.getfield 253, 3) := by decide +kernel
theorem dX11_cut_12 : decode cX11_cut 12 = .ok (.if_icmp .ge 120, 3) := by decide +kernel
theorem dX11_cut_15 : decode cX11_cut 15 = .ok (.aload_n 0, 1) := by decide +kernel
theorem dX11_cut_16 : decode cX11_cut 16 = .ok (.invokevirtual 292, 3) := by decide +kernel
theorem dX11_cut_19 : decode cX11_cut 19 = .ok (.ifCond .eq 113, 3) := by decide +kernel
theorem dX11_cut_22 : decode cX11_cut 22 = .ok (.aload_n 0, 1) := by decide +kernel
theorem dX11_cut_23 : decode cX11_cut 23 = .ok (.getfield 39, 3) := by decide +kernel
theorem dX11_cut_26 : decode cX11_cut 26 = .ok (.iload_n 1, 1) := by decide +kernel
theorem dX11_cut_27 : decode cX11_cut 27 = .ok (.iaload, 1) := by decide +kernel
theorem dX11_cut_28 : decode cX11_cut 28 = .ok (.istore_n 2, 1) := by decide +kernel
theorem dX11_cut_29 : decode cX11_cut 29 = .ok (.iload_n 2, 1) := by decide +kernel
theorem dX11_cut_30 : decode cX11_cut 30 = .ok (.bipush 32, 2) := by decide +kernel
theorem dX11_cut_32 : decode cX11_cut 32 = .ok (.if_icmp .eq 9, 3) := by decide +kernel
theorem dX11_cut_35 : decode cX11_cut 35 = .ok (.iload_n 2, 1) := by decide +kernel
theorem dX11_cut_36 : decode cX11_cut 36 = .ok (.bipush 10, 2) := by decide +kernel
theorem dX11_cut_38 : decode cX11_cut 38 = .ok (.if_icmp .ne 9, 3) := by decide +kernel
theorem dX11_cut_41 : decode cX11_cut 41 = .ok (.iinc 1 1, 3) := by decide +kernel
theorem dX11_cut_44 : decode cX11_cut 44 = .ok (.goto 85, 3) := by decide +kernel
theorem dX11_cut_47 : decode cX11_cut 47 = .ok (.aload_n 0, 1) := by decide +kernel
theorem dX11_cut_48 : decode cX11_cut 48 = .ok (.iload_n 1, 1) := by decide +kernel
theorem dX11_cut_49 : decode cX11_cut 49 = .ok (.invokevirtual 269, 3) := by decide +kernel
theorem dX11_cut_52 : decode cX11_cut 52 = .ok (.ifCond .eq 12, 3) := by decide +kernel
theorem dX11_cut_55 : decode cX11_cut 55 = .ok (.aload_n 0, 1) := by decide +kernel
theorem dX11_cut_56 : decode cX11_cut 56 = .ok (.iload_n 1, 1) := by decide +kernel
theorem dX11_cut_57 : decode cX11_cut 57 = .ok (.invokevirtual 295, 3) := by decide +kernel
theorem dX11_cut_60 : decode cX11_cut 60 = .ok (.istore_n 1, 1) := by decide +kernel
theorem dX11_cut_61 : decode cX11_cut 61 = .ok (.goto 68, 3) := by decide +kernel
theorem dX11_cut_64 : decode cX11_cut 64 = .ok (.aload_n 0, 1) := by decide +kernel
theorem dX11_cut_65 : decode cX11_cut 65 = .ok (.iload_n 1, 1) := by decide +kernel
theorem dX11_cut_66 : decode cX11_cut 66 = .ok (.invokevirtual 272, 3) := by decide +kernel
theorem dX11_cut_69 : decode cX11_cut 69 = .ok (.ifCond .ne 9, 3) := by decide +kernel
theorem dX11_cut_72 : decode cX11_cut 72 = .ok (.iload_n 2, 1) := by decide +kernel
theorem dX11_cut_73 : decode cX11_cut 73 = .ok (.bipush 45, 2) := by decide +kernel
theorem dX11_cut_75 : decode cX11_cut 75 = .ok (.if_icmp .ne 12, 3) := by decide +kernel
theorem dX11_cut_78 : decode cX11_cut 78 = .ok (.aload_n 0, 1) := by decide +kernel
theorem dX11_cut_79 : decode cX11_cut 79 = .ok (.iload_n 1, 1) := by decide +kernel
theorem dX11_cut_80 : decode cX11_cut 80 = .ok (.invokevirtual 298, 3) := by decide +kernel
theorem dX11_cut_83 : decode cX11_cut 83 = .ok (.istore_n 1, 1) := by decide +kernel
theorem dX11_cut_84 : decode cX11_cut 84 = .ok (.goto 45, 3) := by decide +kernel
theorem dX11_cut_87 : decode cX11_cut 87 = .ok (.iload_n 2, 1) := by decide +kernel
theorem dX11_cut_88 : decode cX11_cut 88 = .ok (.bipush 58, 2) := by decide +kernel
theorem dX11_cut_90 : decode cX11_cut 90 = .ok (.if_icmp .eq 9, 3) := by decide +kernel
theorem dX11_cut_93 : decode cX11_cut 93 = .ok (.iload_n 2, 1) := by decide +kernel
theorem dX11_cut_94 : decode cX11_cut 94 = .ok (.bipush 59, 2) := by decide +kernel
theorem dX11_cut_96 : decode cX11_cut 96 = .ok (.if_icmp .ne 27, 3) := by decide +kernel
theorem dX11_cut_99 : decode cX11_cut 99 = .ok (.aload_n 0, 1) := by decide +kernel
theorem dX11_cut_100 : decode cX11_cut 100 = .ok (.iload_n 2, 1) := by decide +kernel
theorem dX11_cut_101 : decode cX11_cut 101 = .ok (.bipush 58, 2) := by decide +kernel
theorem dX11_cut_103 : decode cX11_cut 103 = .ok (.if_icmp .ne 7, 3) := by decide +kernel
theorem dX11_cut_106 : decode cX11_cut 106 = .ok (.iconst 5, 1) := by decide +kernel
theorem dX11_cut_107 : decode cX11_cut 107 = .ok (.goto 5, 3) := by decide +kernel
theorem dX11_cut_110 : decode cX11_cut 110 = .ok (.bipush 6, 2) := by decide +kernel
theorem dX11_cut_112 : decode cX11_cut 112 = .ok (.iload_n 1, 1) := by decide +kernel
theorem dX11_cut_113 : decode cX11_cut 113 = .ok (.iconst 1, 1) := by decide +kernel
theorem dX11_cut_114 : decode cX11_cut 114 = .ok (.invokevirtual 281, 3) := by decide +kernel
theorem dX11_cut_117 : decode cX11_cut 117 = .ok (.iinc 1 1, 3) := by decide +kernel
theorem dX11_cut_120 : decode cX11_cut 120 = .ok (.goto 9, 3) := by decide +kernel
theorem dX11_cut_123 : decode cX11_cut 123 = .ok (.aload_n 0, 1) := by decide +kernel
theorem dX11_cut_124 : decode cX11_cut 124 = .ok (.iconst 1, 1) := by decide +kernel
theorem dX11_cut_125 : decode cX11_cut 125 = .ok (.iload_n 1, 1) := by decide +kernel
theorem dX11_cut_126 : decode cX11_cut 126 = .ok (.invokevirtual 275, 3) := by decide +kernel
theorem dX11_cut_129 : decode cX11_cut 129 = .ok (.goto (-122), 3) := by decide +kernel
theorem dX11_cut_132 : decode cX11_cut 132 = .ok (.aload_n 0, 1) := by decide +kernel
theorem dX11_cut_133 : decode cX11_cut 133 = .ok (.iconst 0, 1) := by decide +kernel
theorem dX11_cut_134 : decode cX11_cut 134 = .ok (.aload_n 0, 1) := by decide +kernel
theorem dX11_cut_135 : decode cX11_cut 135 = .ok (.getfield 253, 3) := by decide +kernel
theorem dX11_cut_138 : decode cX11_cut 138 = .ok (.iconst 0, 1) := by decide +kernel
theorem dX11_cut_139 : decode cX11_cut 139 = .ok (.invokevirtual 281, 3) := by decide +kernel
theorem dX11_cut_142 : decode cX11_cut 142 = .ok (.return_, 1) := by decide +kernel
theorem dX11_labelOf_0 : decode cX11_labelOf 0 = .ok (.iconst 0, 1) := by decide +kernel
theorem dX11_labelOf_1 : decode cX11_labelOf 1 = .ok (.istore 4, 2) := by decide +kernel
theorem dX11_labelOf_3 : decode cX11_labelOf 3 = .ok (.iload 4, 2) := by decide +kernel
theorem dX11_labelOf_5 : decode cX11_labelOf 5 = .ok (.aload_n 0, 1) := by decide +kernel
theorem dX11_labelOf_6 : decode cX11_labelOf 6 = .ok (.getfield 300, 3) := by decide +kernel
theorem dX11_labelOf_9 : decode cX11_labelOf 9 = .ok (.if_icmp .ge 35, 3) := by decide +kernel
theorem dX11_labelOf_12 : decode cX11_labelOf 12 = .ok (.aload_n 0, 1) := by decide +kernel
theorem dX11_labelOf_13 : decode cX11_labelOf 13 = .ok (.getfield 82, 3) := by decide +kernel
theorem dX11_labelOf_16 : decode cX11_labelOf 16 = .ok (.iload 4, 2) := by decide +kernel
theorem dX11_labelOf_18 : decode cX11_labelOf 18 = .ok (.laload, 1) := by decide +kernel
theorem dX11_labelOf_19 : decode cX11_labelOf 19 = .ok (.lload_n 1, 1) := by decide +kernel
theorem dX11_labelOf_20 : decode cX11_labelOf 20 = .ok (.lcmp, 1) := by decide +kernel
theorem dX11_labelOf_21 : decode cX11_labelOf 21 = .ok (.ifCond .ne 17, 3) := by decide +kernel
theorem dX11_labelOf_24 : decode cX11_labelOf 24 = .ok (.aload_n 0, 1) := by decide +kernel
theorem dX11_labelOf_25 : decode cX11_labelOf 25 = .ok (.getfield 85, 3) := by decide +kernel
theorem dX11_labelOf_28 : decode cX11_labelOf 28 = .ok (.iload 4, 2) := by decide +kernel
theorem dX11_labelOf_30 : decode cX11_labelOf 30 = .ok (.iaload, 1) := by decide +kernel
theorem dX11_labelOf_31 : decode cX11_labelOf 31 = .ok (.iload_n 3, 1) := by decide +kernel
theorem dX11_labelOf_32 : decode cX11_labelOf 32 = .ok (.if_icmp .ne 6, 3) := by decide +kernel
theorem dX11_labelOf_35 : decode cX11_labelOf 35 = .ok (.iload 4, 2) := by decide +kernel
theorem dX11_labelOf_37 : decode cX11_labelOf 37 = .ok (.ireturn, 1) := by decide +kernel
theorem dX11_labelOf_38 : decode cX11_labelOf 38 = .ok (.iinc 4 1, 3) := by decide +kernel
theorem dX11_labelOf_41 : decode cX11_labelOf 41 = .ok (.goto (-38), 3) := by decide +kernel
theorem dX11_labelOf_44 : decode cX11_labelOf 44 = .ok (.iconst (-1), 1) := by decide +kernel
theorem dX11_labelOf_45 : decode cX11_labelOf 45 = .ok (.ireturn, 1) := by decide +kernel
theorem dX11_readAct_0 : decode cX11_readAct 0 = .ok (.aload_n 0, 1) := by decide +kernel
theorem dX11_readAct_1 : decode cX11_readAct 1 = .ok (.getfield 49, 3) := by decide +kernel
theorem dX11_readAct_4 : decode cX11_readAct 4 = .ok (.aload_n 0, 1) := by decide +kernel
theorem dX11_readAct_5 : decode cX11_readAct 5 = .ok (.getfield 303, 3) := by decide +kernel
theorem dX11_readAct_8 : decode cX11_readAct 8 = .ok (.iaload, 1) := by decide +kernel
theorem dX11_readAct_9 : decode cX11_readAct 9 = .ok (.iconst 3, 1) := by decide +kernel
theorem dX11_readAct_10 : decode cX11_readAct 10 = .ok (.if_icmp .ne 7, 3) := by decide +kernel
theorem dX11_readAct_13 : decode cX11_readAct 13 = .ok (.iconst 1, 1) := by decide +kernel
theorem dX11_readAct_14 : decode cX11_readAct 14 = .ok (.goto 4, 3) := by decide +kernel
theorem dX11_readAct_17 : decode cX11_readAct 17 = .ok (.iconst 0, 1) := by decide +kernel
theorem dX11_readAct_18 : decode cX11_readAct 18 = .ok (.istore_n 1, 1) := by decide +kernel
theorem dX11_readAct_19 : decode cX11_readAct 19 = .ok (.aload_n 0, 1) := by decide +kernel
theorem dX11_readAct_20 : decode cX11_readAct 20 = .ok (.getfield 49, 3) := by decide +kernel
theorem dX11_readAct_23 : decode cX11_readAct 23 = .ok (.aload_n 0, 1) := by decide +kernel
theorem dX11_readAct_24 : decode cX11_readAct 24 = .ok (.getfield 303, 3) := by decide +kernel
theorem dX11_readAct_27 : decode cX11_readAct 27 = .ok (.iaload, 1) := by decide +kernel
theorem dX11_readAct_28 : decode cX11_readAct 28 = .ok (.iconst 1, 1) := by decide +kernel
theorem dX11_readAct_29 : decode cX11_readAct 29 = .ok (.if_icmp .eq 22, 3) := by decide +kernel
theorem dX11_readAct_32 : decode cX11_readAct 32 = .ok (.iload_n 1, 1) := by decide +kernel
theorem dX11_readAct_33 : decode cX11_readAct 33 = .ok (.ifCond .ne 18, 3) := by decide +kernel
theorem dX11_readAct_36 : decode cX11_readAct 36 = .ok (.aload_n 0, 1) := by decide +kernel
theorem dX11_readAct_37 : decode cX11_readAct 37 = .ok (.iconst 2, 1) := by decide +kernel
theorem dX11_readAct_38 : decode cX11_readAct 38 = .ok (.aload_n 0, 1) := by decide +kernel
theorem dX11_readAct_39 : decode cX11_readAct 39 = .ok (.getfield 52, 3) := by decide +kernel
theorem dX11_readAct_42 : decode cX11_readAct 42 = .ok (.aload_n 0, 1) := by decide +kernel
theorem dX11_readAct_43 : decode cX11_readAct 43 = .ok (.getfield 303, 3) := by decide +kernel
theorem dX11_readAct_46 : decode cX11_readAct 46 = .ok (.iaload, 1) := by decide +kernel
theorem dX11_readAct_47 : decode cX11_readAct 47 = .ok (.invokevirtual 275, 3) := by decide +kernel
theorem dX11_readAct_50 : decode cX11_readAct 50 = .ok (.return_, 1) := by decide +kernel
theorem dX11_readAct_51 : decode cX11_readAct 51 = .ok (.iload_n 1, 1) := by decide +kernel
theorem dX11_readAct_52 : decode cX11_readAct 52 = .ok (.ifCond .eq 59, 3) := by decide +kernel
theorem dX11_readAct_55 : decode cX11_readAct 55 = .ok (.aload_n 0, 1) := by decide +kernel
theorem dX11_readAct_56 : decode cX11_readAct 56 = .ok (.getfield 49, 3) := by decide +kernel
theorem dX11_readAct_59 : decode cX11_readAct 59 = .ok (.aload_n 0, 1) := by decide +kernel
theorem dX11_readAct_60 : decode cX11_readAct 60 = .ok (.getfield 303, 3) := by decide +kernel
theorem dX11_readAct_63 : decode cX11_readAct 63 = .ok (.iconst 1, 1) := by decide +kernel
theorem dX11_readAct_64 : decode cX11_readAct 64 = .ok (.iadd, 1) := by decide +kernel
theorem dX11_readAct_65 : decode cX11_readAct 65 = .ok (.iaload, 1) := by decide +kernel
theorem dX11_readAct_66 : decode cX11_readAct 66 = .ok (.iconst 5, 1) := by decide +kernel
theorem dX11_readAct_67 : decode cX11_readAct 67 = .ok (.if_icmp .ne 44, 3) := by decide +kernel
theorem dX11_readAct_70 : decode cX11_readAct 70 = .ok (.aload_n 0, 1) := by decide +kernel
theorem dX11_readAct_71 : decode cX11_readAct 71 = .ok (.aload_n 0, 1) := by decide +kernel
theorem dX11_readAct_72 : decode cX11_readAct 72 = .ok (.getfield 58, 3) := by decide +kernel
theorem dX11_readAct_75 : decode cX11_readAct 75 = .ok (.aload_n 0, 1) := by decide +kernel
theorem dX11_readAct_76 : decode cX11_readAct 76 = .ok (.getfield 303, 3) := by decide +kernel
theorem dX11_readAct_79 : decode cX11_readAct 79 = .ok (.laload, 1) := by decide +kernel
theorem dX11_readAct_80 : decode cX11_readAct 80 = .ok (.aload_n 0, 1) := by decide +kernel
theorem dX11_readAct_81 : decode cX11_readAct 81 = .ok (.getfield 55, 3) := by decide +kernel
theorem dX11_readAct_84 : decode cX11_readAct 84 = .ok (.aload_n 0, 1) := by decide +kernel
theorem dX11_readAct_85 : decode cX11_readAct 85 = .ok (.getfield 303, 3) := by decide +kernel
theorem dX11_readAct_88 : decode cX11_readAct 88 = .ok (.iaload, 1) := by decide +kernel
theorem dX11_readAct_89 : decode cX11_readAct 89 = .ok (.invokevirtual 306, 3) := by decide +kernel
theorem dX11_readAct_92 : decode cX11_readAct 92 = .ok (.iconst (-1), 1) := by decide +kernel
theorem dX11_readAct_93 : decode cX11_readAct 93 = .ok (.if_icmp .eq 18, 3) := by decide +kernel
theorem dX11_readAct_96 : decode cX11_readAct 96 = .ok (.aload_n 0, 1) := by decide +kernel
theorem dX11_readAct_97 : decode cX11_readAct 97 = .ok (.iconst 3, 1) := by decide +kernel
theorem dX11_readAct_98 : decode cX11_readAct 98 = .ok (.aload_n 0, 1) := by decide +kernel
theorem dX11_readAct_99 : decode cX11_readAct 99 = .ok (.getfield 52, 3) := by decide +kernel
theorem dX11_readAct_102 : decode cX11_readAct 102 = .ok (.aload_n 0, 1) := by decide +kernel
theorem dX11_readAct_103 : decode cX11_readAct 103 = .ok (.getfield 303, 3) := by decide +kernel
theorem dX11_readAct_106 : decode cX11_readAct 106 = .ok (.iaload, 1) := by decide +kernel
theorem dX11_readAct_107 : decode cX11_readAct 107 = .ok (.invokevirtual 275, 3) := by decide +kernel
theorem dX11_readAct_110 : decode cX11_readAct 110 = .ok (.return_, 1) := by decide +kernel
theorem dX11_readAct_111 : decode cX11_readAct 111 = .ok (.aload_n 0, 1) := by decide +kernel
theorem dX11_readAct_112 : decode cX11_readAct 112 = .ok (.getfield 310, 3) := by decide +kernel
theorem dX11_readAct_115 : decode cX11_readAct 115 = .ok (.sipush 150, 3) := by decide +kernel
theorem dX11_readAct_118 : decode cX11_readAct 118 = .ok (.if_icmp .ne 18, 3) := by decide +kernel
theorem dX11_readAct_121 : decode cX11_readAct 121 = .ok (.aload_n 0, 1) := by decide +kernel
theorem dX11_readAct_122 : decode cX11_readAct 122 = .ok (.iconst 5, 1) := by decide +kernel
theorem dX11_readAct_123 : decode cX11_readAct 123 = .ok (.aload_n 0, 1) := by decide +kernel
theorem dX11_readAct_124 : decode cX11_readAct 124 = .ok (.getfield 52, 3) := by decide +kernel
theorem dX11_readAct_127 : decode cX11_readAct 127 = .ok (.aload_n 0, 1) := by decide +kernel
theorem dX11_readAct_128 : decode cX11_readAct 128 = .ok (.getfield 303, 3) := by decide +kernel
theorem dX11_readAct_131 : decode cX11_readAct 131 = .ok (.iaload, 1) := by decide +kernel
theorem dX11_readAct_132 : decode cX11_readAct 132 = .ok (.invokevirtual 275, 3) := by decide +kernel
theorem dX11_readAct_135 : decode cX11_readAct 135 = .ok (.return_, 1) := by decide +kernel
theorem dX11_readAct_136 : decode cX11_readAct 136 = .ok (.iload_n 1, 1) := by decide +kernel
theorem dX11_readAct_137 : decode cX11_readAct 137 = .ok (.ifCond .eq 109, 3) := by decide +kernel
theorem dX11_readAct_140 : decode cX11_readAct 140 = .ok (.aload_n 0, 1) := by decide +kernel
theorem dX11_readAct_141 : decode cX11_readAct 141 = .ok (.getfield 303, 3) := by decide +kernel
theorem dX11_readAct_144 : decode cX11_readAct 144 = .ok (.istore_n 2, 1) := by decide +kernel
theorem dX11_readAct_145 : decode cX11_readAct 145 = .ok (.aload_n 0, 1) := by decide +kernel
theorem dX11_readAct_146 : decode cX11_readAct 146 = .ok (.dup, 1) := by decide +kernel
theorem dX11_readAct_147 : decode cX11_readAct 147 = .ok (.getfield 303, 3) := by decide +kernel
theorem dX11_readAct_150 : decode cX11_readAct 150 = .ok (.iconst 1, 1) := by decide +kernel
theorem dX11_readAct_151 : decode cX11_readAct 151 = .ok (.iadd, 1) := by decide +kernel
theorem dX11_readAct_152 : decode cX11_readAct 152 = .ok (.putfield 303, 3) := by decide +kernel
theorem dX11_readAct_155 : decode cX11_readAct 155 = .ok (.aload_n 0, 1) := by decide +kernel
theorem dX11_readAct_156 : decode cX11_readAct 156 = .ok (.getfield 49, 3) := by decide +kernel
theorem dX11_readAct_159 : decode cX11_readAct 159 = .ok (.aload_n 0, 1) := by decide +kernel
theorem dX11_readAct_160 : decode cX11_readAct 160 = .ok (.getfield 303, 3) := by decide +kernel
theorem dX11_readAct_163 : decode cX11_readAct 163 = .ok (.iaload, 1) := by decide +kernel
theorem dX11_readAct_164 : decode cX11_readAct 164 = .ok (.iconst 5, 1) := by decide +kernel
theorem dX11_readAct_165 : decode cX11_readAct 165 = .ok (.if_icmp .eq 18, 3) := by decide +kernel
theorem dX11_readAct_168 : decode cX11_readAct 168 = .ok (.aload_n 0, 1) := by decide +kernel
theorem dX11_readAct_169 : decode cX11_readAct 169 = .ok (.iconst 2, 1) := by decide +kernel
theorem dX11_readAct_170 : decode cX11_readAct 170 = .ok (.aload_n 0, 1) := by decide +kernel
theorem dX11_readAct_171 : decode cX11_readAct 171 = .ok (.getfield 52, 3) := by decide +kernel
theorem dX11_readAct_174 : decode cX11_readAct 174 = .ok (.aload_n 0, 1) := by decide +kernel
theorem dX11_readAct_175 : decode cX11_readAct 175 = .ok (.getfield 303, 3) := by decide +kernel
theorem dX11_readAct_178 : decode cX11_readAct 178 = .ok (.iaload, 1) := by decide +kernel
theorem dX11_readAct_179 : decode cX11_readAct 179 = .ok (.invokevirtual 275, 3) := by decide +kernel
theorem dX11_readAct_182 : decode cX11_readAct 182 = .ok (.return_, 1) := by decide +kernel
theorem dX11_readAct_183 : decode cX11_readAct 183 = .ok (.aload_n 0, 1) := by decide +kernel
theorem dX11_readAct_184 : decode cX11_readAct 184 = .ok (.dup, 1) := by decide +kernel
theorem dX11_readAct_185 : decode cX11_readAct 185 = .ok (.getfield 303, 3) := by decide +kernel
theorem dX11_readAct_188 : decode cX11_readAct 188 = .ok (.iconst 1, 1) := by decide +kernel
theorem dX11_readAct_189 : decode cX11_readAct 189 = .ok (.iadd, 1) := by decide +kernel
theorem dX11_readAct_190 : decode cX11_readAct 190 = .ok (.putfield 303, 3) := by decide +kernel
theorem dX11_readAct_193 : decode cX11_readAct 193 = .ok (.aload_n 0, 1) := by decide +kernel
theorem dX11_readAct_194 : decode cX11_readAct 194 = .ok (.getfield 82, 3) := by decide +kernel
theorem dX11_readAct_197 : decode cX11_readAct 197 = .ok (.aload_n 0, 1) := by decide +kernel
theorem dX11_readAct_198 : decode cX11_readAct 198 = .ok (.getfield 300, 3) := by decide +kernel
theorem dX11_readAct_201 : decode cX11_readAct 201 = .ok (.aload_n 0, 1) := by decide +kernel
theorem dX11_readAct_202 : decode cX11_readAct 202 = .ok (.getfield 58, 3) := by decide +kernel
theorem dX11_readAct_205 : decode cX11_readAct 205 = .ok (.iload_n 2, 1) := by decide +kernel
theorem dX11_readAct_206 : decode cX11_readAct 206 = .ok (.laload, 1) := by decide +kernel
theorem dX11_readAct_207 : decode cX11_readAct 207 = .ok (.lastore, 1) := by decide +kernel
theorem dX11_readAct_208 : decode cX11_readAct 208 = .ok (.aload_n 0, 1) := by decide +kernel
theorem dX11_readAct_209 : decode cX11_readAct 209 = .ok (.getfield 85, 3) := by decide +kernel
theorem dX11_readAct_212 : decode cX11_readAct 212 = .ok (.aload_n 0, 1) := by decide +kernel
theorem dX11_readAct_213 : decode cX11_readAct 213 = .ok (.getfield 300, 3) := by decide +kernel
theorem dX11_readAct_216 : decode cX11_readAct 216 = .ok (.aload_n 0, 1) := by decide +kernel
theorem dX11_readAct_217 : decode cX11_readAct 217 = .ok (.getfield 55, 3) := by decide +kernel
theorem dX11_readAct_220 : decode cX11_readAct 220 = .ok (.iload_n 2, 1) := by decide +kernel
theorem dX11_readAct_221 : decode cX11_readAct 221 = .ok (.iaload, 1) := by decide +kernel
theorem dX11_readAct_222 : decode cX11_readAct 222 = .ok (.iastore, 1) := by decide +kernel
theorem dX11_readAct_223 : decode cX11_readAct 223 = .ok (.aload_n 0, 1) := by decide +kernel
theorem dX11_readAct_224 : decode cX11_readAct 224 = .ok (.getfield 88, 3) := by decide +kernel
theorem dX11_readAct_227 : decode cX11_readAct 227 = .ok (.aload_n 0, 1) := by decide +kernel
theorem dX11_readAct_228 : decode cX11_readAct 228 = .ok (.getfield 300, 3) := by decide +kernel
theorem dX11_readAct_231 : decode cX11_readAct 231 = .ok (.aload_n 0, 1) := by decide +kernel
theorem dX11_readAct_232 : decode cX11_readAct 232 = .ok (.getfield 310, 3) := by decide +kernel
theorem dX11_readAct_235 : decode cX11_readAct 235 = .ok (.iastore, 1) := by decide +kernel
theorem dX11_readAct_236 : decode cX11_readAct 236 = .ok (.aload_n 0, 1) := by decide +kernel
theorem dX11_readAct_237 : decode cX11_readAct 237 = .ok (.dup, 1) := by decide +kernel
theorem dX11_readAct_238 : decode cX11_readAct 238 = .ok (.getfield 300, 3) := by decide +kernel
theorem dX11_readAct_241 : decode cX11_readAct 241 = .ok (.iconst 1, 1) := by decide +kernel
theorem dX11_readAct_242 : decode cX11_readAct 242 = .ok (.iadd, 1) := by decide +kernel
theorem dX11_readAct_243 : decode cX11_readAct 243 = .ok (.putfield 300, 3) := by decide +kernel
theorem dX11_readAct_246 : decode cX11_readAct 246 = .ok (.aload_n 0, 1) := by decide +kernel
theorem dX11_readAct_247 : decode cX11_readAct 247 = .ok (.getfield 49, 3) := by decide +kernel
theorem dX11_readAct_250 : decode cX11_readAct 250 = .ok (.aload_n 0, 1) := by decide +kernel
theorem dX11_readAct_251 : decode cX11_readAct 251 = .ok (.getfield 303, 3) := by decide +kernel
theorem dX11_readAct_254 : decode cX11_readAct 254 = .ok (.iaload, 1) := by decide +kernel
theorem dX11_readAct_255 : decode cX11_readAct 255 = .ok (.iconst 1, 1) := by decide +kernel
theorem dX11_readAct_256 : decode cX11_readAct 256 = .ok (.if_icmp .eq 18, 3) := by decide +kernel
theorem dX11_readAct_259 : decode cX11_readAct 259 = .ok (.aload_n 0, 1) := by decide +kernel
theorem dX11_readAct_260 : decode cX11_readAct 260 = .ok (.iconst 2, 1) := by decide +kernel
theorem dX11_readAct_261 : decode cX11_readAct 261 = .ok (.aload_n 0, 1) := by decide +kernel
theorem dX11_readAct_262 : decode cX11_readAct 262 = .ok (.getfield 52, 3) := by decide +kernel
theorem dX11_readAct_265 : decode cX11_readAct 265 = .ok (.aload_n 0, 1) := by decide +kernel
theorem dX11_readAct_266 : decode cX11_readAct 266 = .ok (.getfield 303, 3) := by decide +kernel
theorem dX11_readAct_269 : decode cX11_readAct 269 = .ok (.iaload, 1) := by decide +kernel
theorem dX11_readAct_270 : decode cX11_readAct 270 = .ok (.invokevirtual 275, 3) := by decide +kernel
theorem dX11_readAct_273 : decode cX11_readAct 273 = .ok (.return_, 1) := by decide +kernel
theorem dX11_readAct_274 : decode cX11_readAct 274 = .ok (.aload_n 0, 1) := by decide +kernel
theorem dX11_readAct_275 : decode cX11_readAct 275 = .ok (.getfield 64, 3) := by decide +kernel
theorem dX11_readAct_278 : decode cX11_readAct 278 = .ok (.aload_n 0, 1) := by decide +kernel
theorem dX11_readAct_279 : decode cX11_readAct 279 = .ok (.getfield 310, 3) := by decide +kernel
theorem dX11_readAct_282 : decode cX11_readAct 282 = .ok (.aload_n 0, 1) := by decide +kernel
theorem dX11_readAct_283 : decode cX11_readAct 283 = .ok (.getfield 61, 3) := by decide +kernel
theorem dX11_readAct_286 : decode cX11_readAct 286 = .ok (.aload_n 0, 1) := by decide +kernel
theorem dX11_readAct_287 : decode cX11_readAct 287 = .ok (.getfield 303, 3) := by decide +kernel
theorem dX11_readAct_290 : decode cX11_readAct 290 = .ok (.iaload, 1) := by decide +kernel
theorem dX11_readAct_291 : decode cX11_readAct 291 = .ok (.iastore, 1) := by decide +kernel
theorem dX11_readAct_292 : decode cX11_readAct 292 = .ok (.aload_n 0, 1) := by decide +kernel
theorem dX11_readAct_293 : decode cX11_readAct 293 = .ok (.getfield 67, 3) := by decide +kernel
theorem dX11_readAct_296 : decode cX11_readAct 296 = .ok (.aload_n 0, 1) := by decide +kernel
theorem dX11_readAct_297 : decode cX11_readAct 297 = .ok (.getfield 310, 3) := by decide +kernel
theorem dX11_readAct_300 : decode cX11_readAct 300 = .ok (.aload_n 0, 1) := by decide +kernel
theorem dX11_readAct_301 : decode cX11_readAct 301 = .ok (.getfield 52, 3) := by decide +kernel
theorem dX11_readAct_304 : decode cX11_readAct 304 = .ok (.aload_n 0, 1) := by decide +kernel
theorem dX11_readAct_305 : decode cX11_readAct 305 = .ok (.getfield 303, 3) := by decide +kernel
theorem dX11_readAct_308 : decode cX11_readAct 308 = .ok (.iaload, 1) := by decide +kernel
theorem dX11_readAct_309 : decode cX11_readAct 309 = .ok (.iastore, 1) := by decide +kernel
theorem dX11_readAct_310 : decode cX11_readAct 310 = .ok (.aload_n 0, 1) := by decide +kernel
theorem dX11_readAct_311 : decode cX11_readAct 311 = .ok (.dup, 1) := by decide +kernel
theorem dX11_readAct_312 : decode cX11_readAct 312 = .ok (.getfield 303, 3) := by decide +kernel
theorem dX11_readAct_315 : decode cX11_readAct 315 = .ok (.iconst 1, 1) := by decide +kernel
theorem dX11_readAct_316 : decode cX11_readAct 316 = .ok (.iadd, 1) := by decide +kernel
theorem dX11_readAct_317 : decode cX11_readAct 317 = .ok (.putfield 303, 3) := by decide +kernel
theorem dX11_readAct_320 : decode cX11_readAct 320 = .ok (.aload_n 0, 1) := by decide +kernel
theorem dX11_readAct_321 : decode cX11_readAct 321 = .ok (.getstatic 232, 3) := by decide +kernel
theorem dX11_readAct_324 : decode cX11_readAct 324 = .ok (.aload_n 0, 1) := by decide +kernel
theorem dX11_readAct_325 : decode cX11_readAct 325 = .ok (.getfield 64, 3) := by decide +kernel
theorem dX11_readAct_328 : decode cX11_readAct 328 = .ok (.aload_n 0, 1) := by decide +kernel
theorem dX11_readAct_329 : decode cX11_readAct 329 = .ok (.getfield 310, 3) := by decide +kernel
theorem dX11_readAct_332 : decode cX11_readAct 332 = .ok (.iaload, 1) := by decide +kernel
theorem dX11_readAct_333 : decode cX11_readAct 333 = .ok (.iaload, 1) := by decide +kernel
theorem dX11_readAct_334 : decode cX11_readAct 334 = .ok (.invokevirtual 313, 3) := by decide +kernel
theorem dX11_readAct_337 : decode cX11_readAct 337 = .ok (.aload_n 0, 1) := by decide +kernel
theorem dX11_readAct_338 : decode cX11_readAct 338 = .ok (.invokevirtual 292, 3) := by decide +kernel
theorem dX11_readAct_341 : decode cX11_readAct 341 = .ok (.ifCond .ne 4, 3) := by decide +kernel
theorem dX11_readAct_344 : decode cX11_readAct 344 = .ok (.return_, 1) := by decide +kernel
theorem dX11_readAct_345 : decode cX11_readAct 345 = .ok (.aload_n 0, 1) := by decide +kernel
theorem dX11_readAct_346 : decode cX11_readAct 346 = .ok (.getfield 49, 3) := by decide +kernel
theorem dX11_readAct_349 : decode cX11_readAct 349 = .ok (.aload_n 0, 1) := by decide +kernel
theorem dX11_readAct_350 : decode cX11_readAct 350 = .ok (.getfield 303, 3) := by decide +kernel
theorem dX11_readAct_353 : decode cX11_readAct 353 = .ok (.iaload, 1) := by decide +kernel
theorem dX11_readAct_354 : decode cX11_readAct 354 = .ok (.bipush 6, 2) := by decide +kernel
theorem dX11_readAct_356 : decode cX11_readAct 356 = .ok (.if_icmp .eq 18, 3) := by decide +kernel
theorem dX11_readAct_359 : decode cX11_readAct 359 = .ok (.aload_n 0, 1) := by decide +kernel
theorem dX11_readAct_360 : decode cX11_readAct 360 = .ok (.iconst 2, 1) := by decide +kernel
theorem dX11_readAct_361 : decode cX11_readAct 361 = .ok (.aload_n 0, 1) := by decide +kernel
theorem dX11_readAct_362 : decode cX11_readAct 362 = .ok (.getfield 52, 3) := by decide +kernel
theorem dX11_readAct_365 : decode cX11_readAct 365 = .ok (.aload_n 0, 1) := by decide +kernel
theorem dX11_readAct_366 : decode cX11_readAct 366 = .ok (.getfield 303, 3) := by decide +kernel
theorem dX11_readAct_369 : decode cX11_readAct 369 = .ok (.iaload, 1) := by decide +kernel
theorem dX11_readAct_370 : decode cX11_readAct 370 = .ok (.invokevirtual 275, 3) := by decide +kernel
theorem dX11_readAct_373 : decode cX11_readAct 373 = .ok (.return_, 1) := by decide +kernel
theorem dX11_readAct_374 : decode cX11_readAct 374 = .ok (.aload_n 0, 1) := by decide +kernel
theorem dX11_readAct_375 : decode cX11_readAct 375 = .ok (.dup, 1) := by decide +kernel
theorem dX11_readAct_376 : decode cX11_readAct 376 = .ok (.getfield 303, 3) := by decide +kernel
theorem dX11_readAct_379 : decode cX11_readAct 379 = .ok (.iconst 1, 1) := by decide +kernel
theorem dX11_readAct_380 : decode cX11_readAct 380 = .ok (.iadd, 1) := by decide +kernel
theorem dX11_readAct_381 : decode cX11_readAct 381 = .ok (.putfield 303, 3) := by decide +kernel
theorem dX11_readAct_384 : decode cX11_readAct 384 = .ok (.aload_n 0, 1) := by decide +kernel
theorem dX11_readAct_385 : decode cX11_readAct 385 = .ok (.dup, 1) := by decide +kernel
theorem dX11_readAct_386 : decode cX11_readAct 386 = .ok (.getfield 310, 3) := by decide +kernel
theorem dX11_readAct_389 : decode cX11_readAct 389 = .ok (.iconst 1, 1) := by decide +kernel
theorem dX11_readAct_390 : decode cX11_readAct 390 = .ok (.iadd, 1) := by decide +kernel
theorem dX11_readAct_391 : decode cX11_readAct 391 = .ok (.putfield 310, 3) := by decide +kernel
theorem dX11_readAct_394 : decode cX11_readAct 394 = .ok (.return_, 1) := by decide +kernel
theorem dX11_readTakes_0 : decode cX11_readTakes 0 = .ok (.iconst 0, 1) := by decide +kernel
theorem dX11_readTakes_1 : decode cX11_readTakes 1 = .ok (.istore_n 2, 1) := by decide +kernel
theorem dX11_readTakes_2 : decode cX11_readTakes 2 = .ok (.iload_n 2, 1) := by decide +kernel
theorem dX11_readTakes_3 : decode cX11_readTakes 3 = .ok (.iconst 3, 1) := by decide +kernel
theorem dX11_readTakes_4 : decode cX11_readTakes 4 = .ok (.if_icmp .ge 23, 3) := by decide +kernel
theorem dX11_readTakes_7 : decode cX11_readTakes 7 = .ok (.aload_n 0, 1) := by decide +kernel
theorem dX11_readTakes_8 : decode cX11_readTakes 8 = .ok (.getfield 79, 3) := by decide +kernel
theorem dX11_readTakes_11 : decode cX11_readTakes 11 = .ok (.iconst 3, 1) := by decide +kernel
theorem dX11_readTakes_12 : decode cX11_readTakes 12 = .ok (.aload_n 0, 1) := by decide +kernel
theorem dX11_readTakes_13 : decode cX11_readTakes 13 = .ok (.getfield 310, 3) := by decide +kernel
theorem dX11_readTakes_16 : decode cX11_readTakes 16 = .ok (.imul, 1) := by decide +kernel
theorem dX11_readTakes_17 : decode cX11_readTakes 17 = .ok (.iload_n 2, 1) := by decide +kernel
theorem dX11_readTakes_18 : decode cX11_readTakes 18 = .ok (.iadd, 1) := by decide +kernel
theorem dX11_readTakes_19 : decode cX11_readTakes 19 = .ok (.iconst 0, 1) := by decide +kernel
theorem dX11_readTakes_20 : decode cX11_readTakes 20 = .ok (.iastore, 1) := by decide +kernel
theorem dX11_readTakes_21 : decode cX11_readTakes 21 = .ok (.iinc 2 1, 3) := by decide +kernel
theorem dX11_readTakes_24 : decode cX11_readTakes 24 = .ok (.goto (-22), 3) := by decide +kernel
theorem dX11_readTakes_27 : decode cX11_readTakes 27 = .ok (.iconst 0, 1) := by decide +kernel
theorem dX11_readTakes_28 : decode cX11_readTakes 28 = .ok (.istore_n 2, 1) := by decide +kernel
theorem dX11_readTakes_29 : decode cX11_readTakes 29 = .ok (.iload_n 2, 1) := by decide +kernel
theorem dX11_readTakes_30 : decode cX11_readTakes 30 = .ok (.iload_n 1, 1) := by decide +kernel
theorem dX11_readTakes_31 : decode cX11_readTakes 31 = .ok (.invokestatic 230, 3) := by decide +kernel
theorem dX11_readTakes_34 : decode cX11_readTakes 34 = .ok (.if_icmp .ge 154, 3) := by decide +kernel
theorem dX11_readTakes_37 : decode cX11_readTakes 37 = .ok (.iload_n 1, 1) := by decide +kernel
theorem dX11_readTakes_38 : decode cX11_readTakes 38 = .ok (.iload_n 2, 1) := by decide +kernel
theorem dX11_readTakes_39 : decode cX11_readTakes 39 = .ok (.invokestatic 235, 3) := by decide +kernel
theorem dX11_readTakes_42 : decode cX11_readTakes 42 = .ok (.istore_n 3, 1) := by decide +kernel
theorem dX11_readTakes_43 : decode cX11_readTakes 43 = .ok (.iload_n 3, 1) := by decide +kernel
theorem dX11_readTakes_44 : decode cX11_readTakes 44 = .ok (.iconst 1, 1) := by decide +kernel
theorem dX11_readTakes_45 : decode cX11_readTakes 45 = .ok (.if_icmp .ne 7, 3) := by decide +kernel
theorem dX11_readTakes_48 : decode cX11_readTakes 48 = .ok (.iconst 2, 1) := by decide +kernel
theorem dX11_readTakes_49 : decode cX11_readTakes 49 = .ok (.goto 13, 3) := by decide +kernel
theorem dX11_readTakes_52 : decode cX11_readTakes 52 = .ok (.iload_n 3, 1) := by decide +kernel
theorem dX11_readTakes_53 : decode cX11_readTakes 53 = .ok (.iconst 2, 1) := by decide +kernel
theorem dX11_readTakes_54 : decode cX11_readTakes 54 = .ok (.if_icmp .ne 7, 3) := by decide +kernel
theorem dX11_readTakes_57 : decode cX11_readTakes 57 = .ok (.iconst 4, 1) := by decide +kernel
theorem dX11_readTakes_58 : decode cX11_readTakes 58 = .ok (.goto 4, 3) := by decide +kernel
theorem dX11_readTakes_61 : decode cX11_readTakes 61 = .ok (.iconst 3, 1) := by decide +kernel
theorem dX11_readTakes_62 : decode cX11_readTakes 62 = .ok (.istore 4, 2) := by decide +kernel
theorem dX11_readTakes_64 : decode cX11_readTakes 64 = .ok (.aload_n 0, 1) := by decide +kernel
theorem dX11_readTakes_65 : decode cX11_readTakes 65 = .ok (.getfield 49, 3) := by decide +kernel
theorem dX11_readTakes_68 : decode cX11_readTakes 68 = .ok (.aload_n 0, 1) := by decide +kernel
theorem dX11_readTakes_69 : decode cX11_readTakes 69 = .ok (.getfield 303, 3) := by decide +kernel
theorem dX11_readTakes_72 : decode cX11_readTakes 72 = .ok (.iaload, 1) := by decide +kernel
theorem dX11_readTakes_73 : decode cX11_readTakes 73 = .ok (.iload 4, 2) := by decide +kernel
theorem dX11_readTakes_75 : decode cX11_readTakes 75 = .ok (.if_icmp .eq 18, 3) := by decide +kernel
theorem dX11_readTakes_78 : decode cX11_readTakes 78 = .ok (.aload_n 0, 1) := by decide +kernel
theorem dX11_readTakes_79 : decode cX11_readTakes 79 = .ok (.iconst 2, 1) := by decide +kernel
theorem dX11_readTakes_80 : decode cX11_readTakes 80 = .ok (.aload_n 0, 1) := by decide +kernel
theorem dX11_readTakes_81 : decode cX11_readTakes 81 = .ok (.getfield 52, 3) := by decide +kernel
theorem dX11_readTakes_84 : decode cX11_readTakes 84 = .ok (.aload_n 0, 1) := by decide +kernel
theorem dX11_readTakes_85 : decode cX11_readTakes 85 = .ok (.getfield 303, 3) := by decide +kernel
theorem dX11_readTakes_88 : decode cX11_readTakes 88 = .ok (.iaload, 1) := by decide +kernel
theorem dX11_readTakes_89 : decode cX11_readTakes 89 = .ok (.invokevirtual 275, 3) := by decide +kernel
theorem dX11_readTakes_92 : decode cX11_readTakes 92 = .ok (.return_, 1) := by decide +kernel
theorem dX11_readTakes_93 : decode cX11_readTakes 93 = .ok (.iconst 3, 1) := by decide +kernel
theorem dX11_readTakes_94 : decode cX11_readTakes 94 = .ok (.aload_n 0, 1) := by decide +kernel
theorem dX11_readTakes_95 : decode cX11_readTakes 95 = .ok (.getfield 310, 3) := by decide +kernel
theorem dX11_readTakes_98 : decode cX11_readTakes 98 = .ok (.imul, 1) := by decide +kernel
theorem dX11_readTakes_99 : decode cX11_readTakes 99 = .ok (.iload_n 2, 1) := by decide +kernel
theorem dX11_readTakes_100 : decode cX11_readTakes 100 = .ok (.iadd, 1) := by decide +kernel
theorem dX11_readTakes_101 : decode cX11_readTakes 101 = .ok (.istore 5, 2) := by decide +kernel
theorem dX11_readTakes_103 : decode cX11_readTakes 103 = .ok (.aload_n 0, 1) := by decide +kernel
theorem dX11_readTakes_104 : decode cX11_readTakes 104 = .ok (.getfield 70, 3) := by decide +kernel
theorem dX11_readTakes_107 : decode cX11_readTakes 107 = .ok (.iload 5, 2) := by decide +kernel
theorem dX11_readTakes_109 : decode cX11_readTakes 109 = .ok (.aload_n 0, 1) := by decide +kernel
theorem dX11_readTakes_110 : decode cX11_readTakes 110 = .ok (.getfield 61, 3) := by decide +kernel
theorem dX11_readTakes_113 : decode cX11_readTakes 113 = .ok (.aload_n 0, 1) := by decide +kernel
theorem dX11_readTakes_114 : decode cX11_readTakes 114 = .ok (.getfield 303, 3) := by decide +kernel
theorem dX11_readTakes_117 : decode cX11_readTakes 117 = .ok (.iaload, 1) := by decide +kernel
theorem dX11_readTakes_118 : decode cX11_readTakes 118 = .ok (.iastore, 1) := by decide +kernel
theorem dX11_readTakes_119 : decode cX11_readTakes 119 = .ok (.aload_n 0, 1) := by decide +kernel
theorem dX11_readTakes_120 : decode cX11_readTakes 120 = .ok (.getfield 73, 3) := by decide +kernel
theorem dX11_readTakes_123 : decode cX11_readTakes 123 = .ok (.iload 5, 2) := by decide +kernel
theorem dX11_readTakes_125 : decode cX11_readTakes 125 = .ok (.aload_n 0, 1) := by decide +kernel
theorem dX11_readTakes_126 : decode cX11_readTakes 126 = .ok (.getfield 52, 3) := by decide +kernel
theorem dX11_readTakes_129 : decode cX11_readTakes 129 = .ok (.aload_n 0, 1) := by decide +kernel
theorem dX11_readTakes_130 : decode cX11_readTakes 130 = .ok (.getfield 303, 3) := by decide +kernel
theorem dX11_readTakes_133 : decode cX11_readTakes 133 = .ok (.iaload, 1) := by decide +kernel
theorem dX11_readTakes_134 : decode cX11_readTakes 134 = .ok (.iastore, 1) := by decide +kernel
theorem dX11_readTakes_135 : decode cX11_readTakes 135 = .ok (.iload_n 3, 1) := by decide +kernel
theorem dX11_readTakes_136 : decode cX11_readTakes 136 = .ok (.iconst 3, 1) := by decide +kernel
theorem dX11_readTakes_137 : decode cX11_readTakes 137 = .ok (.if_icmp .ne 35, 3) := by decide +kernel
theorem dX11_readTakes_140 : decode cX11_readTakes 140 = .ok (.aload_n 0, 1) := by decide +kernel
theorem dX11_readTakes_141 : decode cX11_readTakes 141 = .ok (.getfield 76, 3) := by decide +kernel
theorem dX11_readTakes_144 : decode cX11_readTakes 144 = .ok (.iload 5, 2) := by decide +kernel
theorem dX11_readTakes_146 : decode cX11_readTakes 146 = .ok (.aload_n 0, 1) := by decide +kernel
theorem dX11_readTakes_147 : decode cX11_readTakes 147 = .ok (.getfield 58, 3) := by decide +kernel
theorem dX11_readTakes_150 : decode cX11_readTakes 150 = .ok (.aload_n 0, 1) := by decide +kernel
theorem dX11_readTakes_151 : decode cX11_readTakes 151 = .ok (.getfield 303, 3) := by decide +kernel
theorem dX11_readTakes_154 : decode cX11_readTakes 154 = .ok (.laload, 1) := by decide +kernel
theorem dX11_readTakes_155 : decode cX11_readTakes 155 = .ok (.lastore, 1) := by decide +kernel
theorem dX11_readTakes_156 : decode cX11_readTakes 156 = .ok (.aload_n 0, 1) := by decide +kernel
theorem dX11_readTakes_157 : decode cX11_readTakes 157 = .ok (.getfield 79, 3) := by decide +kernel
theorem dX11_readTakes_160 : decode cX11_readTakes 160 = .ok (.iload 5, 2) := by decide +kernel
theorem dX11_readTakes_162 : decode cX11_readTakes 162 = .ok (.aload_n 0, 1) := by decide +kernel
theorem dX11_readTakes_163 : decode cX11_readTakes 163 = .ok (.getfield 55, 3) := by decide +kernel
theorem dX11_readTakes_166 : decode cX11_readTakes 166 = .ok (.aload_n 0, 1) := by decide +kernel
theorem dX11_readTakes_167 : decode cX11_readTakes 167 = .ok (.getfield 303, 3) := by decide +kernel
theorem dX11_readTakes_170 : decode cX11_readTakes 170 = .ok (.iaload, 1) := by decide +kernel
theorem dX11_readTakes_171 : decode cX11_readTakes 171 = .ok (.iastore, 1) := by decide +kernel
theorem dX11_readTakes_172 : decode cX11_readTakes 172 = .ok (.aload_n 0, 1) := by decide +kernel
theorem dX11_readTakes_173 : decode cX11_readTakes 173 = .ok (.dup, 1) := by decide +kernel
theorem dX11_readTakes_174 : decode cX11_readTakes 174 = .ok (.getfield 303, 3) := by decide +kernel
theorem dX11_readTakes_177 : decode cX11_readTakes 177 = .ok (.iconst 1, 1) := by decide +kernel
theorem dX11_readTakes_178 : decode cX11_readTakes 178 = .ok (.iadd, 1) := by decide +kernel
theorem dX11_readTakes_179 : decode cX11_readTakes 179 = .ok (.putfield 303, 3) := by decide +kernel
theorem dX11_readTakes_182 : decode cX11_readTakes 182 = .ok (.iinc 2 1, 3) := by decide +kernel
theorem dX11_readTakes_185 : decode cX11_readTakes 185 = .ok (.goto (-156), 3) := by decide +kernel
theorem dX11_readTakes_188 : decode cX11_readTakes 188 = .ok (.return_, 1) := by decide +kernel
theorem dX11_program_0 : decode cX11_program 0 = .ok (.aload_n 0, 1) := by decide +kernel
theorem dX11_program_1 : decode cX11_program 1 = .ok (.iconst 0, 1) := by decide +kernel
theorem dX11_program_2 : decode cX11_program 2 = .ok (.putfield 131, 3) := by decide +kernel
theorem dX11_program_5 : decode cX11_program 5 = .ok (.aload_n 0, 1) := by decide +kernel
theorem dX11_program_6 : decode cX11_program 6 = .ok (.iconst 0, 1) := by decide +kernel
theorem dX11_program_7 : decode cX11_program 7 = .ok (.putfield 260, 3) := by decide +kernel
theorem dX11_program_10 : decode cX11_program 10 = .ok (.aload_n 0, 1) := by decide +kernel
theorem dX11_program_11 : decode cX11_program 11 = .ok (.invokevirtual 316, 3) := by decide +kernel
theorem dX11_program_14 : decode cX11_program 14 = .ok (.aload_n 0, 1) := by decide +kernel
theorem dX11_program_15 : decode cX11_program 15 = .ok (.iconst 0, 1) := by decide +kernel
theorem dX11_program_16 : decode cX11_program 16 = .ok (.putfield 303, 3) := by decide +kernel
theorem dX11_program_19 : decode cX11_program 19 = .ok (.aload_n 0, 1) := by decide +kernel
theorem dX11_program_20 : decode cX11_program 20 = .ok (.iconst 0, 1) := by decide +kernel
theorem dX11_program_21 : decode cX11_program 21 = .ok (.putfield 310, 3) := by decide +kernel
theorem dX11_program_24 : decode cX11_program 24 = .ok (.aload_n 0, 1) := by decide +kernel
theorem dX11_program_25 : decode cX11_program 25 = .ok (.iconst 0, 1) := by decide +kernel
theorem dX11_program_26 : decode cX11_program 26 = .ok (.putfield 300, 3) := by decide +kernel
theorem dX11_program_29 : decode cX11_program 29 = .ok (.aload_n 0, 1) := by decide +kernel
theorem dX11_program_30 : decode cX11_program 30 = .ok (.invokevirtual 292, 3) := by decide +kernel
theorem dX11_program_33 : decode cX11_program 33 = .ok (.ifCond .eq 22, 3) := by decide +kernel
theorem dX11_program_36 : decode cX11_program 36 = .ok (.aload_n 0, 1) := by decide +kernel
theorem dX11_program_37 : decode cX11_program 37 = .ok (.getfield 49, 3) := by decide +kernel
theorem dX11_program_40 : decode cX11_program 40 = .ok (.aload_n 0, 1) := by decide +kernel
theorem dX11_program_41 : decode cX11_program 41 = .ok (.getfield 303, 3) := by decide +kernel
theorem dX11_program_44 : decode cX11_program 44 = .ok (.iaload, 1) := by decide +kernel
theorem dX11_program_45 : decode cX11_program 45 = .ok (.ifCond .eq 10, 3) := by decide +kernel
theorem dX11_program_48 : decode cX11_program 48 = .ok (.aload_n 0, 1) := by decide +kernel
theorem dX11_program_49 : decode cX11_program 49 = .ok (.invokevirtual 319, 3) := by decide +kernel
theorem dX11_program_52 : decode cX11_program 52 = .ok (.goto (-23), 3) := by decide +kernel
theorem dX11_program_55 : decode cX11_program 55 = .ok (.iconst 0, 1) := by decide +kernel
theorem dX11_program_56 : decode cX11_program 56 = .ok (.istore_n 1, 1) := by decide +kernel
theorem dX11_program_57 : decode cX11_program 57 = .ok (.iload_n 1, 1) := by decide +kernel
theorem dX11_program_58 : decode cX11_program 58 = .ok (.iconst 3, 1) := by decide +kernel
theorem dX11_program_59 : decode cX11_program 59 = .ok (.aload_n 0, 1) := by decide +kernel
theorem dX11_program_60 : decode cX11_program 60 = .ok (.getfield 310, 3) := by decide +kernel
theorem dX11_program_63 : decode cX11_program 63 = .ok (.imul, 1) := by decide +kernel
theorem dX11_program_64 : decode cX11_program 64 = .ok (.if_icmp .ge 76, 3) := by decide +kernel
theorem dX11_program_67 : decode cX11_program 67 = .ok (.aload_n 0, 1) := by decide +kernel
theorem dX11_program_68 : decode cX11_program 68 = .ok (.invokevirtual 292, 3) := by decide +kernel
theorem dX11_program_71 : decode cX11_program 71 = .ok (.ifCond .eq 69, 3) := by decide +kernel
theorem dX11_program_74 : decode cX11_program 74 = .ok (.aload_n 0, 1) := by decide +kernel
theorem dX11_program_75 : decode cX11_program 75 = .ok (.getfield 79, 3) := by decide +kernel
theorem dX11_program_78 : decode cX11_program 78 = .ok (.iload_n 1, 1) := by decide +kernel
theorem dX11_program_79 : decode cX11_program 79 = .ok (.iaload, 1) := by decide +kernel
theorem dX11_program_80 : decode cX11_program 80 = .ok (.ifCond .ne 6, 3) := by decide +kernel
theorem dX11_program_83 : decode cX11_program 83 = .ok (.goto 51, 3) := by decide +kernel
theorem dX11_program_86 : decode cX11_program 86 = .ok (.aload_n 0, 1) := by decide +kernel
theorem dX11_program_87 : decode cX11_program 87 = .ok (.aload_n 0, 1) := by decide +kernel
theorem dX11_program_88 : decode cX11_program 88 = .ok (.getfield 76, 3) := by decide +kernel
theorem dX11_program_91 : decode cX11_program 91 = .ok (.iload_n 1, 1) := by decide +kernel
theorem dX11_program_92 : decode cX11_program 92 = .ok (.laload, 1) := by decide +kernel
theorem dX11_program_93 : decode cX11_program 93 = .ok (.aload_n 0, 1) := by decide +kernel
theorem dX11_program_94 : decode cX11_program 94 = .ok (.getfield 79, 3) := by decide +kernel
theorem dX11_program_97 : decode cX11_program 97 = .ok (.iload_n 1, 1) := by decide +kernel
theorem dX11_program_98 : decode cX11_program 98 = .ok (.iaload, 1) := by decide +kernel
theorem dX11_program_99 : decode cX11_program 99 = .ok (.invokevirtual 306, 3) := by decide +kernel
theorem dX11_program_102 : decode cX11_program 102 = .ok (.istore_n 2, 1) := by decide +kernel
theorem dX11_program_103 : decode cX11_program 103 = .ok (.iload_n 2, 1) := by decide +kernel
theorem dX11_program_104 : decode cX11_program 104 = .ok (.iconst (-1), 1) := by decide +kernel
theorem dX11_program_105 : decode cX11_program 105 = .ok (.if_icmp .ne 17, 3) := by decide +kernel
theorem dX11_program_108 : decode cX11_program 108 = .ok (.aload_n 0, 1) := by decide +kernel
theorem dX11_program_109 : decode cX11_program 109 = .ok (.iconst 4, 1) := by decide +kernel
theorem dX11_program_110 : decode cX11_program 110 = .ok (.aload_n 0, 1) := by decide +kernel
theorem dX11_program_111 : decode cX11_program 111 = .ok (.getfield 73, 3) := by decide +kernel
theorem dX11_program_114 : decode cX11_program 114 = .ok (.iload_n 1, 1) := by decide +kernel
theorem dX11_program_115 : decode cX11_program 115 = .ok (.iaload, 1) := by decide +kernel
theorem dX11_program_116 : decode cX11_program 116 = .ok (.invokevirtual 275, 3) := by decide +kernel
theorem dX11_program_119 : decode cX11_program 119 = .ok (.goto 15, 3) := by decide +kernel
theorem dX11_program_122 : decode cX11_program 122 = .ok (.aload_n 0, 1) := by decide +kernel
theorem dX11_program_123 : decode cX11_program 123 = .ok (.getfield 70, 3) := by decide +kernel
theorem dX11_program_126 : decode cX11_program 126 = .ok (.iload_n 1, 1) := by decide +kernel
theorem dX11_program_127 : decode cX11_program 127 = .ok (.aload_n 0, 1) := by decide +kernel
theorem dX11_program_128 : decode cX11_program 128 = .ok (.getfield 88, 3) := by decide +kernel
theorem dX11_program_131 : decode cX11_program 131 = .ok (.iload_n 2, 1) := by decide +kernel
theorem dX11_program_132 : decode cX11_program 132 = .ok (.iaload, 1) := by decide +kernel
theorem dX11_program_133 : decode cX11_program 133 = .ok (.iastore, 1) := by decide +kernel
theorem dX11_program_134 : decode cX11_program 134 = .ok (.iinc 1 1, 3) := by decide +kernel
theorem dX11_program_137 : decode cX11_program 137 = .ok (.goto (-80), 3) := by decide +kernel
theorem dX11_program_140 : decode cX11_program 140 = .ok (.aload_n 0, 1) := by decide +kernel
theorem dX11_program_141 : decode cX11_program 141 = .ok (.iconst 0, 1) := by decide +kernel
theorem dX11_program_142 : decode cX11_program 142 = .ok (.putfield 253, 3) := by decide +kernel
theorem dX11_program_145 : decode cX11_program 145 = .ok (.aload_n 0, 1) := by decide +kernel
theorem dX11_program_146 : decode cX11_program 146 = .ok (.aload_n 0, 1) := by decide +kernel
theorem dX11_program_147 : decode cX11_program 147 = .ok (.getfield 260, 3) := by decide +kernel
theorem dX11_program_150 : decode cX11_program 150 = .ok (.putfield 322, 3) := by decide +kernel
theorem dX11_program_153 : decode cX11_program 153 = .ok (.aload_n 0, 1) := by decide +kernel
theorem dX11_program_154 : decode cX11_program 154 = .ok (.invokevirtual 292, 3) := by decide +kernel
theorem dX11_program_157 : decode cX11_program 157 = .ok (.ifCond .ne 10, 3) := by decide +kernel
theorem dX11_program_160 : decode cX11_program 160 = .ok (.iconst (-1), 1) := by decide +kernel
theorem dX11_program_161 : decode cX11_program 161 = .ok (.aload_n 0, 1) := by decide +kernel
theorem dX11_program_162 : decode cX11_program 162 = .ok (.getfield 263, 3) := by decide +kernel
theorem dX11_program_165 : decode cX11_program 165 = .ok (.isub, 1) := by decide +kernel
theorem dX11_program_166 : decode cX11_program 166 = .ok (.ireturn, 1) := by decide +kernel
theorem dX11_program_167 : decode cX11_program 167 = .ok (.aload_n 0, 1) := by decide +kernel
theorem dX11_program_168 : decode cX11_program 168 = .ok (.aload_n 0, 1) := by decide +kernel
theorem dX11_program_169 : decode cX11_program 169 = .ok (.getfield 310, 3) := by decide +kernel
theorem dX11_program_172 : decode cX11_program 172 = .ok (.putfield 100, 3) := by decide +kernel
theorem dX11_program_175 : decode cX11_program 175 = .ok (.iconst 0, 1) := by decide +kernel
theorem dX11_program_176 : decode cX11_program 176 = .ok (.istore_n 1, 1) := by decide +kernel
theorem dX11_program_177 : decode cX11_program 177 = .ok (.iload_n 1, 1) := by decide +kernel
theorem dX11_program_178 : decode cX11_program 178 = .ok (.aload_n 0, 1) := by decide +kernel
theorem dX11_program_179 : decode cX11_program 179 = .ok (.getfield 310, 3) := by decide +kernel
theorem dX11_program_182 : decode cX11_program 182 = .ok (.if_icmp .ge 64, 3) := by decide +kernel
theorem dX11_program_185 : decode cX11_program 185 = .ok (.aload_n 0, 1) := by decide +kernel
theorem dX11_program_186 : decode cX11_program 186 = .ok (.getfield 91, 3) := by decide +kernel
theorem dX11_program_189 : decode cX11_program 189 = .ok (.iload_n 1, 1) := by decide +kernel
theorem dX11_program_190 : decode cX11_program 190 = .ok (.aload_n 0, 1) := by decide +kernel
theorem dX11_program_191 : decode cX11_program 191 = .ok (.getfield 64, 3) := by decide +kernel
theorem dX11_program_194 : decode cX11_program 194 = .ok (.iload_n 1, 1) := by decide +kernel
theorem dX11_program_195 : decode cX11_program 195 = .ok (.iaload, 1) := by decide +kernel
theorem dX11_program_196 : decode cX11_program 196 = .ok (.iastore, 1) := by decide +kernel
theorem dX11_program_197 : decode cX11_program 197 = .ok (.aload_n 0, 1) := by decide +kernel
theorem dX11_program_198 : decode cX11_program 198 = .ok (.getfield 94, 3) := by decide +kernel
theorem dX11_program_201 : decode cX11_program 201 = .ok (.iload_n 1, 1) := by decide +kernel
theorem dX11_program_202 : decode cX11_program 202 = .ok (.aload_n 0, 1) := by decide +kernel
theorem dX11_program_203 : decode cX11_program 203 = .ok (.getfield 67, 3) := by decide +kernel
theorem dX11_program_206 : decode cX11_program 206 = .ok (.iload_n 1, 1) := by decide +kernel
theorem dX11_program_207 : decode cX11_program 207 = .ok (.iaload, 1) := by decide +kernel
theorem dX11_program_208 : decode cX11_program 208 = .ok (.iastore, 1) := by decide +kernel
theorem dX11_program_209 : decode cX11_program 209 = .ok (.iconst 3, 1) := by decide +kernel
theorem dX11_program_210 : decode cX11_program 210 = .ok (.iload_n 1, 1) := by decide +kernel
theorem dX11_program_211 : decode cX11_program 211 = .ok (.imul, 1) := by decide +kernel
theorem dX11_program_212 : decode cX11_program 212 = .ok (.istore_n 2, 1) := by decide +kernel
theorem dX11_program_213 : decode cX11_program 213 = .ok (.iload_n 2, 1) := by decide +kernel
theorem dX11_program_214 : decode cX11_program 214 = .ok (.iconst 3, 1) := by decide +kernel
theorem dX11_program_215 : decode cX11_program 215 = .ok (.iload_n 1, 1) := by decide +kernel
theorem dX11_program_216 : decode cX11_program 216 = .ok (.imul, 1) := by decide +kernel
theorem dX11_program_217 : decode cX11_program 217 = .ok (.iconst 3, 1) := by decide +kernel
theorem dX11_program_218 : decode cX11_program 218 = .ok (.iadd, 1) := by decide +kernel
theorem dX11_program_219 : decode cX11_program 219 = .ok (.if_icmp .ge 21, 3) := by decide +kernel
theorem dX11_program_222 : decode cX11_program 222 = .ok (.aload_n 0, 1) := by decide +kernel
theorem dX11_program_223 : decode cX11_program 223 = .ok (.getfield 97, 3) := by decide +kernel
theorem dX11_program_226 : decode cX11_program 226 = .ok (.iload_n 2, 1) := by decide +kernel
theorem dX11_program_227 : decode cX11_program 227 = .ok (.aload_n 0, 1) := by decide +kernel
theorem dX11_program_228 : decode cX11_program 228 = .ok (.getfield 70, 3) := by decide +kernel
theorem dX11_program_231 : decode cX11_program 231 = .ok (.iload_n 2, 1) := by decide +kernel
theorem dX11_program_232 : decode cX11_program 232 = .ok (.iaload, 1) := by decide +kernel
theorem dX11_program_233 : decode cX11_program 233 = .ok (.iastore, 1) := by decide +kernel
theorem dX11_program_234 : decode cX11_program 234 = .ok (.iinc 2 1, 3) := by decide +kernel
theorem dX11_program_237 : decode cX11_program 237 = .ok (.goto (-24), 3) := by decide +kernel
theorem dX11_program_240 : decode cX11_program 240 = .ok (.iinc 1 1, 3) := by decide +kernel
theorem dX11_program_243 : decode cX11_program 243 = .ok (.goto (-66), 3) := by decide +kernel
theorem dX11_program_246 : decode cX11_program 246 = .ok (.aload_n 0, 1) := by decide +kernel
theorem dX11_program_247 : decode cX11_program 247 = .ok (.iconst 0, 1) := by decide +kernel
theorem dX11_program_248 : decode cX11_program 248 = .ok (.putfield 325, 3) := by decide +kernel
theorem dX11_program_251 : decode cX11_program 251 = .ok (.aload_n 0, 1) := by decide +kernel
theorem dX11_program_252 : decode cX11_program 252 = .ok (.getfield 100, 3) := by decide +kernel
theorem dX11_program_255 : decode cX11_program 255 = .ok (.ireturn, 1) := by decide +kernel
theorem dX11_fault_0 : decode cX11_fault 0 = .ok (.aload_n 0, 1) := by decide +kernel
theorem dX11_fault_1 : decode cX11_fault 1 = .ok (.iconst 0, 1) := by decide +kernel
theorem dX11_fault_2 : decode cX11_fault 2 = .ok (.putfield 131, 3) := by decide +kernel
theorem dX11_fault_5 : decode cX11_fault 5 = .ok (.aload_n 0, 1) := by decide +kernel
theorem dX11_fault_6 : decode cX11_fault 6 = .ok (.getfield 322, 3) := by decide +kernel
theorem dX11_fault_9 : decode cX11_fault 9 = .ok (.ireturn, 1) := by decide +kernel
theorem dX11_goes_0 : decode cX11_goes 0 = .ok (.aload_n 0, 1) := by decide +kernel
theorem dX11_goes_1 : decode cX11_goes 1 = .ok (.iload_n 1, 1) := by decide +kernel
theorem dX11_goes_2 : decode cX11_goes 2 = .ok (.putfield 328, 3) := by decide +kernel
theorem dX11_goes_5 : decode cX11_goes 5 = .ok (.aload_n 0, 1) := by decide +kernel
theorem dX11_goes_6 : decode cX11_goes 6 = .ok (.aload_n 0, 1) := by decide +kernel
theorem dX11_goes_7 : decode cX11_goes 7 = .ok (.getfield 328, 3) := by decide +kernel
theorem dX11_goes_10 : decode cX11_goes 10 = .ok (.aload_n 0, 1) := by decide +kernel
theorem dX11_goes_11 : decode cX11_goes 11 = .ok (.getfield 100, 3) := by decide +kernel
theorem dX11_goes_14 : decode cX11_goes 14 = .ok (.if_icmp .ne 7, 3) := by decide +kernel
theorem dX11_goes_17 : decode cX11_goes 17 = .ok (.iconst 2, 1) := by decide +kernel
theorem dX11_goes_18 : decode cX11_goes 18 = .ok (.goto 4, 3) := by decide +kernel
theorem dX11_goes_21 : decode cX11_goes 21 = .ok (.iconst 1, 1) := by decide +kernel
theorem dX11_goes_22 : decode cX11_goes 22 = .ok (.putfield 325, 3) := by decide +kernel
theorem dX11_goes_25 : decode cX11_goes 25 = .ok (.return_, 1) := by decide +kernel
theorem dX11_begin_0 : decode cX11_begin 0 = .ok (.aload_n 0, 1) := by decide +kernel
theorem dX11_begin_1 : decode cX11_begin 1 = .ok (.aload_n 0, 1) := by decide +kernel
theorem dX11_begin_2 : decode cX11_begin 2 = .ok (.getfield 100, 3) := by decide +kernel
theorem dX11_begin_5 : decode cX11_begin 5 = .ok (.iconst (-1), 1) := by decide +kernel
theorem dX11_begin_6 : decode cX11_begin 6 = .ok (.if_icmp .ne 7, 3) := by decide +kernel
theorem dX11_begin_9 : decode cX11_begin 9 = .ok (.iconst 1, 1) := by decide +kernel
theorem dX11_begin_10 : decode cX11_begin 10 = .ok (.goto 4, 3) := by decide +kernel
theorem dX11_begin_13 : decode cX11_begin 13 = .ok (.iconst 0, 1) := by decide +kernel
theorem dX11_begin_14 : decode cX11_begin 14 = .ok (.putfield 131, 3) := by decide +kernel
theorem dX11_begin_17 : decode cX11_begin 17 = .ok (.aload_n 0, 1) := by decide +kernel
theorem dX11_begin_18 : decode cX11_begin 18 = .ok (.getfield 131, 3) := by decide +kernel
theorem dX11_begin_21 : decode cX11_begin 21 = .ok (.ifCond .le 4, 3) := by decide +kernel
theorem dX11_begin_24 : decode cX11_begin 24 = .ok (.return_, 1) := by decide +kernel
theorem dX11_begin_25 : decode cX11_begin 25 = .ok (.aload_n 0, 1) := by decide +kernel
theorem dX11_begin_26 : decode cX11_begin 26 = .ok (.iconst 0, 1) := by decide +kernel
theorem dX11_begin_27 : decode cX11_begin 27 = .ok (.putfield 331, 3) := by decide +kernel
theorem dX11_begin_30 : decode cX11_begin 30 = .ok (.aload_n 0, 1) := by decide +kernel
theorem dX11_begin_31 : decode cX11_begin 31 = .ok (.iconst 0, 1) := by decide +kernel
theorem dX11_begin_32 : decode cX11_begin 32 = .ok (.putfield 334, 3) := by decide +kernel
theorem dX11_begin_35 : decode cX11_begin 35 = .ok (.aload_n 0, 1) := by decide +kernel
theorem dX11_begin_36 : decode cX11_begin 36 = .ok (.iconst 0, 1) := by decide +kernel
theorem dX11_begin_37 : decode cX11_begin 37 = .ok (.putfield 337, 3) := by decide +kernel
theorem dX11_begin_40 : decode cX11_begin 40 = .ok (.aload_n 0, 1) := by decide +kernel
theorem dX11_begin_41 : decode cX11_begin 41 = .ok (.iconst 0, 1) := by decide +kernel
theorem dX11_begin_42 : decode cX11_begin 42 = .ok (.putfield 340, 3) := by decide +kernel
theorem dX11_begin_45 : decode cX11_begin 45 = .ok (.aload_n 0, 1) := by decide +kernel
theorem dX11_begin_46 : decode cX11_begin 46 = .ok (.iconst 0, 1) := by decide +kernel
theorem dX11_begin_47 : decode cX11_begin 47 = .ok (.invokevirtual 343, 3) := by decide +kernel
theorem dX11_begin_50 : decode cX11_begin 50 = .ok (.return_, 1) := by decide +kernel
theorem dX11_step_0 : decode cX11_step 0 = .ok (.aload_n 0, 1) := by decide +kernel
theorem dX11_step_1 : decode cX11_step 1 = .ok (.getfield 91, 3) := by decide +kernel
theorem dX11_step_4 : decode cX11_step 4 = .ok (.aload_n 0, 1) := by decide +kernel
theorem dX11_step_5 : decode cX11_step 5 = .ok (.getfield 328, 3) := by decide +kernel
theorem dX11_step_8 : decode cX11_step 8 = .ok (.iaload, 1) := by decide +kernel
theorem dX11_step_9 : decode cX11_step 9 = .ok (.istore_n 1, 1) := by decide +kernel
theorem dX11_step_10 : decode cX11_step 10 = .ok (.aload_n 0, 1) := by decide +kernel
theorem dX11_step_11 : decode cX11_step 11 = .ok (.getfield 97, 3) := by decide +kernel
theorem dX11_step_14 : decode cX11_step 14 = .ok (.iconst 3, 1) := by decide +kernel
theorem dX11_step_15 : decode cX11_step 15 = .ok (.aload_n 0, 1) := by decide +kernel
theorem dX11_step_16 : decode cX11_step 16 = .ok (.getfield 328, 3) := by decide +kernel
theorem dX11_step_19 : decode cX11_step 19 = .ok (.imul, 1) := by decide +kernel
theorem dX11_step_20 : decode cX11_step 20 = .ok (.iaload, 1) := by decide +kernel
theorem dX11_step_21 : decode cX11_step 21 = .ok (.istore_n 2, 1) := by decide +kernel
theorem dX11_step_22 : decode cX11_step 22 = .ok (.aload_n 0, 1) := by decide +kernel
theorem dX11_step_23 : decode cX11_step 23 = .ok (.getfield 97, 3) := by decide +kernel
theorem dX11_step_26 : decode cX11_step 26 = .ok (.iconst 3, 1) := by decide +kernel
theorem dX11_step_27 : decode cX11_step 27 = .ok (.aload_n 0, 1) := by decide +kernel
theorem dX11_step_28 : decode cX11_step 28 = .ok (.getfield 328, 3) := by decide +kernel
theorem dX11_step_31 : decode cX11_step 31 = .ok (.imul, 1) := by decide +kernel
theorem dX11_step_32 : decode cX11_step 32 = .ok (.iconst 1, 1) := by decide +kernel
theorem dX11_step_33 : decode cX11_step 33 = .ok (.iadd, 1) := by decide +kernel
theorem dX11_step_34 : decode cX11_step 34 = .ok (.iaload, 1) := by decide +kernel
theorem dX11_step_35 : decode cX11_step 35 = .ok (.istore_n 3, 1) := by decide +kernel
theorem dX11_step_36 : decode cX11_step 36 = .ok (.aload_n 0, 1) := by decide +kernel
theorem dX11_step_37 : decode cX11_step 37 = .ok (.getfield 97, 3) := by decide +kernel
theorem dX11_step_40 : decode cX11_step 40 = .ok (.iconst 3, 1) := by decide +kernel
theorem dX11_step_41 : decode cX11_step 41 = .ok (.aload_n 0, 1) := by decide +kernel
theorem dX11_step_42 : decode cX11_step 42 = .ok (.getfield 328, 3) := by decide +kernel
theorem dX11_step_45 : decode cX11_step 45 = .ok (.imul, 1) := by decide +kernel
theorem dX11_step_46 : decode cX11_step 46 = .ok (.iconst 2, 1) := by decide +kernel
theorem dX11_step_47 : decode cX11_step 47 = .ok (.iadd, 1) := by decide +kernel
theorem dX11_step_48 : decode cX11_step 48 = .ok (.iaload, 1) := by decide +kernel
theorem dX11_step_49 : decode cX11_step 49 = .ok (.istore 4, 2) := by decide +kernel
theorem dX11_step_51 : decode cX11_step 51 = .ok (.iload_n 1, 1) := by decide +kernel
theorem dX11_step_52 : decode cX11_step 52 = .ok (.bipush 20, 2) := by decide +kernel
theorem dX11_step_54 : decode cX11_step 54 = .ok (.if_icmp .ge 32, 3) := by decide +kernel
theorem dX11_step_57 : decode cX11_step 57 = .ok (.aload_n 0, 1) := by decide +kernel
theorem dX11_step_58 : decode cX11_step 58 = .ok (.iload_n 1, 1) := by decide +kernel
theorem dX11_step_59 : decode cX11_step 59 = .ok (.iload_n 2, 1) := by decide +kernel
theorem dX11_step_60 : decode cX11_step 60 = .ok (.iload_n 3, 1) := by decide +kernel
theorem dX11_step_61 : decode cX11_step 61 = .ok (.iload 4, 2) := by decide +kernel
theorem dX11_step_63 : decode cX11_step 63 = .ok (.invokevirtual 238, 3) := by decide +kernel
theorem dX11_step_66 : decode cX11_step 66 = .ok (.istore 5, 2) := by decide +kernel
theorem dX11_step_68 : decode cX11_step 68 = .ok (.iload 5, 2) := by decide +kernel
theorem dX11_step_70 : decode cX11_step 70 = .ok (.ifCond .ne 13, 3) := by decide +kernel
theorem dX11_step_73 : decode cX11_step 73 = .ok (.aload_n 0, 1) := by decide +kernel
theorem dX11_step_74 : decode cX11_step 74 = .ok (.aload_n 0, 1) := by decide +kernel
theorem dX11_step_75 : decode cX11_step 75 = .ok (.getfield 328, 3) := by decide +kernel
theorem dX11_step_78 : decode cX11_step 78 = .ok (.iconst 1, 1) := by decide +kernel
theorem dX11_step_79 : decode cX11_step 79 = .ok (.iadd, 1) := by decide +kernel
theorem dX11_step_80 : decode cX11_step 80 = .ok (.invokevirtual 343, 3) := by decide +kernel
theorem dX11_step_83 : decode cX11_step 83 = .ok (.iload 5, 2) := by decide +kernel
theorem dX11_step_85 : decode cX11_step 85 = .ok (.ireturn, 1) := by decide +kernel
theorem dX11_step_86 : decode cX11_step 86 = .ok (.iload_n 1, 1) := by decide +kernel
theorem dX11_step_87 : decode cX11_step 87 = .ok (.tableswitch 213 20 24 #[33, 90, 97, 130, 174], 33) := by decide +kernel
theorem dX11_step_120 : decode cX11_step 120 = .ok (.aload_n 0, 1) := by decide +kernel
theorem dX11_step_121 : decode cX11_step 121 = .ok (.iload_n 2, 1) := by decide +kernel
theorem dX11_step_122 : decode cX11_step 122 = .ok (.invokevirtual 209, 3) := by decide +kernel
theorem dX11_step_125 : decode cX11_step 125 = .ok (.ifCond .ne 5, 3) := by decide +kernel
theorem dX11_step_128 : decode cX11_step 128 = .ok (.iconst 1, 1) := by decide +kernel
theorem dX11_step_129 : decode cX11_step 129 = .ok (.ireturn, 1) := by decide +kernel
theorem dX11_step_130 : decode cX11_step 130 = .ok (.aload_n 0, 1) := by decide +kernel
theorem dX11_step_131 : decode cX11_step 131 = .ok (.getfield 337, 3) := by decide +kernel
theorem dX11_step_134 : decode cX11_step 134 = .ok (.sipush 300, 3) := by decide +kernel
theorem dX11_step_137 : decode cX11_step 137 = .ok (.if_icmp .ge 18, 3) := by decide +kernel
theorem dX11_step_140 : decode cX11_step 140 = .ok (.aload_n 0, 1) := by decide +kernel
theorem dX11_step_141 : decode cX11_step 141 = .ok (.getfield 107, 3) := by decide +kernel
theorem dX11_step_144 : decode cX11_step 144 = .ok (.aload_n 0, 1) := by decide +kernel
theorem dX11_step_145 : decode cX11_step 145 = .ok (.getfield 337, 3) := by decide +kernel
theorem dX11_step_148 : decode cX11_step 148 = .ok (.aload_n 0, 1) := by decide +kernel
theorem dX11_step_149 : decode cX11_step 149 = .ok (.getfield 33, 3) := by decide +kernel
theorem dX11_step_152 : decode cX11_step 152 = .ok (.iload_n 2, 1) := by decide +kernel
theorem dX11_step_153 : decode cX11_step 153 = .ok (.iaload, 1) := by decide +kernel
theorem dX11_step_154 : decode cX11_step 154 = .ok (.iastore, 1) := by decide +kernel
theorem dX11_step_155 : decode cX11_step 155 = .ok (.aload_n 0, 1) := by decide +kernel
theorem dX11_step_156 : decode cX11_step 156 = .ok (.dup, 1) := by decide +kernel
theorem dX11_step_157 : decode cX11_step 157 = .ok (.getfield 337, 3) := by decide +kernel
theorem dX11_step_160 : decode cX11_step 160 = .ok (.iconst 1, 1) := by decide +kernel
theorem dX11_step_161 : decode cX11_step 161 = .ok (.iadd, 1) := by decide +kernel
theorem dX11_step_162 : decode cX11_step 162 = .ok (.putfield 337, 3) := by decide +kernel
theorem dX11_step_165 : decode cX11_step 165 = .ok (.aload_n 0, 1) := by decide +kernel
theorem dX11_step_166 : decode cX11_step 166 = .ok (.aload_n 0, 1) := by decide +kernel
theorem dX11_step_167 : decode cX11_step 167 = .ok (.getfield 328, 3) := by decide +kernel
theorem dX11_step_170 : decode cX11_step 170 = .ok (.iconst 1, 1) := by decide +kernel
theorem dX11_step_171 : decode cX11_step 171 = .ok (.iadd, 1) := by decide +kernel
theorem dX11_step_172 : decode cX11_step 172 = .ok (.invokevirtual 343, 3) := by decide +kernel
theorem dX11_step_175 : decode cX11_step 175 = .ok (.iconst 0, 1) := by decide +kernel
theorem dX11_step_176 : decode cX11_step 176 = .ok (.ireturn, 1) := by decide +kernel
theorem dX11_step_177 : decode cX11_step 177 = .ok (.aload_n 0, 1) := by decide +kernel
theorem dX11_step_178 : decode cX11_step 178 = .ok (.iload_n 2, 1) := by decide +kernel
theorem dX11_step_179 : decode cX11_step 179 = .ok (.invokevirtual 343, 3) := by decide +kernel
theorem dX11_step_182 : decode cX11_step 182 = .ok (.iconst 0, 1) := by decide +kernel
theorem dX11_step_183 : decode cX11_step 183 = .ok (.ireturn, 1) := by decide +kernel
theorem dX11_step_184 : decode cX11_step 184 = .ok (.aload_n 0, 1) := by decide +kernel
theorem dX11_step_185 : decode cX11_step 185 = .ok (.aload_n 0, 1) := by decide +kernel
theorem dX11_step_186 : decode cX11_step 186 = .ok (.iload_n 2, 1) := by decide +kernel
theorem dX11_step_187 : decode cX11_step 187 = .ok (.invokevirtual 209, 3) := by decide +kernel
theorem dX11_step_190 : decode cX11_step 190 = .ok (.ifCond .eq 16, 3) := by decide +kernel
theorem dX11_step_193 : decode cX11_step 193 = .ok (.aload_n 0, 1) := by decide +kernel
theorem dX11_step_194 : decode cX11_step 194 = .ok (.getfield 33, 3) := by decide +kernel
theorem dX11_step_197 : decode cX11_step 197 = .ok (.iload_n 2, 1) := by decide +kernel
theorem dX11_step_198 : decode cX11_step 198 = .ok (.iaload, 1) := by decide +kernel
theorem dX11_step_199 : decode cX11_step 199 = .ok (.ifCond .ne 7, 3) := by decide +kernel
theorem dX11_step_202 : decode cX11_step 202 = .ok (.iload_n 3, 1) := by decide +kernel
theorem dX11_step_203 : decode cX11_step 203 = .ok (.goto 9, 3) := by decide +kernel
theorem dX11_step_206 : decode cX11_step 206 = .ok (.aload_n 0, 1) := by decide +kernel
theorem dX11_step_207 : decode cX11_step 207 = .ok (.getfield 328, 3) := by decide +kernel
theorem dX11_step_210 : decode cX11_step 210 = .ok (.iconst 1, 1) := by decide +kernel
theorem dX11_step_211 : decode cX11_step 211 = .ok (.iadd, 1) := by decide +kernel
theorem dX11_step_212 : decode cX11_step 212 = .ok (.invokevirtual 343, 3) := by decide +kernel
theorem dX11_step_215 : decode cX11_step 215 = .ok (.iconst 0, 1) := by decide +kernel
theorem dX11_step_216 : decode cX11_step 216 = .ok (.ireturn, 1) := by decide +kernel
theorem dX11_step_217 : decode cX11_step 217 = .ok (.aload_n 0, 1) := by decide +kernel
theorem dX11_step_218 : decode cX11_step 218 = .ok (.getfield 334, 3) := by decide +kernel
theorem dX11_step_221 : decode cX11_step 221 = .ok (.bipush 30, 2) := by decide +kernel
theorem dX11_step_223 : decode cX11_step 223 = .ok (.if_icmp .ne 6, 3) := by decide +kernel
theorem dX11_step_226 : decode cX11_step 226 = .ok (.bipush 7, 2) := by decide +kernel
theorem dX11_step_228 : decode cX11_step 228 = .ok (.ireturn, 1) := by decide +kernel
theorem dX11_step_229 : decode cX11_step 229 = .ok (.aload_n 0, 1) := by decide +kernel
theorem dX11_step_230 : decode cX11_step 230 = .ok (.getfield 104, 3) := by decide +kernel
theorem dX11_step_233 : decode cX11_step 233 = .ok (.aload_n 0, 1) := by decide +kernel
theorem dX11_step_234 : decode cX11_step 234 = .ok (.getfield 334, 3) := by decide +kernel
theorem dX11_step_237 : decode cX11_step 237 = .ok (.aload_n 0, 1) := by decide +kernel
theorem dX11_step_238 : decode cX11_step 238 = .ok (.getfield 328, 3) := by decide +kernel
theorem dX11_step_241 : decode cX11_step 241 = .ok (.iconst 1, 1) := by decide +kernel
theorem dX11_step_242 : decode cX11_step 242 = .ok (.iadd, 1) := by decide +kernel
theorem dX11_step_243 : decode cX11_step 243 = .ok (.iastore, 1) := by decide +kernel
theorem dX11_step_244 : decode cX11_step 244 = .ok (.aload_n 0, 1) := by decide +kernel
theorem dX11_step_245 : decode cX11_step 245 = .ok (.dup, 1) := by decide +kernel
theorem dX11_step_246 : decode cX11_step 246 = .ok (.getfield 334, 3) := by decide +kernel
theorem dX11_step_249 : decode cX11_step 249 = .ok (.iconst 1, 1) := by decide +kernel
theorem dX11_step_250 : decode cX11_step 250 = .ok (.iadd, 1) := by decide +kernel
theorem dX11_step_251 : decode cX11_step 251 = .ok (.putfield 334, 3) := by decide +kernel
theorem dX11_step_254 : decode cX11_step 254 = .ok (.aload_n 0, 1) := by decide +kernel
theorem dX11_step_255 : decode cX11_step 255 = .ok (.iload_n 2, 1) := by decide +kernel
theorem dX11_step_256 : decode cX11_step 256 = .ok (.invokevirtual 343, 3) := by decide +kernel
theorem dX11_step_259 : decode cX11_step 259 = .ok (.iconst 0, 1) := by decide +kernel
theorem dX11_step_260 : decode cX11_step 260 = .ok (.ireturn, 1) := by decide +kernel
theorem dX11_step_261 : decode cX11_step 261 = .ok (.aload_n 0, 1) := by decide +kernel
theorem dX11_step_262 : decode cX11_step 262 = .ok (.getfield 334, 3) := by decide +kernel
theorem dX11_step_265 : decode cX11_step 265 = .ok (.ifCond .ne 10, 3) := by decide +kernel
theorem dX11_step_268 : decode cX11_step 268 = .ok (.aload_n 0, 1) := by decide +kernel
theorem dX11_step_269 : decode cX11_step 269 = .ok (.iconst 2, 1) := by decide +kernel
theorem dX11_step_270 : decode cX11_step 270 = .ok (.putfield 325, 3) := by decide +kernel
theorem dX11_step_273 : decode cX11_step 273 = .ok (.iconst 0, 1) := by decide +kernel
theorem dX11_step_274 : decode cX11_step 274 = .ok (.ireturn, 1) := by decide +kernel
theorem dX11_step_275 : decode cX11_step 275 = .ok (.aload_n 0, 1) := by decide +kernel
theorem dX11_step_276 : decode cX11_step 276 = .ok (.dup, 1) := by decide +kernel
theorem dX11_step_277 : decode cX11_step 277 = .ok (.getfield 334, 3) := by decide +kernel
theorem dX11_step_280 : decode cX11_step 280 = .ok (.iconst 1, 1) := by decide +kernel
theorem dX11_step_281 : decode cX11_step 281 = .ok (.isub, 1) := by decide +kernel
theorem dX11_step_282 : decode cX11_step 282 = .ok (.putfield 334, 3) := by decide +kernel
theorem dX11_step_285 : decode cX11_step 285 = .ok (.aload_n 0, 1) := by decide +kernel
theorem dX11_step_286 : decode cX11_step 286 = .ok (.aload_n 0, 1) := by decide +kernel
theorem dX11_step_287 : decode cX11_step 287 = .ok (.getfield 104, 3) := by decide +kernel
theorem dX11_step_290 : decode cX11_step 290 = .ok (.aload_n 0, 1) := by decide +kernel
theorem dX11_step_291 : decode cX11_step 291 = .ok (.getfield 334, 3) := by decide +kernel
theorem dX11_step_294 : decode cX11_step 294 = .ok (.iaload, 1) := by decide +kernel
theorem dX11_step_295 : decode cX11_step 295 = .ok (.invokevirtual 343, 3) := by decide +kernel
theorem dX11_step_298 : decode cX11_step 298 = .ok (.iconst 0, 1) := by decide +kernel
theorem dX11_step_299 : decode cX11_step 299 = .ok (.ireturn, 1) := by decide +kernel
theorem dX11_step_300 : decode cX11_step 300 = .ok (.aload_n 0, 1) := by decide +kernel
theorem dX11_step_301 : decode cX11_step 301 = .ok (.iconst 2, 1) := by decide +kernel
theorem dX11_step_302 : decode cX11_step 302 = .ok (.putfield 325, 3) := by decide +kernel
theorem dX11_step_305 : decode cX11_step 305 = .ok (.iconst 0, 1) := by decide +kernel
theorem dX11_step_306 : decode cX11_step 306 = .ok (.ireturn, 1) := by decide +kernel
theorem dX11_run_0 : decode cX11_run 0 = .ok (.aload_n 0, 1) := by decide +kernel
theorem dX11_run_1 : decode cX11_run 1 = .ok (.iload_n 1, 1) := by decide +kernel
theorem dX11_run_2 : decode cX11_run 2 = .ok (.ifCond .lt 10, 3) := by decide +kernel
theorem dX11_run_5 : decode cX11_run 5 = .ok (.iload_n 1, 1) := by decide +kernel
theorem dX11_run_6 : decode cX11_run 6 = .ok (.sipush 2000, 3) := by decide +kernel
theorem dX11_run_9 : decode cX11_run 9 = .ok (.if_icmp .le 7, 3) := by decide +kernel
theorem dX11_run_12 : decode cX11_run 12 = .ok (.iconst 1, 1) := by decide +kernel
theorem dX11_run_13 : decode cX11_run 13 = .ok (.goto 15, 3) := by decide +kernel
theorem dX11_run_16 : decode cX11_run 16 = .ok (.aload_n 0, 1) := by decide +kernel
theorem dX11_run_17 : decode cX11_run 17 = .ok (.getfield 325, 3) := by decide +kernel
theorem dX11_run_20 : decode cX11_run 20 = .ok (.ifCond .ne 7, 3) := by decide +kernel
theorem dX11_run_23 : decode cX11_run 23 = .ok (.iconst 2, 1) := by decide +kernel
theorem dX11_run_24 : decode cX11_run 24 = .ok (.goto 4, 3) := by decide +kernel
theorem dX11_run_27 : decode cX11_run 27 = .ok (.iconst 0, 1) := by decide +kernel
theorem dX11_run_28 : decode cX11_run 28 = .ok (.putfield 131, 3) := by decide +kernel
theorem dX11_run_31 : decode cX11_run 31 = .ok (.aload_n 0, 1) := by decide +kernel
theorem dX11_run_32 : decode cX11_run 32 = .ok (.getfield 131, 3) := by decide +kernel
theorem dX11_run_35 : decode cX11_run 35 = .ok (.ifCond .le 5, 3) := by decide +kernel
theorem dX11_run_38 : decode cX11_run 38 = .ok (.iconst 0, 1) := by decide +kernel
theorem dX11_run_39 : decode cX11_run 39 = .ok (.ireturn, 1) := by decide +kernel
theorem dX11_run_40 : decode cX11_run 40 = .ok (.iconst 0, 1) := by decide +kernel
theorem dX11_run_41 : decode cX11_run 41 = .ok (.istore_n 2, 1) := by decide +kernel
theorem dX11_run_42 : decode cX11_run 42 = .ok (.iconst 1, 1) := by decide +kernel
theorem dX11_run_43 : decode cX11_run 43 = .ok (.istore_n 3, 1) := by decide +kernel
theorem dX11_run_44 : decode cX11_run 44 = .ok (.iload_n 3, 1) := by decide +kernel
theorem dX11_run_45 : decode cX11_run 45 = .ok (.ifCond .eq 59, 3) := by decide +kernel
theorem dX11_run_48 : decode cX11_run 48 = .ok (.iload_n 2, 1) := by decide +kernel
theorem dX11_run_49 : decode cX11_run 49 = .ok (.iload_n 1, 1) := by decide +kernel
theorem dX11_run_50 : decode cX11_run 50 = .ok (.if_icmp .ge 54, 3) := by decide +kernel
theorem dX11_run_53 : decode cX11_run 53 = .ok (.aload_n 0, 1) := by decide +kernel
theorem dX11_run_54 : decode cX11_run 54 = .ok (.getfield 325, 3) := by decide +kernel
theorem dX11_run_57 : decode cX11_run 57 = .ok (.iconst 2, 1) := by decide +kernel
theorem dX11_run_58 : decode cX11_run 58 = .ok (.if_icmp .eq 46, 3) := by decide +kernel
theorem dX11_run_61 : decode cX11_run 61 = .ok (.aload_n 0, 1) := by decide +kernel
theorem dX11_run_62 : decode cX11_run 62 = .ok (.invokevirtual 346, 3) := by decide +kernel
theorem dX11_run_65 : decode cX11_run 65 = .ok (.istore 4, 2) := by decide +kernel
theorem dX11_run_67 : decode cX11_run 67 = .ok (.iload 4, 2) := by decide +kernel
theorem dX11_run_69 : decode cX11_run 69 = .ok (.ifCond .le 19, 3) := by decide +kernel
theorem dX11_run_72 : decode cX11_run 72 = .ok (.aload_n 0, 1) := by decide +kernel
theorem dX11_run_73 : decode cX11_run 73 = .ok (.iconst 3, 1) := by decide +kernel
theorem dX11_run_74 : decode cX11_run 74 = .ok (.putfield 325, 3) := by decide +kernel
theorem dX11_run_77 : decode cX11_run 77 = .ok (.aload_n 0, 1) := by decide +kernel
theorem dX11_run_78 : decode cX11_run 78 = .ok (.iload 4, 2) := by decide +kernel
theorem dX11_run_80 : decode cX11_run 80 = .ok (.putfield 340, 3) := by decide +kernel
theorem dX11_run_83 : decode cX11_run 83 = .ok (.iconst 0, 1) := by decide +kernel
theorem dX11_run_84 : decode cX11_run 84 = .ok (.istore_n 3, 1) := by decide +kernel
theorem dX11_run_85 : decode cX11_run 85 = .ok (.goto 16, 3) := by decide +kernel
theorem dX11_run_88 : decode cX11_run 88 = .ok (.iinc 2 1, 3) := by decide +kernel
theorem dX11_run_91 : decode cX11_run 91 = .ok (.aload_n 0, 1) := by decide +kernel
theorem dX11_run_92 : decode cX11_run 92 = .ok (.dup, 1) := by decide +kernel
theorem dX11_run_93 : decode cX11_run 93 = .ok (.getfield 331, 3) := by decide +kernel
theorem dX11_run_96 : decode cX11_run 96 = .ok (.iconst 1, 1) := by decide +kernel
theorem dX11_run_97 : decode cX11_run 97 = .ok (.iadd, 1) := by decide +kernel
theorem dX11_run_98 : decode cX11_run 98 = .ok (.putfield 331, 3) := by decide +kernel
theorem dX11_run_101 : decode cX11_run 101 = .ok (.goto (-57), 3) := by decide +kernel
theorem dX11_run_104 : decode cX11_run 104 = .ok (.iload_n 2, 1) := by decide +kernel
theorem dX11_run_105 : decode cX11_run 105 = .ok (.ireturn, 1) := by decide +kernel
theorem dX11_about_0 : decode cX11_about 0 = .ok (.aload_n 0, 1) := by decide +kernel
theorem dX11_about_1 : decode cX11_about 1 = .ok (.iconst 0, 1) := by decide +kernel
theorem dX11_about_2 : decode cX11_about 2 = .ok (.putfield 131, 3) := by decide +kernel
theorem dX11_about_5 : decode cX11_about 5 = .ok (.aload_n 0, 1) := by decide +kernel
theorem dX11_about_6 : decode cX11_about 6 = .ok (.getfield 325, 3) := by decide +kernel
theorem dX11_about_9 : decode cX11_about 9 = .ok (.iconst 1, 1) := by decide +kernel
theorem dX11_about_10 : decode cX11_about 10 = .ok (.if_icmp .eq 11, 3) := by decide +kernel
theorem dX11_about_13 : decode cX11_about 13 = .ok (.aload_n 0, 1) := by decide +kernel
theorem dX11_about_14 : decode cX11_about 14 = .ok (.getfield 325, 3) := by decide +kernel
theorem dX11_about_17 : decode cX11_about 17 = .ok (.iconst 3, 1) := by decide +kernel
theorem dX11_about_18 : decode cX11_about 18 = .ok (.if_icmp .ne 7, 3) := by decide +kernel
theorem dX11_about_21 : decode cX11_about 21 = .ok (.iconst 1, 1) := by decide +kernel
theorem dX11_about_22 : decode cX11_about 22 = .ok (.goto 4, 3) := by decide +kernel
theorem dX11_about_25 : decode cX11_about 25 = .ok (.iconst 0, 1) := by decide +kernel
theorem dX11_about_26 : decode cX11_about 26 = .ok (.istore_n 2, 1) := by decide +kernel
theorem dX11_about_27 : decode cX11_about 27 = .ok (.iload_n 1, 1) := by decide +kernel
theorem dX11_about_28 : decode cX11_about 28 = .ok (.tableswitch 145 0 6 #[44, 49, 66, 79, 97, 113, 129], 44) := by decide +kernel
theorem dX11_about_72 : decode cX11_about 72 = .ok (.aload_n 0, 1) := by decide +kernel
theorem dX11_about_73 : decode cX11_about 73 = .ok (.getfield 325, 3) := by decide +kernel
theorem dX11_about_76 : decode cX11_about 76 = .ok (.ireturn, 1) := by decide +kernel
theorem dX11_about_77 : decode cX11_about 77 = .ok (.aload_n 0, 1) := by decide +kernel
theorem dX11_about_78 : decode cX11_about 78 = .ok (.getfield 325, 3) := by decide +kernel
theorem dX11_about_81 : decode cX11_about 81 = .ok (.iconst 3, 1) := by decide +kernel
theorem dX11_about_82 : decode cX11_about 82 = .ok (.if_icmp .ne 10, 3) := by decide +kernel
theorem dX11_about_85 : decode cX11_about 85 = .ok (.aload_n 0, 1) := by decide +kernel
theorem dX11_about_86 : decode cX11_about 86 = .ok (.getfield 340, 3) := by decide +kernel
theorem dX11_about_89 : decode cX11_about 89 = .ok (.goto 4, 3) := by decide +kernel
theorem dX11_about_92 : decode cX11_about 92 = .ok (.iconst 0, 1) := by decide +kernel
theorem dX11_about_93 : decode cX11_about 93 = .ok (.ireturn, 1) := by decide +kernel
theorem dX11_about_94 : decode cX11_about 94 = .ok (.iload_n 2, 1) := by decide +kernel
theorem dX11_about_95 : decode cX11_about 95 = .ok (.ifCond .eq 10, 3) := by decide +kernel
theorem dX11_about_98 : decode cX11_about 98 = .ok (.aload_n 0, 1) := by decide +kernel
theorem dX11_about_99 : decode cX11_about 99 = .ok (.getfield 328, 3) := by decide +kernel
theorem dX11_about_102 : decode cX11_about 102 = .ok (.goto 4, 3) := by decide +kernel
theorem dX11_about_105 : decode cX11_about 105 = .ok (.iconst (-1), 1) := by decide +kernel
theorem dX11_about_106 : decode cX11_about 106 = .ok (.ireturn, 1) := by decide +kernel
theorem dX11_about_107 : decode cX11_about 107 = .ok (.iload_n 2, 1) := by decide +kernel
theorem dX11_about_108 : decode cX11_about 108 = .ok (.ifCond .eq 15, 3) := by decide +kernel
theorem dX11_about_111 : decode cX11_about 111 = .ok (.aload_n 0, 1) := by decide +kernel
theorem dX11_about_112 : decode cX11_about 112 = .ok (.getfield 94, 3) := by decide +kernel
theorem dX11_about_115 : decode cX11_about 115 = .ok (.aload_n 0, 1) := by decide +kernel
theorem dX11_about_116 : decode cX11_about 116 = .ok (.getfield 328, 3) := by decide +kernel
theorem dX11_about_119 : decode cX11_about 119 = .ok (.iaload, 1) := by decide +kernel
theorem dX11_about_120 : decode cX11_about 120 = .ok (.goto 4, 3) := by decide +kernel
theorem dX11_about_123 : decode cX11_about 123 = .ok (.iconst (-1), 1) := by decide +kernel
theorem dX11_about_124 : decode cX11_about 124 = .ok (.ireturn, 1) := by decide +kernel
theorem dX11_about_125 : decode cX11_about 125 = .ok (.aload_n 0, 1) := by decide +kernel
theorem dX11_about_126 : decode cX11_about 126 = .ok (.getfield 325, 3) := by decide +kernel
theorem dX11_about_129 : decode cX11_about 129 = .ok (.ifCond .ne 7, 3) := by decide +kernel
theorem dX11_about_132 : decode cX11_about 132 = .ok (.iconst 0, 1) := by decide +kernel
theorem dX11_about_133 : decode cX11_about 133 = .ok (.goto 7, 3) := by decide +kernel
theorem dX11_about_136 : decode cX11_about 136 = .ok (.aload_n 0, 1) := by decide +kernel
theorem dX11_about_137 : decode cX11_about 137 = .ok (.getfield 331, 3) := by decide +kernel
theorem dX11_about_140 : decode cX11_about 140 = .ok (.ireturn, 1) := by decide +kernel
theorem dX11_about_141 : decode cX11_about 141 = .ok (.aload_n 0, 1) := by decide +kernel
theorem dX11_about_142 : decode cX11_about 142 = .ok (.getfield 325, 3) := by decide +kernel
theorem dX11_about_145 : decode cX11_about 145 = .ok (.ifCond .ne 7, 3) := by decide +kernel
theorem dX11_about_148 : decode cX11_about 148 = .ok (.iconst 0, 1) := by decide +kernel
theorem dX11_about_149 : decode cX11_about 149 = .ok (.goto 7, 3) := by decide +kernel
theorem dX11_about_152 : decode cX11_about 152 = .ok (.aload_n 0, 1) := by decide +kernel
theorem dX11_about_153 : decode cX11_about 153 = .ok (.getfield 334, 3) := by decide +kernel
theorem dX11_about_156 : decode cX11_about 156 = .ok (.ireturn, 1) := by decide +kernel
theorem dX11_about_157 : decode cX11_about 157 = .ok (.aload_n 0, 1) := by decide +kernel
theorem dX11_about_158 : decode cX11_about 158 = .ok (.getfield 325, 3) := by decide +kernel
theorem dX11_about_161 : decode cX11_about 161 = .ok (.ifCond .ne 7, 3) := by decide +kernel
theorem dX11_about_164 : decode cX11_about 164 = .ok (.iconst 0, 1) := by decide +kernel
theorem dX11_about_165 : decode cX11_about 165 = .ok (.goto 7, 3) := by decide +kernel
theorem dX11_about_168 : decode cX11_about 168 = .ok (.aload_n 0, 1) := by decide +kernel
theorem dX11_about_169 : decode cX11_about 169 = .ok (.getfield 337, 3) := by decide +kernel
theorem dX11_about_172 : decode cX11_about 172 = .ok (.ireturn, 1) := by decide +kernel
theorem dX11_about_173 : decode cX11_about 173 = .ok (.iconst (-1), 1) := by decide +kernel
theorem dX11_about_174 : decode cX11_about 174 = .ok (.ireturn, 1) := by decide +kernel
theorem dX11_said_0 : decode cX11_said 0 = .ok (.aload_n 0, 1) := by decide +kernel
theorem dX11_said_1 : decode cX11_said 1 = .ok (.getfield 325, 3) := by decide +kernel
theorem dX11_said_4 : decode cX11_said 4 = .ok (.ifCond .eq 26, 3) := by decide +kernel
theorem dX11_said_7 : decode cX11_said 7 = .ok (.iload_n 1, 1) := by decide +kernel
theorem dX11_said_8 : decode cX11_said 8 = .ok (.ifCond .lt 22, 3) := by decide +kernel
theorem dX11_said_11 : decode cX11_said 11 = .ok (.iload_n 1, 1) := by decide +kernel
theorem dX11_said_12 : decode cX11_said 12 = .ok (.aload_n 0, 1) := by decide +kernel
theorem dX11_said_13 : decode cX11_said 13 = .ok (.getfield 337, 3) := by decide +kernel
theorem dX11_said_16 : decode cX11_said 16 = .ok (.if_icmp .ge 14, 3) := by decide +kernel
theorem dX11_said_19 : decode cX11_said 19 = .ok (.iload_n 1, 1) := by decide +kernel
theorem dX11_said_20 : decode cX11_said 20 = .ok (.sipush 300, 3) := by decide +kernel
theorem dX11_said_23 : decode cX11_said 23 = .ok (.if_icmp .ge 7, 3) := by decide +kernel
theorem dX11_said_26 : decode cX11_said 26 = .ok (.iconst 1, 1) := by decide +kernel
theorem dX11_said_27 : decode cX11_said 27 = .ok (.goto 4, 3) := by decide +kernel
theorem dX11_said_30 : decode cX11_said 30 = .ok (.iconst 0, 1) := by decide +kernel
theorem dX11_said_31 : decode cX11_said 31 = .ok (.istore_n 2, 1) := by decide +kernel
theorem dX11_said_32 : decode cX11_said 32 = .ok (.aload_n 0, 1) := by decide +kernel
theorem dX11_said_33 : decode cX11_said 33 = .ok (.iload_n 2, 1) := by decide +kernel
theorem dX11_said_34 : decode cX11_said 34 = .ok (.ifCond .eq 7, 3) := by decide +kernel
theorem dX11_said_37 : decode cX11_said 37 = .ok (.iconst 0, 1) := by decide +kernel
theorem dX11_said_38 : decode cX11_said 38 = .ok (.goto 4, 3) := by decide +kernel
theorem dX11_said_41 : decode cX11_said 41 = .ok (.iconst 1, 1) := by decide +kernel
theorem dX11_said_42 : decode cX11_said 42 = .ok (.putfield 131, 3) := by decide +kernel
theorem dX11_said_45 : decode cX11_said 45 = .ok (.iload_n 2, 1) := by decide +kernel
theorem dX11_said_46 : decode cX11_said 46 = .ok (.ifCond .eq 12, 3) := by decide +kernel
theorem dX11_said_49 : decode cX11_said 49 = .ok (.aload_n 0, 1) := by decide +kernel
theorem dX11_said_50 : decode cX11_said 50 = .ok (.getfield 107, 3) := by decide +kernel
theorem dX11_said_53 : decode cX11_said 53 = .ok (.iload_n 1, 1) := by decide +kernel
theorem dX11_said_54 : decode cX11_said 54 = .ok (.iaload, 1) := by decide +kernel
theorem dX11_said_55 : decode cX11_said 55 = .ok (.goto 4, 3) := by decide +kernel
theorem dX11_said_58 : decode cX11_said 58 = .ok (.iconst 0, 1) := by decide +kernel
theorem dX11_said_59 : decode cX11_said 59 = .ok (.ireturn, 1) := by decide +kernel
theorem dX11_told_0 : decode cX11_told 0 = .ok (.iload_n 3, 1) := by decide +kernel
theorem dX11_told_1 : decode cX11_told 1 = .ok (.tableswitch 74 0 2 #[27, 34, 58], 27) := by decide +kernel
theorem dX11_told_28 : decode cX11_told 28 = .ok (.aload_n 0, 1) := by decide +kernel
theorem dX11_told_29 : decode cX11_told 29 = .ok (.iload_n 1, 1) := by decide +kernel
theorem dX11_told_30 : decode cX11_told 30 = .ok (.iload_n 2, 1) := by decide +kernel
theorem dX11_told_31 : decode cX11_told 31 = .ok (.invokevirtual 222, 3) := by decide +kernel
theorem dX11_told_34 : decode cX11_told 34 = .ok (.ireturn, 1) := by decide +kernel
theorem dX11_told_35 : decode cX11_told 35 = .ok (.iload_n 1, 1) := by decide +kernel
theorem dX11_told_36 : decode cX11_told 36 = .ok (.ifCond .ne 7, 3) := by decide +kernel
theorem dX11_told_39 : decode cX11_told 39 = .ok (.iload_n 2, 1) := by decide +kernel
theorem dX11_told_40 : decode cX11_told 40 = .ok (.goto 18, 3) := by decide +kernel
theorem dX11_told_43 : decode cX11_told 43 = .ok (.iload_n 1, 1) := by decide +kernel
theorem dX11_told_44 : decode cX11_told 44 = .ok (.iconst 1, 1) := by decide +kernel
theorem dX11_told_45 : decode cX11_told 45 = .ok (.if_icmp .ne 7, 3) := by decide +kernel
theorem dX11_told_48 : decode cX11_told 48 = .ok (.iconst 0, 1) := by decide +kernel
theorem dX11_told_49 : decode cX11_told 49 = .ok (.goto 9, 3) := by decide +kernel
theorem dX11_told_52 : decode cX11_told 52 = .ok (.aload_n 0, 1) := by decide +kernel
theorem dX11_told_53 : decode cX11_told 53 = .ok (.getfield 13, 3) := by decide +kernel
theorem dX11_told_56 : decode cX11_told 56 = .ok (.iload_n 2, 1) := by decide +kernel
theorem dX11_told_57 : decode cX11_told 57 = .ok (.iaload, 1) := by decide +kernel
theorem dX11_told_58 : decode cX11_told 58 = .ok (.ireturn, 1) := by decide +kernel
theorem dX11_told_59 : decode cX11_told 59 = .ok (.iload_n 1, 1) := by decide +kernel
theorem dX11_told_60 : decode cX11_told 60 = .ok (.iconst 2, 1) := by decide +kernel
theorem dX11_told_61 : decode cX11_told 61 = .ok (.if_icmp .ne 12, 3) := by decide +kernel
theorem dX11_told_64 : decode cX11_told 64 = .ok (.aload_n 0, 1) := by decide +kernel
theorem dX11_told_65 : decode cX11_told 65 = .ok (.getfield 20, 3) := by decide +kernel
theorem dX11_told_68 : decode cX11_told 68 = .ok (.iload_n 2, 1) := by decide +kernel
theorem dX11_told_69 : decode cX11_told 69 = .ok (.iaload, 1) := by decide +kernel
theorem dX11_told_70 : decode cX11_told 70 = .ok (.goto 4, 3) := by decide +kernel
theorem dX11_told_73 : decode cX11_told 73 = .ok (.iconst (-1), 1) := by decide +kernel
theorem dX11_told_74 : decode cX11_told 74 = .ok (.ireturn, 1) := by decide +kernel
theorem dX11_told_75 : decode cX11_told 75 = .ok (.iconst (-1), 1) := by decide +kernel
theorem dX11_told_76 : decode cX11_told 76 = .ok (.ireturn, 1) := by decide +kernel
theorem dX11_hand_0 : decode cX11_hand 0 = .ok (.aload_n 0, 1) := by decide +kernel
theorem dX11_hand_1 : decode cX11_hand 1 = .ok (.iconst 0, 1) := by decide +kernel
theorem dX11_hand_2 : decode cX11_hand 2 = .ok (.putfield 131, 3) := by decide +kernel
theorem dX11_hand_5 : decode cX11_hand 5 = .ok (.iload_n 1, 1) := by decide +kernel
theorem dX11_hand_6 : decode cX11_hand 6 = .ok (.ifCond .lt 9, 3) := by decide +kernel
theorem dX11_hand_9 : decode cX11_hand 9 = .ok (.iload_n 1, 1) := by decide +kernel
theorem dX11_hand_10 : decode cX11_hand 10 = .ok (.bipush 7, 2) := by decide +kernel
theorem dX11_hand_12 : decode cX11_hand 12 = .ok (.if_icmp .le 7, 3) := by decide +kernel
theorem dX11_hand_15 : decode cX11_hand 15 = .ok (.iconst (-1), 1) := by decide +kernel
theorem dX11_hand_16 : decode cX11_hand 16 = .ok (.goto 20, 3) := by decide +kernel
theorem dX11_hand_19 : decode cX11_hand 19 = .ok (.aload_n 0, 1) := by decide +kernel
theorem dX11_hand_20 : decode cX11_hand 20 = .ok (.aload_n 0, 1) := by decide +kernel
theorem dX11_hand_21 : decode cX11_hand 21 = .ok (.getfield 30, 3) := by decide +kernel
theorem dX11_hand_24 : decode cX11_hand 24 = .ok (.iload_n 1, 1) := by decide +kernel
theorem dX11_hand_25 : decode cX11_hand 25 = .ok (.iaload, 1) := by decide +kernel
theorem dX11_hand_26 : decode cX11_hand 26 = .ok (.aload_n 0, 1) := by decide +kernel
theorem dX11_hand_27 : decode cX11_hand 27 = .ok (.getfield 33, 3) := by decide +kernel
theorem dX11_hand_30 : decode cX11_hand 30 = .ok (.iload_n 1, 1) := by decide +kernel
theorem dX11_hand_31 : decode cX11_hand 31 = .ok (.iaload, 1) := by decide +kernel
theorem dX11_hand_32 : decode cX11_hand 32 = .ok (.iload_n 2, 1) := by decide +kernel
theorem dX11_hand_33 : decode cX11_hand 33 = .ok (.invokevirtual 349, 3) := by decide +kernel
theorem dX11_hand_36 : decode cX11_hand 36 = .ok (.ireturn, 1) := by decide +kernel
theorem dX11_stack_0 : decode cX11_stack 0 = .ok (.aload_n 0, 1) := by decide +kernel
theorem dX11_stack_1 : decode cX11_stack 1 = .ok (.iconst 0, 1) := by decide +kernel
theorem dX11_stack_2 : decode cX11_stack 2 = .ok (.putfield 131, 3) := by decide +kernel
theorem dX11_stack_5 : decode cX11_stack 5 = .ok (.iload_n 1, 1) := by decide +kernel
theorem dX11_stack_6 : decode cX11_stack 6 = .ok (.ifCond .lt 11, 3) := by decide +kernel
theorem dX11_stack_9 : decode cX11_stack 9 = .ok (.iload_n 1, 1) := by decide +kernel
theorem dX11_stack_10 : decode cX11_stack 10 = .ok (.aload_n 0, 1) := by decide +kernel
theorem dX11_stack_11 : decode cX11_stack 11 = .ok (.getfield 173, 3) := by decide +kernel
theorem dX11_stack_14 : decode cX11_stack 14 = .ok (.if_icmp .lt 7, 3) := by decide +kernel
theorem dX11_stack_17 : decode cX11_stack 17 = .ok (.iconst (-1), 1) := by decide +kernel
theorem dX11_stack_18 : decode cX11_stack 18 = .ok (.goto 26, 3) := by decide +kernel
theorem dX11_stack_21 : decode cX11_stack 21 = .ok (.aload_n 0, 1) := by decide +kernel
theorem dX11_stack_22 : decode cX11_stack 22 = .ok (.aload_n 0, 1) := by decide +kernel
theorem dX11_stack_23 : decode cX11_stack 23 = .ok (.getfield 30, 3) := by decide +kernel
theorem dX11_stack_26 : decode cX11_stack 26 = .ok (.bipush 8, 2) := by decide +kernel
theorem dX11_stack_28 : decode cX11_stack 28 = .ok (.iload_n 1, 1) := by decide +kernel
theorem dX11_stack_29 : decode cX11_stack 29 = .ok (.iadd, 1) := by decide +kernel
theorem dX11_stack_30 : decode cX11_stack 30 = .ok (.iaload, 1) := by decide +kernel
theorem dX11_stack_31 : decode cX11_stack 31 = .ok (.aload_n 0, 1) := by decide +kernel
theorem dX11_stack_32 : decode cX11_stack 32 = .ok (.getfield 33, 3) := by decide +kernel
theorem dX11_stack_35 : decode cX11_stack 35 = .ok (.bipush 8, 2) := by decide +kernel
theorem dX11_stack_37 : decode cX11_stack 37 = .ok (.iload_n 1, 1) := by decide +kernel
theorem dX11_stack_38 : decode cX11_stack 38 = .ok (.iadd, 1) := by decide +kernel
theorem dX11_stack_39 : decode cX11_stack 39 = .ok (.iaload, 1) := by decide +kernel
theorem dX11_stack_40 : decode cX11_stack 40 = .ok (.iload_n 2, 1) := by decide +kernel
theorem dX11_stack_41 : decode cX11_stack 41 = .ok (.invokevirtual 349, 3) := by decide +kernel
theorem dX11_stack_44 : decode cX11_stack 44 = .ok (.ireturn, 1) := by decide +kernel
theorem dX11_slot_0 : decode cX11_slot 0 = .ok (.aload_n 0, 1) := by decide +kernel
theorem dX11_slot_1 : decode cX11_slot 1 = .ok (.iconst 0, 1) := by decide +kernel
theorem dX11_slot_2 : decode cX11_slot 2 = .ok (.putfield 131, 3) := by decide +kernel
theorem dX11_slot_5 : decode cX11_slot 5 = .ok (.iload_n 1, 1) := by decide +kernel
theorem dX11_slot_6 : decode cX11_slot 6 = .ok (.ifCond .lt 36, 3) := by decide +kernel
theorem dX11_slot_9 : decode cX11_slot 9 = .ok (.iload_n 1, 1) := by decide +kernel
theorem dX11_slot_10 : decode cX11_slot 10 = .ok (.bipush 7, 2) := by decide +kernel
theorem dX11_slot_12 : decode cX11_slot 12 = .ok (.if_icmp .gt 30, 3) := by decide +kernel
theorem dX11_slot_15 : decode cX11_slot 15 = .ok (.aload_n 0, 1) := by decide +kernel
theorem dX11_slot_16 : decode cX11_slot 16 = .ok (.iload_n 1, 1) := by decide +kernel
theorem dX11_slot_17 : decode cX11_slot 17 = .ok (.invokevirtual 202, 3) := by decide +kernel
theorem dX11_slot_20 : decode cX11_slot 20 = .ok (.ifCond .eq 22, 3) := by decide +kernel
theorem dX11_slot_23 : decode cX11_slot 23 = .ok (.iload_n 2, 1) := by decide +kernel
theorem dX11_slot_24 : decode cX11_slot 24 = .ok (.ifCond .lt 18, 3) := by decide +kernel
theorem dX11_slot_27 : decode cX11_slot 27 = .ok (.iload_n 2, 1) := by decide +kernel
theorem dX11_slot_28 : decode cX11_slot 28 = .ok (.aload_n 0, 1) := by decide +kernel
theorem dX11_slot_29 : decode cX11_slot 29 = .ok (.getfield 13, 3) := by decide +kernel
theorem dX11_slot_32 : decode cX11_slot 32 = .ok (.aload_n 0, 1) := by decide +kernel
theorem dX11_slot_33 : decode cX11_slot 33 = .ok (.getfield 33, 3) := by decide +kernel
theorem dX11_slot_36 : decode cX11_slot 36 = .ok (.iload_n 1, 1) := by decide +kernel
theorem dX11_slot_37 : decode cX11_slot 37 = .ok (.iaload, 1) := by decide +kernel
theorem dX11_slot_38 : decode cX11_slot 38 = .ok (.iaload, 1) := by decide +kernel
theorem dX11_slot_39 : decode cX11_slot 39 = .ok (.if_icmp .lt 5, 3) := by decide +kernel
theorem dX11_slot_42 : decode cX11_slot 42 = .ok (.iconst (-1), 1) := by decide +kernel
theorem dX11_slot_43 : decode cX11_slot 43 = .ok (.ireturn, 1) := by decide +kernel
theorem dX11_slot_44 : decode cX11_slot 44 = .ok (.bipush 40, 2) := by decide +kernel
theorem dX11_slot_46 : decode cX11_slot 46 = .ok (.aload_n 0, 1) := by decide +kernel
theorem dX11_slot_47 : decode cX11_slot 47 = .ok (.getfield 33, 3) := by decide +kernel
theorem dX11_slot_50 : decode cX11_slot 50 = .ok (.iload_n 1, 1) := by decide +kernel
theorem dX11_slot_51 : decode cX11_slot 51 = .ok (.iaload, 1) := by decide +kernel
theorem dX11_slot_52 : decode cX11_slot 52 = .ok (.imul, 1) := by decide +kernel
theorem dX11_slot_53 : decode cX11_slot 53 = .ok (.iload_n 2, 1) := by decide +kernel
theorem dX11_slot_54 : decode cX11_slot 54 = .ok (.iadd, 1) := by decide +kernel
theorem dX11_slot_55 : decode cX11_slot 55 = .ok (.istore 4, 2) := by decide +kernel
theorem dX11_slot_57 : decode cX11_slot 57 = .ok (.iload_n 3, 1) := by decide +kernel
theorem dX11_slot_58 : decode cX11_slot 58 = .ok (.iconst 2, 1) := by decide +kernel
theorem dX11_slot_59 : decode cX11_slot 59 = .ok (.if_icmp .ne 31, 3) := by decide +kernel
theorem dX11_slot_62 : decode cX11_slot 62 = .ok (.aload_n 0, 1) := by decide +kernel
theorem dX11_slot_63 : decode cX11_slot 63 = .ok (.getfield 24, 3) := by decide +kernel
theorem dX11_slot_66 : decode cX11_slot 66 = .ok (.iload 4, 2) := by decide +kernel
theorem dX11_slot_68 : decode cX11_slot 68 = .ok (.iaload, 1) := by decide +kernel
theorem dX11_slot_69 : decode cX11_slot 69 = .ok (.iconst 2, 1) := by decide +kernel
theorem dX11_slot_70 : decode cX11_slot 70 = .ok (.if_icmp .ne 18, 3) := by decide +kernel
theorem dX11_slot_73 : decode cX11_slot 73 = .ok (.aload_n 0, 1) := by decide +kernel
theorem dX11_slot_74 : decode cX11_slot 74 = .ok (.getfield 17, 3) := by decide +kernel
theorem dX11_slot_77 : decode cX11_slot 77 = .ok (.aload_n 0, 1) := by decide +kernel
theorem dX11_slot_78 : decode cX11_slot 78 = .ok (.getfield 27, 3) := by decide +kernel
theorem dX11_slot_81 : decode cX11_slot 81 = .ok (.iload 4, 2) := by decide +kernel
theorem dX11_slot_83 : decode cX11_slot 83 = .ok (.iaload, 1) := by decide +kernel
theorem dX11_slot_84 : decode cX11_slot 84 = .ok (.iaload, 1) := by decide +kernel
theorem dX11_slot_85 : decode cX11_slot 85 = .ok (.goto 4, 3) := by decide +kernel
theorem dX11_slot_88 : decode cX11_slot 88 = .ok (.iconst (-1), 1) := by decide +kernel
theorem dX11_slot_89 : decode cX11_slot 89 = .ok (.ireturn, 1) := by decide +kernel
theorem dX11_slot_90 : decode cX11_slot 90 = .ok (.aload_n 0, 1) := by decide +kernel
theorem dX11_slot_91 : decode cX11_slot 91 = .ok (.aload_n 0, 1) := by decide +kernel
theorem dX11_slot_92 : decode cX11_slot 92 = .ok (.getfield 24, 3) := by decide +kernel
theorem dX11_slot_95 : decode cX11_slot 95 = .ok (.iload 4, 2) := by decide +kernel
theorem dX11_slot_97 : decode cX11_slot 97 = .ok (.iaload, 1) := by decide +kernel
theorem dX11_slot_98 : decode cX11_slot 98 = .ok (.aload_n 0, 1) := by decide +kernel
theorem dX11_slot_99 : decode cX11_slot 99 = .ok (.getfield 27, 3) := by decide +kernel
theorem dX11_slot_102 : decode cX11_slot 102 = .ok (.iload 4, 2) := by decide +kernel
theorem dX11_slot_104 : decode cX11_slot 104 = .ok (.iaload, 1) := by decide +kernel
theorem dX11_slot_105 : decode cX11_slot 105 = .ok (.iload_n 3, 1) := by decide +kernel
theorem dX11_slot_106 : decode cX11_slot 106 = .ok (.invokevirtual 349, 3) := by decide +kernel
theorem dX11_slot_109 : decode cX11_slot 109 = .ok (.ireturn, 1) := by decide +kernel
theorem dX11_meet_0 : decode cX11_meet 0 = .ok (.iload_n 1, 1) := by decide +kernel
theorem dX11_meet_1 : decode cX11_meet 1 = .ok (.iconst 2, 1) := by decide +kernel
theorem dX11_meet_2 : decode cX11_meet 2 = .ok (.if_icmp .ne 12, 3) := by decide +kernel
theorem dX11_meet_5 : decode cX11_meet 5 = .ok (.aload_n 0, 1) := by decide +kernel
theorem dX11_meet_6 : decode cX11_meet 6 = .ok (.getfield 113, 3) := by decide +kernel
theorem dX11_meet_9 : decode cX11_meet 9 = .ok (.iload_n 2, 1) := by decide +kernel
theorem dX11_meet_10 : decode cX11_meet 10 = .ok (.iaload, 1) := by decide +kernel
theorem dX11_meet_11 : decode cX11_meet 11 = .ok (.ifCond .le 4, 3) := by decide +kernel
theorem dX11_meet_14 : decode cX11_meet 14 = .ok (.return_, 1) := by decide +kernel
theorem dX11_meet_15 : decode cX11_meet 15 = .ok (.aload_n 0, 1) := by decide +kernel
theorem dX11_meet_16 : decode cX11_meet 16 = .ok (.getfield 110, 3) := by decide +kernel
theorem dX11_meet_19 : decode cX11_meet 19 = .ok (.aload_n 0, 1) := by decide +kernel
theorem dX11_meet_20 : decode cX11_meet 20 = .ok (.getfield 352, 3) := by decide +kernel
theorem dX11_meet_23 : decode cX11_meet 23 = .ok (.iload_n 2, 1) := by decide +kernel
theorem dX11_meet_24 : decode cX11_meet 24 = .ok (.iastore, 1) := by decide +kernel
theorem dX11_meet_25 : decode cX11_meet 25 = .ok (.aload_n 0, 1) := by decide +kernel
theorem dX11_meet_26 : decode cX11_meet 26 = .ok (.dup, 1) := by decide +kernel
theorem dX11_meet_27 : decode cX11_meet 27 = .ok (.getfield 352, 3) := by decide +kernel
theorem dX11_meet_30 : decode cX11_meet 30 = .ok (.iconst 1, 1) := by decide +kernel
theorem dX11_meet_31 : decode cX11_meet 31 = .ok (.iadd, 1) := by decide +kernel
theorem dX11_meet_32 : decode cX11_meet 32 = .ok (.putfield 352, 3) := by decide +kernel
theorem dX11_meet_35 : decode cX11_meet 35 = .ok (.aload_n 0, 1) := by decide +kernel
theorem dX11_meet_36 : decode cX11_meet 36 = .ok (.getfield 113, 3) := by decide +kernel
theorem dX11_meet_39 : decode cX11_meet 39 = .ok (.iload_n 2, 1) := by decide +kernel
theorem dX11_meet_40 : decode cX11_meet 40 = .ok (.aload_n 0, 1) := by decide +kernel
theorem dX11_meet_41 : decode cX11_meet 41 = .ok (.getfield 352, 3) := by decide +kernel
theorem dX11_meet_44 : decode cX11_meet 44 = .ok (.iastore, 1) := by decide +kernel
theorem dX11_meet_45 : decode cX11_meet 45 = .ok (.return_, 1) := by decide +kernel
theorem dX11_forget_0 : decode cX11_forget 0 = .ok (.aload_n 0, 1) := by decide +kernel
theorem dX11_forget_1 : decode cX11_forget 1 = .ok (.iconst 0, 1) := by decide +kernel
theorem dX11_forget_2 : decode cX11_forget 2 = .ok (.putfield 352, 3) := by decide +kernel
theorem dX11_forget_5 : decode cX11_forget 5 = .ok (.iconst 0, 1) := by decide +kernel
theorem dX11_forget_6 : decode cX11_forget 6 = .ok (.istore_n 1, 1) := by decide +kernel
theorem dX11_forget_7 : decode cX11_forget 7 = .ok (.iload_n 1, 1) := by decide +kernel
theorem dX11_forget_8 : decode cX11_forget 8 = .ok (.sipush 1300, 3) := by decide +kernel
theorem dX11_forget_11 : decode cX11_forget 11 = .ok (.if_icmp .ge 16, 3) := by decide +kernel
theorem dX11_forget_14 : decode cX11_forget 14 = .ok (.aload_n 0, 1) := by decide +kernel
theorem dX11_forget_15 : decode cX11_forget 15 = .ok (.getfield 113, 3) := by decide +kernel
theorem dX11_forget_18 : decode cX11_forget 18 = .ok (.iload_n 1, 1) := by decide +kernel
theorem dX11_forget_19 : decode cX11_forget 19 = .ok (.iconst 0, 1) := by decide +kernel
theorem dX11_forget_20 : decode cX11_forget 20 = .ok (.iastore, 1) := by decide +kernel
theorem dX11_forget_21 : decode cX11_forget 21 = .ok (.iinc 1 1, 3) := by decide +kernel
theorem dX11_forget_24 : decode cX11_forget 24 = .ok (.goto (-17), 3) := by decide +kernel
theorem dX11_forget_27 : decode cX11_forget 27 = .ok (.return_, 1) := by decide +kernel
theorem dX11_reach_0 : decode cX11_reach 0 = .ok (.aload_n 0, 1) := by decide +kernel
theorem dX11_reach_1 : decode cX11_reach 1 = .ok (.iconst 0, 1) := by decide +kernel
theorem dX11_reach_2 : decode cX11_reach 2 = .ok (.putfield 131, 3) := by decide +kernel
theorem dX11_reach_5 : decode cX11_reach 5 = .ok (.iload_n 1, 1) := by decide +kernel
theorem dX11_reach_6 : decode cX11_reach 6 = .ok (.ifCond .eq 10, 3) := by decide +kernel
theorem dX11_reach_9 : decode cX11_reach 9 = .ok (.iload_n 1, 1) := by decide +kernel
theorem dX11_reach_10 : decode cX11_reach 10 = .ok (.iconst 1, 1) := by decide +kernel
theorem dX11_reach_11 : decode cX11_reach 11 = .ok (.if_icmp .eq 5, 3) := by decide +kernel
theorem dX11_reach_14 : decode cX11_reach 14 = .ok (.iconst (-1), 1) := by decide +kernel
theorem dX11_reach_15 : decode cX11_reach 15 = .ok (.ireturn, 1) := by decide +kernel
theorem dX11_reach_16 : decode cX11_reach 16 = .ok (.aload_n 0, 1) := by decide +kernel
theorem dX11_reach_17 : decode cX11_reach 17 = .ok (.invokevirtual 355, 3) := by decide +kernel
theorem dX11_reach_20 : decode cX11_reach 20 = .ok (.iconst 0, 1) := by decide +kernel
theorem dX11_reach_21 : decode cX11_reach 21 = .ok (.istore_n 2, 1) := by decide +kernel
theorem dX11_reach_22 : decode cX11_reach 22 = .ok (.iload_n 2, 1) := by decide +kernel
theorem dX11_reach_23 : decode cX11_reach 23 = .ok (.bipush 8, 2) := by decide +kernel
theorem dX11_reach_25 : decode cX11_reach 25 = .ok (.aload_n 0, 1) := by decide +kernel
theorem dX11_reach_26 : decode cX11_reach 26 = .ok (.getfield 173, 3) := by decide +kernel
theorem dX11_reach_29 : decode cX11_reach 29 = .ok (.iadd, 1) := by decide +kernel
theorem dX11_reach_30 : decode cX11_reach 30 = .ok (.if_icmp .ge 25, 3) := by decide +kernel
theorem dX11_reach_33 : decode cX11_reach 33 = .ok (.aload_n 0, 1) := by decide +kernel
theorem dX11_reach_34 : decode cX11_reach 34 = .ok (.aload_n 0, 1) := by decide +kernel
theorem dX11_reach_35 : decode cX11_reach 35 = .ok (.getfield 30, 3) := by decide +kernel
theorem dX11_reach_38 : decode cX11_reach 38 = .ok (.iload_n 2, 1) := by decide +kernel
theorem dX11_reach_39 : decode cX11_reach 39 = .ok (.iaload, 1) := by decide +kernel
theorem dX11_reach_40 : decode cX11_reach 40 = .ok (.aload_n 0, 1) := by decide +kernel
theorem dX11_reach_41 : decode cX11_reach 41 = .ok (.getfield 33, 3) := by decide +kernel
theorem dX11_reach_44 : decode cX11_reach 44 = .ok (.iload_n 2, 1) := by decide +kernel
theorem dX11_reach_45 : decode cX11_reach 45 = .ok (.iaload, 1) := by decide +kernel
theorem dX11_reach_46 : decode cX11_reach 46 = .ok (.invokevirtual 358, 3) := by decide +kernel
theorem dX11_reach_49 : decode cX11_reach 49 = .ok (.iinc 2 1, 3) := by decide +kernel
theorem dX11_reach_52 : decode cX11_reach 52 = .ok (.goto (-30), 3) := by decide +kernel
theorem dX11_reach_55 : decode cX11_reach 55 = .ok (.iconst 0, 1) := by decide +kernel
theorem dX11_reach_56 : decode cX11_reach 56 = .ok (.istore_n 2, 1) := by decide +kernel
theorem dX11_reach_57 : decode cX11_reach 57 = .ok (.iconst 0, 1) := by decide +kernel
theorem dX11_reach_58 : decode cX11_reach 58 = .ok (.istore_n 3, 1) := by decide +kernel
theorem dX11_reach_59 : decode cX11_reach 59 = .ok (.iload_n 3, 1) := by decide +kernel
theorem dX11_reach_60 : decode cX11_reach 60 = .ok (.aload_n 0, 1) := by decide +kernel
theorem dX11_reach_61 : decode cX11_reach 61 = .ok (.getfield 352, 3) := by decide +kernel
theorem dX11_reach_64 : decode cX11_reach 64 = .ok (.if_icmp .ge 77, 3) := by decide +kernel
theorem dX11_reach_67 : decode cX11_reach 67 = .ok (.aload_n 0, 1) := by decide +kernel
theorem dX11_reach_68 : decode cX11_reach 68 = .ok (.getfield 110, 3) := by decide +kernel
theorem dX11_reach_71 : decode cX11_reach 71 = .ok (.iload_n 3, 1) := by decide +kernel
theorem dX11_reach_72 : decode cX11_reach 72 = .ok (.iaload, 1) := by decide +kernel
theorem dX11_reach_73 : decode cX11_reach 73 = .ok (.istore 4, 2) := by decide +kernel
theorem dX11_reach_75 : decode cX11_reach 75 = .ok (.iconst 0, 1) := by decide +kernel
theorem dX11_reach_76 : decode cX11_reach 76 = .ok (.istore 5, 2) := by decide +kernel
theorem dX11_reach_78 : decode cX11_reach 78 = .ok (.iload 5, 2) := by decide +kernel
theorem dX11_reach_80 : decode cX11_reach 80 = .ok (.aload_n 0, 1) := by decide +kernel
theorem dX11_reach_81 : decode cX11_reach 81 = .ok (.getfield 13, 3) := by decide +kernel
theorem dX11_reach_84 : decode cX11_reach 84 = .ok (.iload 4, 2) := by decide +kernel
theorem dX11_reach_86 : decode cX11_reach 86 = .ok (.iaload, 1) := by decide +kernel
theorem dX11_reach_87 : decode cX11_reach 87 = .ok (.if_icmp .ge 39, 3) := by decide +kernel
theorem dX11_reach_90 : decode cX11_reach 90 = .ok (.aload_n 0, 1) := by decide +kernel
theorem dX11_reach_91 : decode cX11_reach 91 = .ok (.aload_n 0, 1) := by decide +kernel
theorem dX11_reach_92 : decode cX11_reach 92 = .ok (.getfield 24, 3) := by decide +kernel
theorem dX11_reach_95 : decode cX11_reach 95 = .ok (.bipush 40, 2) := by decide +kernel
theorem dX11_reach_97 : decode cX11_reach 97 = .ok (.iload 4, 2) := by decide +kernel
theorem dX11_reach_99 : decode cX11_reach 99 = .ok (.imul, 1) := by decide +kernel
theorem dX11_reach_100 : decode cX11_reach 100 = .ok (.iload 5, 2) := by decide +kernel
theorem dX11_reach_102 : decode cX11_reach 102 = .ok (.iadd, 1) := by decide +kernel
theorem dX11_reach_103 : decode cX11_reach 103 = .ok (.iaload, 1) := by decide +kernel
theorem dX11_reach_104 : decode cX11_reach 104 = .ok (.aload_n 0, 1) := by decide +kernel
theorem dX11_reach_105 : decode cX11_reach 105 = .ok (.getfield 27, 3) := by decide +kernel
theorem dX11_reach_108 : decode cX11_reach 108 = .ok (.bipush 40, 2) := by decide +kernel
theorem dX11_reach_110 : decode cX11_reach 110 = .ok (.iload 4, 2) := by decide +kernel
theorem dX11_reach_112 : decode cX11_reach 112 = .ok (.imul, 1) := by decide +kernel
theorem dX11_reach_113 : decode cX11_reach 113 = .ok (.iload 5, 2) := by decide +kernel
theorem dX11_reach_115 : decode cX11_reach 115 = .ok (.iadd, 1) := by decide +kernel
theorem dX11_reach_116 : decode cX11_reach 116 = .ok (.iaload, 1) := by decide +kernel
theorem dX11_reach_117 : decode cX11_reach 117 = .ok (.invokevirtual 358, 3) := by decide +kernel
theorem dX11_reach_120 : decode cX11_reach 120 = .ok (.iinc 5 1, 3) := by decide +kernel
theorem dX11_reach_123 : decode cX11_reach 123 = .ok (.goto (-45), 3) := by decide +kernel
theorem dX11_reach_126 : decode cX11_reach 126 = .ok (.iload_n 2, 1) := by decide +kernel
theorem dX11_reach_127 : decode cX11_reach 127 = .ok (.aload_n 0, 1) := by decide +kernel
theorem dX11_reach_128 : decode cX11_reach 128 = .ok (.iload 4, 2) := by decide +kernel
theorem dX11_reach_130 : decode cX11_reach 130 = .ok (.invokevirtual 140, 3) := by decide +kernel
theorem dX11_reach_133 : decode cX11_reach 133 = .ok (.iadd, 1) := by decide +kernel
theorem dX11_reach_134 : decode cX11_reach 134 = .ok (.istore_n 2, 1) := by decide +kernel
theorem dX11_reach_135 : decode cX11_reach 135 = .ok (.iinc 3 1, 3) := by decide +kernel
theorem dX11_reach_138 : decode cX11_reach 138 = .ok (.goto (-79), 3) := by decide +kernel
theorem dX11_reach_141 : decode cX11_reach 141 = .ok (.iload_n 1, 1) := by decide +kernel
theorem dX11_reach_142 : decode cX11_reach 142 = .ok (.ifCond .ne 10, 3) := by decide +kernel
theorem dX11_reach_145 : decode cX11_reach 145 = .ok (.aload_n 0, 1) := by decide +kernel
theorem dX11_reach_146 : decode cX11_reach 146 = .ok (.getfield 352, 3) := by decide +kernel
theorem dX11_reach_149 : decode cX11_reach 149 = .ok (.goto 4, 3) := by decide +kernel
theorem dX11_reach_152 : decode cX11_reach 152 = .ok (.iload_n 2, 1) := by decide +kernel
theorem dX11_reach_153 : decode cX11_reach 153 = .ok (.ireturn, 1) := by decide +kernel
theorem dX11_put_0 : decode cX11_put 0 = .ok (.aload_n 0, 1) := by decide +kernel
theorem dX11_put_1 : decode cX11_put 1 = .ok (.getfield 361, 3) := by decide +kernel
theorem dX11_put_4 : decode cX11_put 4 = .ok (.sipush 600, 3) := by decide +kernel
theorem dX11_put_7 : decode cX11_put 7 = .ok (.if_icmp .ne 4, 3) := by decide +kernel
theorem dX11_put_10 : decode cX11_put 10 = .ok (.return_, 1) := by decide +kernel
theorem dX11_put_11 : decode cX11_put 11 = .ok (.aload_n 0, 1) := by decide +kernel
theorem dX11_put_12 : decode cX11_put 12 = .ok (.getfield 116, 3) := by decide +kernel
theorem dX11_put_15 : decode cX11_put 15 = .ok (.aload_n 0, 1) := by decide +kernel
theorem dX11_put_16 : decode cX11_put 16 = .ok (.getfield 361, 3) := by decide +kernel
theorem dX11_put_19 : decode cX11_put 19 = .ok (.iload_n 1, 1) := by decide +kernel
theorem dX11_put_20 : decode cX11_put 20 = .ok (.iastore, 1) := by decide +kernel
theorem dX11_put_21 : decode cX11_put 21 = .ok (.aload_n 0, 1) := by decide +kernel
theorem dX11_put_22 : decode cX11_put 22 = .ok (.dup, 1) := by decide +kernel
theorem dX11_put_23 : decode cX11_put 23 = .ok (.getfield 361, 3) := by decide +kernel
theorem dX11_put_26 : decode cX11_put 26 = .ok (.iconst 1, 1) := by decide +kernel
theorem dX11_put_27 : decode cX11_put 27 = .ok (.iadd, 1) := by decide +kernel
theorem dX11_put_28 : decode cX11_put 28 = .ok (.putfield 361, 3) := by decide +kernel
theorem dX11_put_31 : decode cX11_put 31 = .ok (.return_, 1) := by decide +kernel
theorem dX11_putNumber_0 : decode cX11_putNumber 0 = .ok (.iload_n 1, 1) := by decide +kernel
theorem dX11_putNumber_1 : decode cX11_putNumber 1 = .ok (.i2l, 1) := by decide +kernel
theorem dX11_putNumber_2 : decode cX11_putNumber 2 = .ok (.lstore_n 2, 1) := by decide +kernel
theorem dX11_putNumber_3 : decode cX11_putNumber 3 = .ok (.lload_n 2, 1) := by decide +kernel
theorem dX11_putNumber_4 : decode cX11_putNumber 4 = .ok (.lconst 0, 1) := by decide +kernel
theorem dX11_putNumber_5 : decode cX11_putNumber 5 = .ok (.lcmp, 1) := by decide +kernel
theorem dX11_putNumber_6 : decode cX11_putNumber 6 = .ok (.ifCond .ge 12, 3) := by decide +kernel
theorem dX11_putNumber_9 : decode cX11_putNumber 9 = .ok (.aload_n 0, 1) := by decide +kernel
theorem dX11_putNumber_10 : decode cX11_putNumber 10 = .ok (.bipush 45, 2) := by decide +kernel
theorem dX11_putNumber_12 : decode cX11_putNumber 12 = .ok (.invokevirtual 364, 3) := by decide +kernel
theorem dX11_putNumber_15 : decode cX11_putNumber 15 = .ok (.lload_n 2, 1) := by decide +kernel
theorem dX11_putNumber_16 : decode cX11_putNumber 16 = .ok (.lneg, 1) := by decide +kernel
theorem dX11_putNumber_17 : decode cX11_putNumber 17 = .ok (.lstore_n 2, 1) := by decide +kernel
theorem dX11_putNumber_18 : decode cX11_putNumber 18 = .ok (.lconst 1, 1) := by decide +kernel
theorem dX11_putNumber_19 : decode cX11_putNumber 19 = .ok (.lstore 4, 2) := by decide +kernel
theorem dX11_putNumber_21 : decode cX11_putNumber 21 = .ok (.lload_n 2, 1) := by decide +kernel
theorem dX11_putNumber_22 : decode cX11_putNumber 22 = .ok (.lload 4, 2) := by decide +kernel
theorem dX11_putNumber_24 : decode cX11_putNumber 24 = .ok (.ldiv, 1) := by decide +kernel
theorem dX11_putNumber_25 : decode cX11_putNumber 25 = .ok (.ldc2_w 367, 3) := by decide +kernel
theorem dX11_putNumber_28 : decode cX11_putNumber 28 = .ok (.lcmp, 1) := by decide +kernel
theorem dX11_putNumber_29 : decode cX11_putNumber 29 = .ok (.ifCond .le 14, 3) := by decide +kernel
theorem dX11_putNumber_32 : decode cX11_putNumber 32 = .ok (.lload 4, 2) := by decide +kernel
theorem dX11_putNumber_34 : decode cX11_putNumber 34 = .ok (.ldc2_w 284, 3) := by decide +kernel
theorem dX11_putNumber_37 : decode cX11_putNumber 37 = .ok (.lmul, 1) := by decide +kernel
theorem dX11_putNumber_38 : decode cX11_putNumber 38 = .ok (.lstore 4, 2) := by decide +kernel
theorem dX11_putNumber_40 : decode cX11_putNumber 40 = .ok (.goto (-19), 3) := by decide +kernel
theorem dX11_putNumber_43 : decode cX11_putNumber 43 = .ok (.lload 4, 2) := by decide +kernel
theorem dX11_putNumber_45 : decode cX11_putNumber 45 = .ok (.lconst 0, 1) := by decide +kernel
theorem dX11_putNumber_46 : decode cX11_putNumber 46 = .ok (.lcmp, 1) := by decide +kernel
theorem dX11_putNumber_47 : decode cX11_putNumber 47 = .ok (.ifCond .le 31, 3) := by decide +kernel
theorem dX11_putNumber_50 : decode cX11_putNumber 50 = .ok (.aload_n 0, 1) := by decide +kernel
theorem dX11_putNumber_51 : decode cX11_putNumber 51 = .ok (.ldc2_w 286, 3) := by decide +kernel
theorem dX11_putNumber_54 : decode cX11_putNumber 54 = .ok (.lload_n 2, 1) := by decide +kernel
theorem dX11_putNumber_55 : decode cX11_putNumber 55 = .ok (.lload 4, 2) := by decide +kernel
theorem dX11_putNumber_57 : decode cX11_putNumber 57 = .ok (.ldiv, 1) := by decide +kernel
theorem dX11_putNumber_58 : decode cX11_putNumber 58 = .ok (.ldc2_w 284, 3) := by decide +kernel
theorem dX11_putNumber_61 : decode cX11_putNumber 61 = .ok (.lrem, 1) := by decide +kernel
theorem dX11_putNumber_62 : decode cX11_putNumber 62 = .ok (.ladd, 1) := by decide +kernel
theorem dX11_putNumber_63 : decode cX11_putNumber 63 = .ok (.l2i, 1) := by decide +kernel
theorem dX11_putNumber_64 : decode cX11_putNumber 64 = .ok (.invokevirtual 364, 3) := by decide +kernel
theorem dX11_putNumber_67 : decode cX11_putNumber 67 = .ok (.lload 4, 2) := by decide +kernel
theorem dX11_putNumber_69 : decode cX11_putNumber 69 = .ok (.ldc2_w 284, 3) := by decide +kernel
theorem dX11_putNumber_72 : decode cX11_putNumber 72 = .ok (.ldiv, 1) := by decide +kernel
theorem dX11_putNumber_73 : decode cX11_putNumber 73 = .ok (.lstore 4, 2) := by decide +kernel
theorem dX11_putNumber_75 : decode cX11_putNumber 75 = .ok (.goto (-32), 3) := by decide +kernel
theorem dX11_putNumber_78 : decode cX11_putNumber 78 = .ok (.return_, 1) := by decide +kernel
theorem dX11_putWord_0 : decode cX11_putWord 0 = .ok (.aload_n 0, 1) := by decide +kernel
theorem dX11_putWord_1 : decode cX11_putWord 1 = .ok (.iload_n 1, 1) := by decide +kernel
theorem dX11_putWord_2 : decode cX11_putWord 2 = .ok (.iload_n 2, 1) := by decide +kernel
theorem dX11_putWord_3 : decode cX11_putWord 3 = .ok (.invokevirtual 358, 3) := by decide +kernel
theorem dX11_putWord_6 : decode cX11_putWord 6 = .ok (.iload_n 1, 1) := by decide +kernel
theorem dX11_putWord_7 : decode cX11_putWord 7 = .ok (.ifCond .ne 11, 3) := by decide +kernel
theorem dX11_putWord_10 : decode cX11_putWord 10 = .ok (.aload_n 0, 1) := by decide +kernel
theorem dX11_putWord_11 : decode cX11_putWord 11 = .ok (.iload_n 2, 1) := by decide +kernel
theorem dX11_putWord_12 : decode cX11_putWord 12 = .ok (.invokevirtual 369, 3) := by decide +kernel
theorem dX11_putWord_15 : decode cX11_putWord 15 = .ok (.goto 33, 3) := by decide +kernel
theorem dX11_putWord_18 : decode cX11_putWord 18 = .ok (.iload_n 1, 1) := by decide +kernel
theorem dX11_putWord_19 : decode cX11_putWord 19 = .ok (.iconst 1, 1) := by decide +kernel
theorem dX11_putWord_20 : decode cX11_putWord 20 = .ok (.if_icmp .ne 12, 3) := by decide +kernel
theorem dX11_putWord_23 : decode cX11_putWord 23 = .ok (.aload_n 0, 1) := by decide +kernel
theorem dX11_putWord_24 : decode cX11_putWord 24 = .ok (.bipush 46, 2) := by decide +kernel
theorem dX11_putWord_26 : decode cX11_putWord 26 = .ok (.invokevirtual 364, 3) := by decide +kernel
theorem dX11_putWord_29 : decode cX11_putWord 29 = .ok (.goto 19, 3) := by decide +kernel
theorem dX11_putWord_32 : decode cX11_putWord 32 = .ok (.aload_n 0, 1) := by decide +kernel
theorem dX11_putWord_33 : decode cX11_putWord 33 = .ok (.bipush 35, 2) := by decide +kernel
theorem dX11_putWord_35 : decode cX11_putWord 35 = .ok (.invokevirtual 364, 3) := by decide +kernel
theorem dX11_putWord_38 : decode cX11_putWord 38 = .ok (.aload_n 0, 1) := by decide +kernel
theorem dX11_putWord_39 : decode cX11_putWord 39 = .ok (.aload_n 0, 1) := by decide +kernel
theorem dX11_putWord_40 : decode cX11_putWord 40 = .ok (.getfield 113, 3) := by decide +kernel
theorem dX11_putWord_43 : decode cX11_putWord 43 = .ok (.iload_n 2, 1) := by decide +kernel
theorem dX11_putWord_44 : decode cX11_putWord 44 = .ok (.iaload, 1) := by decide +kernel
theorem dX11_putWord_45 : decode cX11_putWord 45 = .ok (.invokevirtual 369, 3) := by decide +kernel
theorem dX11_putWord_48 : decode cX11_putWord 48 = .ok (.return_, 1) := by decide +kernel
theorem dX11_show_0 : decode cX11_show 0 = .ok (.aload_n 0, 1) := by decide +kernel
theorem dX11_show_1 : decode cX11_show 1 = .ok (.iconst 0, 1) := by decide +kernel
theorem dX11_show_2 : decode cX11_show 2 = .ok (.putfield 131, 3) := by decide +kernel
theorem dX11_show_5 : decode cX11_show 5 = .ok (.iload_n 1, 1) := by decide +kernel
theorem dX11_show_6 : decode cX11_show 6 = .ok (.ifCond .lt 9, 3) := by decide +kernel
theorem dX11_show_9 : decode cX11_show 9 = .ok (.iload_n 1, 1) := by decide +kernel
theorem dX11_show_10 : decode cX11_show 10 = .ok (.bipush 7, 2) := by decide +kernel
theorem dX11_show_12 : decode cX11_show 12 = .ok (.if_icmp .le 5, 3) := by decide +kernel
theorem dX11_show_15 : decode cX11_show 15 = .ok (.iconst (-1), 1) := by decide +kernel
theorem dX11_show_16 : decode cX11_show 16 = .ok (.ireturn, 1) := by decide +kernel
theorem dX11_show_17 : decode cX11_show 17 = .ok (.aload_n 0, 1) := by decide +kernel
theorem dX11_show_18 : decode cX11_show 18 = .ok (.iconst 0, 1) := by decide +kernel
theorem dX11_show_19 : decode cX11_show 19 = .ok (.putfield 361, 3) := by decide +kernel
theorem dX11_show_22 : decode cX11_show 22 = .ok (.aload_n 0, 1) := by decide +kernel
theorem dX11_show_23 : decode cX11_show 23 = .ok (.invokevirtual 355, 3) := by decide +kernel
theorem dX11_show_26 : decode cX11_show 26 = .ok (.aload_n 0, 1) := by decide +kernel
theorem dX11_show_27 : decode cX11_show 27 = .ok (.aload_n 0, 1) := by decide +kernel
theorem dX11_show_28 : decode cX11_show 28 = .ok (.getfield 30, 3) := by decide +kernel
theorem dX11_show_31 : decode cX11_show 31 = .ok (.iload_n 1, 1) := by decide +kernel
theorem dX11_show_32 : decode cX11_show 32 = .ok (.iaload, 1) := by decide +kernel
theorem dX11_show_33 : decode cX11_show 33 = .ok (.aload_n 0, 1) := by decide +kernel
theorem dX11_show_34 : decode cX11_show 34 = .ok (.getfield 33, 3) := by decide +kernel
theorem dX11_show_37 : decode cX11_show 37 = .ok (.iload_n 1, 1) := by decide +kernel
theorem dX11_show_38 : decode cX11_show 38 = .ok (.iaload, 1) := by decide +kernel
theorem dX11_show_39 : decode cX11_show 39 = .ok (.invokevirtual 372, 3) := by decide +kernel
theorem dX11_show_42 : decode cX11_show 42 = .ok (.iconst 0, 1) := by decide +kernel
theorem dX11_show_43 : decode cX11_show 43 = .ok (.istore_n 2, 1) := by decide +kernel
theorem dX11_show_44 : decode cX11_show 44 = .ok (.iload_n 2, 1) := by decide +kernel
theorem dX11_show_45 : decode cX11_show 45 = .ok (.aload_n 0, 1) := by decide +kernel
theorem dX11_show_46 : decode cX11_show 46 = .ok (.getfield 352, 3) := by decide +kernel
theorem dX11_show_49 : decode cX11_show 49 = .ok (.if_icmp .ge 121, 3) := by decide +kernel
theorem dX11_show_52 : decode cX11_show 52 = .ok (.aload_n 0, 1) := by decide +kernel
theorem dX11_show_53 : decode cX11_show 53 = .ok (.getfield 110, 3) := by decide +kernel
theorem dX11_show_56 : decode cX11_show 56 = .ok (.iload_n 2, 1) := by decide +kernel
theorem dX11_show_57 : decode cX11_show 57 = .ok (.iaload, 1) := by decide +kernel
theorem dX11_show_58 : decode cX11_show 58 = .ok (.istore_n 3, 1) := by decide +kernel
theorem dX11_show_59 : decode cX11_show 59 = .ok (.aload_n 0, 1) := by decide +kernel
theorem dX11_show_60 : decode cX11_show 60 = .ok (.bipush 32, 2) := by decide +kernel
theorem dX11_show_62 : decode cX11_show 62 = .ok (.invokevirtual 364, 3) := by decide +kernel
theorem dX11_show_65 : decode cX11_show 65 = .ok (.aload_n 0, 1) := by decide +kernel
theorem dX11_show_66 : decode cX11_show 66 = .ok (.aload_n 0, 1) := by decide +kernel
theorem dX11_show_67 : decode cX11_show 67 = .ok (.getfield 9, 3) := by decide +kernel
theorem dX11_show_70 : decode cX11_show 70 = .ok (.iload_n 3, 1) := by decide +kernel
theorem dX11_show_71 : decode cX11_show 71 = .ok (.baload, 1) := by decide +kernel
theorem dX11_show_72 : decode cX11_show 72 = .ok (.ifCond .eq 8, 3) := by decide +kernel
theorem dX11_show_75 : decode cX11_show 75 = .ok (.bipush 91, 2) := by decide +kernel
theorem dX11_show_77 : decode cX11_show 77 = .ok (.goto 5, 3) := by decide +kernel
theorem dX11_show_80 : decode cX11_show 80 = .ok (.bipush 123, 2) := by decide +kernel
theorem dX11_show_82 : decode cX11_show 82 = .ok (.invokevirtual 364, 3) := by decide +kernel
theorem dX11_show_85 : decode cX11_show 85 = .ok (.iconst 0, 1) := by decide +kernel
theorem dX11_show_86 : decode cX11_show 86 = .ok (.istore 4, 2) := by decide +kernel
theorem dX11_show_88 : decode cX11_show 88 = .ok (.iload 4, 2) := by decide +kernel
theorem dX11_show_90 : decode cX11_show 90 = .ok (.aload_n 0, 1) := by decide +kernel
theorem dX11_show_91 : decode cX11_show 91 = .ok (.getfield 13, 3) := by decide +kernel
theorem dX11_show_94 : decode cX11_show 94 = .ok (.iload_n 3, 1) := by decide +kernel
theorem dX11_show_95 : decode cX11_show 95 = .ok (.iaload, 1) := by decide +kernel
theorem dX11_show_96 : decode cX11_show 96 = .ok (.if_icmp .ge 48, 3) := by decide +kernel
theorem dX11_show_99 : decode cX11_show 99 = .ok (.iload 4, 2) := by decide +kernel
theorem dX11_show_101 : decode cX11_show 101 = .ok (.ifCond .le 9, 3) := by decide +kernel
theorem dX11_show_104 : decode cX11_show 104 = .ok (.aload_n 0, 1) := by decide +kernel
theorem dX11_show_105 : decode cX11_show 105 = .ok (.bipush 32, 2) := by decide +kernel
theorem dX11_show_107 : decode cX11_show 107 = .ok (.invokevirtual 364, 3) := by decide +kernel
theorem dX11_show_110 : decode cX11_show 110 = .ok (.aload_n 0, 1) := by decide +kernel
theorem dX11_show_111 : decode cX11_show 111 = .ok (.aload_n 0, 1) := by decide +kernel
theorem dX11_show_112 : decode cX11_show 112 = .ok (.getfield 24, 3) := by decide +kernel
theorem dX11_show_115 : decode cX11_show 115 = .ok (.bipush 40, 2) := by decide +kernel
theorem dX11_show_117 : decode cX11_show 117 = .ok (.iload_n 3, 1) := by decide +kernel
theorem dX11_show_118 : decode cX11_show 118 = .ok (.imul, 1) := by decide +kernel
theorem dX11_show_119 : decode cX11_show 119 = .ok (.iload 4, 2) := by decide +kernel
theorem dX11_show_121 : decode cX11_show 121 = .ok (.iadd, 1) := by decide +kernel
theorem dX11_show_122 : decode cX11_show 122 = .ok (.iaload, 1) := by decide +kernel
theorem dX11_show_123 : decode cX11_show 123 = .ok (.aload_n 0, 1) := by decide +kernel
theorem dX11_show_124 : decode cX11_show 124 = .ok (.getfield 27, 3) := by decide +kernel
theorem dX11_show_127 : decode cX11_show 127 = .ok (.bipush 40, 2) := by decide +kernel
theorem dX11_show_129 : decode cX11_show 129 = .ok (.iload_n 3, 1) := by decide +kernel
theorem dX11_show_130 : decode cX11_show 130 = .ok (.imul, 1) := by decide +kernel
theorem dX11_show_131 : decode cX11_show 131 = .ok (.iload 4, 2) := by decide +kernel
theorem dX11_show_133 : decode cX11_show 133 = .ok (.iadd, 1) := by decide +kernel
theorem dX11_show_134 : decode cX11_show 134 = .ok (.iaload, 1) := by decide +kernel
theorem dX11_show_135 : decode cX11_show 135 = .ok (.invokevirtual 372, 3) := by decide +kernel
theorem dX11_show_138 : decode cX11_show 138 = .ok (.iinc 4 1, 3) := by decide +kernel
theorem dX11_show_141 : decode cX11_show 141 = .ok (.goto (-53), 3) := by decide +kernel
theorem dX11_show_144 : decode cX11_show 144 = .ok (.aload_n 0, 1) := by decide +kernel
theorem dX11_show_145 : decode cX11_show 145 = .ok (.aload_n 0, 1) := by decide +kernel
theorem dX11_show_146 : decode cX11_show 146 = .ok (.getfield 9, 3) := by decide +kernel
theorem dX11_show_149 : decode cX11_show 149 = .ok (.iload_n 3, 1) := by decide +kernel
theorem dX11_show_150 : decode cX11_show 150 = .ok (.baload, 1) := by decide +kernel
theorem dX11_show_151 : decode cX11_show 151 = .ok (.ifCond .eq 8, 3) := by decide +kernel
theorem dX11_show_154 : decode cX11_show 154 = .ok (.bipush 93, 2) := by decide +kernel
theorem dX11_show_156 : decode cX11_show 156 = .ok (.goto 5, 3) := by decide +kernel
theorem dX11_show_159 : decode cX11_show 159 = .ok (.bipush 125, 2) := by decide +kernel
theorem dX11_show_161 : decode cX11_show 161 = .ok (.invokevirtual 364, 3) := by decide +kernel
theorem dX11_show_164 : decode cX11_show 164 = .ok (.iinc 2 1, 3) := by decide +kernel
theorem dX11_show_167 : decode cX11_show 167 = .ok (.goto (-123), 3) := by decide +kernel
theorem dX11_show_170 : decode cX11_show 170 = .ok (.aload_n 0, 1) := by decide +kernel
theorem dX11_show_171 : decode cX11_show 171 = .ok (.getfield 361, 3) := by decide +kernel
theorem dX11_show_174 : decode cX11_show 174 = .ok (.ireturn, 1) := by decide +kernel
theorem dX11_letter_0 : decode cX11_letter 0 = .ok (.aload_n 0, 1) := by decide +kernel
theorem dX11_letter_1 : decode cX11_letter 1 = .ok (.iconst 0, 1) := by decide +kernel
theorem dX11_letter_2 : decode cX11_letter 2 = .ok (.putfield 131, 3) := by decide +kernel
theorem dX11_letter_5 : decode cX11_letter 5 = .ok (.iload_n 1, 1) := by decide +kernel
theorem dX11_letter_6 : decode cX11_letter 6 = .ok (.ifCond .lt 11, 3) := by decide +kernel
theorem dX11_letter_9 : decode cX11_letter 9 = .ok (.iload_n 1, 1) := by decide +kernel
theorem dX11_letter_10 : decode cX11_letter 10 = .ok (.aload_n 0, 1) := by decide +kernel
theorem dX11_letter_11 : decode cX11_letter 11 = .ok (.getfield 361, 3) := by decide +kernel
theorem dX11_letter_14 : decode cX11_letter 14 = .ok (.if_icmp .lt 7, 3) := by decide +kernel
theorem dX11_letter_17 : decode cX11_letter 17 = .ok (.iconst (-1), 1) := by decide +kernel
theorem dX11_letter_18 : decode cX11_letter 18 = .ok (.goto 9, 3) := by decide +kernel
theorem dX11_letter_21 : decode cX11_letter 21 = .ok (.aload_n 0, 1) := by decide +kernel
theorem dX11_letter_22 : decode cX11_letter 22 = .ok (.getfield 116, 3) := by decide +kernel
theorem dX11_letter_25 : decode cX11_letter 25 = .ok (.iload_n 1, 1) := by decide +kernel
theorem dX11_letter_26 : decode cX11_letter 26 = .ok (.iaload, 1) := by decide +kernel
theorem dX11_letter_27 : decode cX11_letter 27 = .ok (.ireturn, 1) := by decide +kernel
