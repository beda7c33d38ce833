theorem dX2_init_0 : decode cX2_init 0 = .ok (.aload_n 0, 1) := by decide +kernel
theorem dX2_init_1 : decode cX2_init 1 = .ok (.invokespecial 3, 3) := by decide +kernel
theorem dX2_init_4 : decode cX2_init 4 = .ok (.aload_n 0, 1) := by decide +kernel
theorem dX2_init_5 : decode cX2_init 5 = .ok (.aload_n 1, 1) := by decide +kernel
theorem dX2_init_6 : decode cX2_init 6 = .ok (.putfield 9, 3) := by decide +kernel
theorem dX2_init_9 : decode cX2_init 9 = .ok (.return_, 1) := by decide +kernel
theorem dX2_perform_0 : decode cX2_perform 0 = .ok (.getstatic 15, 3) := by decide +kernel
theorem dX2_perform_3 : decode cX2_perform 3 = .ok (.aload_n 1, 1) := by decide +kernel
theorem dX2_perform_4 : decode cX2_perform 4 = .ok (.invokevirtual 21, 3) := by decide +kernel
theorem dX2_perform_7 : decode cX2_perform 7 = .ok (.iaload, 1) := by decide +kernel
theorem dX2_perform_8 : decode cX2_perform 8 = .ok (.tableswitch 406 1 20 #[96, 104, 128, 136, 144, 152, 176, 200, 209, 235, 244, 269, 304, 336, 336, 336, 336, 372, 394, 400], 96) := by decide +kernel
theorem dX2_perform_104 : decode cX2_perform 104 = .ok (.aload_n 0, 1) := by decide +kernel
theorem dX2_perform_105 : decode cX2_perform 105 = .ok (.iload_n 2, 1) := by decide +kernel
theorem dX2_perform_106 : decode cX2_perform 106 = .ok (.iconst 0, 1) := by decide +kernel
theorem dX2_perform_107 : decode cX2_perform 107 = .ok (.iload_n 3, 1) := by decide +kernel
theorem dX2_perform_108 : decode cX2_perform 108 = .ok (.invokevirtual 29, 3) := by decide +kernel
theorem dX2_perform_111 : decode cX2_perform 111 = .ok (.ireturn, 1) := by decide +kernel
theorem dX2_perform_112 : decode cX2_perform 112 = .ok (.aload_n 0, 1) := by decide +kernel
theorem dX2_perform_113 : decode cX2_perform 113 = .ok (.iload_n 2, 1) := by decide +kernel
theorem dX2_perform_114 : decode cX2_perform 114 = .ok (.aload_n 0, 1) := by decide +kernel
theorem dX2_perform_115 : decode cX2_perform 115 = .ok (.getfield 9, 3) := by decide +kernel
theorem dX2_perform_118 : decode cX2_perform 118 = .ok (.getfield 33, 3) := by decide +kernel
theorem dX2_perform_121 : decode cX2_perform 121 = .ok (.iload_n 3, 1) := by decide +kernel
theorem dX2_perform_122 : decode cX2_perform 122 = .ok (.iaload, 1) := by decide +kernel
theorem dX2_perform_123 : decode cX2_perform 123 = .ok (.aload_n 0, 1) := by decide +kernel
theorem dX2_perform_124 : decode cX2_perform 124 = .ok (.getfield 9, 3) := by decide +kernel
theorem dX2_perform_127 : decode cX2_perform 127 = .ok (.getfield 36, 3) := by decide +kernel
theorem dX2_perform_130 : decode cX2_perform 130 = .ok (.iload_n 3, 1) := by decide +kernel
theorem dX2_perform_131 : decode cX2_perform 131 = .ok (.iaload, 1) := by decide +kernel
theorem dX2_perform_132 : decode cX2_perform 132 = .ok (.invokevirtual 29, 3) := by decide +kernel
theorem dX2_perform_135 : decode cX2_perform 135 = .ok (.ireturn, 1) := by decide +kernel
theorem dX2_perform_136 : decode cX2_perform 136 = .ok (.aload_n 0, 1) := by decide +kernel
theorem dX2_perform_137 : decode cX2_perform 137 = .ok (.iload_n 2, 1) := by decide +kernel
theorem dX2_perform_138 : decode cX2_perform 138 = .ok (.iconst 1, 1) := by decide +kernel
theorem dX2_perform_139 : decode cX2_perform 139 = .ok (.iconst 0, 1) := by decide +kernel
theorem dX2_perform_140 : decode cX2_perform 140 = .ok (.invokevirtual 29, 3) := by decide +kernel
theorem dX2_perform_143 : decode cX2_perform 143 = .ok (.ireturn, 1) := by decide +kernel
theorem dX2_perform_144 : decode cX2_perform 144 = .ok (.aload_n 0, 1) := by decide +kernel
theorem dX2_perform_145 : decode cX2_perform 145 = .ok (.iload_n 2, 1) := by decide +kernel
theorem dX2_perform_146 : decode cX2_perform 146 = .ok (.iload_n 3, 1) := by decide +kernel
theorem dX2_perform_147 : decode cX2_perform 147 = .ok (.iconst 3, 1) := by decide +kernel
theorem dX2_perform_148 : decode cX2_perform 148 = .ok (.invokevirtual 39, 3) := by decide +kernel
theorem dX2_perform_151 : decode cX2_perform 151 = .ok (.ireturn, 1) := by decide +kernel
theorem dX2_perform_152 : decode cX2_perform 152 = .ok (.aload_n 0, 1) := by decide +kernel
theorem dX2_perform_153 : decode cX2_perform 153 = .ok (.iload_n 2, 1) := by decide +kernel
theorem dX2_perform_154 : decode cX2_perform 154 = .ok (.iload_n 3, 1) := by decide +kernel
theorem dX2_perform_155 : decode cX2_perform 155 = .ok (.iconst 4, 1) := by decide +kernel
theorem dX2_perform_156 : decode cX2_perform 156 = .ok (.invokevirtual 39, 3) := by decide +kernel
theorem dX2_perform_159 : decode cX2_perform 159 = .ok (.ireturn, 1) := by decide +kernel
theorem dX2_perform_160 : decode cX2_perform 160 = .ok (.aload_n 0, 1) := by decide +kernel
theorem dX2_perform_161 : decode cX2_perform 161 = .ok (.iload_n 3, 1) := by decide +kernel
theorem dX2_perform_162 : decode cX2_perform 162 = .ok (.invokevirtual 42, 3) := by decide +kernel
theorem dX2_perform_165 : decode cX2_perform 165 = .ok (.ifCond .eq 17, 3) := by decide +kernel
theorem dX2_perform_168 : decode cX2_perform 168 = .ok (.aload_n 0, 1) := by decide +kernel
theorem dX2_perform_169 : decode cX2_perform 169 = .ok (.iload_n 2, 1) := by decide +kernel
theorem dX2_perform_170 : decode cX2_perform 170 = .ok (.aload_n 0, 1) := by decide +kernel
theorem dX2_perform_171 : decode cX2_perform 171 = .ok (.iload_n 3, 1) := by decide +kernel
theorem dX2_perform_172 : decode cX2_perform 172 = .ok (.invokevirtual 46, 3) := by decide +kernel
theorem dX2_perform_175 : decode cX2_perform 175 = .ok (.iconst 3, 1) := by decide +kernel
theorem dX2_perform_176 : decode cX2_perform 176 = .ok (.invokevirtual 39, 3) := by decide +kernel
theorem dX2_perform_179 : decode cX2_perform 179 = .ok (.goto 4, 3) := by decide +kernel
theorem dX2_perform_182 : decode cX2_perform 182 = .ok (.iconst 1, 1) := by decide +kernel
theorem dX2_perform_183 : decode cX2_perform 183 = .ok (.ireturn, 1) := by decide +kernel
theorem dX2_perform_184 : decode cX2_perform 184 = .ok (.aload_n 0, 1) := by decide +kernel
theorem dX2_perform_185 : decode cX2_perform 185 = .ok (.iload_n 3, 1) := by decide +kernel
theorem dX2_perform_186 : decode cX2_perform 186 = .ok (.invokevirtual 42, 3) := by decide +kernel
theorem dX2_perform_189 : decode cX2_perform 189 = .ok (.ifCond .eq 17, 3) := by decide +kernel
theorem dX2_perform_192 : decode cX2_perform 192 = .ok (.aload_n 0, 1) := by decide +kernel
theorem dX2_perform_193 : decode cX2_perform 193 = .ok (.iload_n 2, 1) := by decide +kernel
theorem dX2_perform_194 : decode cX2_perform 194 = .ok (.aload_n 0, 1) := by decide +kernel
theorem dX2_perform_195 : decode cX2_perform 195 = .ok (.iload_n 3, 1) := by decide +kernel
theorem dX2_perform_196 : decode cX2_perform 196 = .ok (.invokevirtual 46, 3) := by decide +kernel
theorem dX2_perform_199 : decode cX2_perform 199 = .ok (.iconst 4, 1) := by decide +kernel
theorem dX2_perform_200 : decode cX2_perform 200 = .ok (.invokevirtual 39, 3) := by decide +kernel
theorem dX2_perform_203 : decode cX2_perform 203 = .ok (.goto 4, 3) := by decide +kernel
theorem dX2_perform_206 : decode cX2_perform 206 = .ok (.iconst 1, 1) := by decide +kernel
theorem dX2_perform_207 : decode cX2_perform 207 = .ok (.ireturn, 1) := by decide +kernel
theorem dX2_perform_208 : decode cX2_perform 208 = .ok (.aload_n 0, 1) := by decide +kernel
theorem dX2_perform_209 : decode cX2_perform 209 = .ok (.iload_n 2, 1) := by decide +kernel
theorem dX2_perform_210 : decode cX2_perform 210 = .ok (.iload_n 3, 1) := by decide +kernel
theorem dX2_perform_211 : decode cX2_perform 211 = .ok (.iload 4, 2) := by decide +kernel
theorem dX2_perform_213 : decode cX2_perform 213 = .ok (.invokevirtual 50, 3) := by decide +kernel
theorem dX2_perform_216 : decode cX2_perform 216 = .ok (.ireturn, 1) := by decide +kernel
theorem dX2_perform_217 : decode cX2_perform 217 = .ok (.aload_n 0, 1) := by decide +kernel
theorem dX2_perform_218 : decode cX2_perform 218 = .ok (.iload 4, 2) := by decide +kernel
theorem dX2_perform_220 : decode cX2_perform 220 = .ok (.invokevirtual 42, 3) := by decide +kernel
theorem dX2_perform_223 : decode cX2_perform 223 = .ok (.ifCond .eq 18, 3) := by decide +kernel
theorem dX2_perform_226 : decode cX2_perform 226 = .ok (.aload_n 0, 1) := by decide +kernel
theorem dX2_perform_227 : decode cX2_perform 227 = .ok (.iload_n 2, 1) := by decide +kernel
theorem dX2_perform_228 : decode cX2_perform 228 = .ok (.iload_n 3, 1) := by decide +kernel
theorem dX2_perform_229 : decode cX2_perform 229 = .ok (.aload_n 0, 1) := by decide +kernel
theorem dX2_perform_230 : decode cX2_perform 230 = .ok (.iload 4, 2) := by decide +kernel
theorem dX2_perform_232 : decode cX2_perform 232 = .ok (.invokevirtual 46, 3) := by decide +kernel
theorem dX2_perform_235 : decode cX2_perform 235 = .ok (.invokevirtual 50, 3) := by decide +kernel
theorem dX2_perform_238 : decode cX2_perform 238 = .ok (.goto 4, 3) := by decide +kernel
theorem dX2_perform_241 : decode cX2_perform 241 = .ok (.iconst 1, 1) := by decide +kernel
theorem dX2_perform_242 : decode cX2_perform 242 = .ok (.ireturn, 1) := by decide +kernel
theorem dX2_perform_243 : decode cX2_perform 243 = .ok (.aload_n 0, 1) := by decide +kernel
theorem dX2_perform_244 : decode cX2_perform 244 = .ok (.iload_n 2, 1) := by decide +kernel
theorem dX2_perform_245 : decode cX2_perform 245 = .ok (.iload_n 3, 1) := by decide +kernel
theorem dX2_perform_246 : decode cX2_perform 246 = .ok (.iload 4, 2) := by decide +kernel
theorem dX2_perform_248 : decode cX2_perform 248 = .ok (.invokevirtual 53, 3) := by decide +kernel
theorem dX2_perform_251 : decode cX2_perform 251 = .ok (.ireturn, 1) := by decide +kernel
theorem dX2_perform_252 : decode cX2_perform 252 = .ok (.aload_n 0, 1) := by decide +kernel
theorem dX2_perform_253 : decode cX2_perform 253 = .ok (.iload_n 3, 1) := by decide +kernel
theorem dX2_perform_254 : decode cX2_perform 254 = .ok (.invokevirtual 42, 3) := by decide +kernel
theorem dX2_perform_257 : decode cX2_perform 257 = .ok (.ifCond .eq 18, 3) := by decide +kernel
theorem dX2_perform_260 : decode cX2_perform 260 = .ok (.aload_n 0, 1) := by decide +kernel
theorem dX2_perform_261 : decode cX2_perform 261 = .ok (.iload_n 2, 1) := by decide +kernel
theorem dX2_perform_262 : decode cX2_perform 262 = .ok (.aload_n 0, 1) := by decide +kernel
theorem dX2_perform_263 : decode cX2_perform 263 = .ok (.iload_n 3, 1) := by decide +kernel
theorem dX2_perform_264 : decode cX2_perform 264 = .ok (.invokevirtual 46, 3) := by decide +kernel
theorem dX2_perform_267 : decode cX2_perform 267 = .ok (.iload 4, 2) := by decide +kernel
theorem dX2_perform_269 : decode cX2_perform 269 = .ok (.invokevirtual 53, 3) := by decide +kernel
theorem dX2_perform_272 : decode cX2_perform 272 = .ok (.goto 4, 3) := by decide +kernel
theorem dX2_perform_275 : decode cX2_perform 275 = .ok (.iconst 1, 1) := by decide +kernel
theorem dX2_perform_276 : decode cX2_perform 276 = .ok (.ireturn, 1) := by decide +kernel
theorem dX2_perform_277 : decode cX2_perform 277 = .ok (.aload_n 0, 1) := by decide +kernel
theorem dX2_perform_278 : decode cX2_perform 278 = .ok (.iload_n 3, 1) := by decide +kernel
theorem dX2_perform_279 : decode cX2_perform 279 = .ok (.invokevirtual 56, 3) := by decide +kernel
theorem dX2_perform_282 : decode cX2_perform 282 = .ok (.ifCond .eq 28, 3) := by decide +kernel
theorem dX2_perform_285 : decode cX2_perform 285 = .ok (.aload_n 0, 1) := by decide +kernel
theorem dX2_perform_286 : decode cX2_perform 286 = .ok (.iload_n 2, 1) := by decide +kernel
theorem dX2_perform_287 : decode cX2_perform 287 = .ok (.iconst 0, 1) := by decide +kernel
theorem dX2_perform_288 : decode cX2_perform 288 = .ok (.aload_n 0, 1) := by decide +kernel
theorem dX2_perform_289 : decode cX2_perform 289 = .ok (.getfield 9, 3) := by decide +kernel
theorem dX2_perform_292 : decode cX2_perform 292 = .ok (.aload_n 0, 1) := by decide +kernel
theorem dX2_perform_293 : decode cX2_perform 293 = .ok (.getfield 9, 3) := by decide +kernel
theorem dX2_perform_296 : decode cX2_perform 296 = .ok (.getfield 36, 3) := by decide +kernel
theorem dX2_perform_299 : decode cX2_perform 299 = .ok (.iload_n 3, 1) := by decide +kernel
theorem dX2_perform_300 : decode cX2_perform 300 = .ok (.iaload, 1) := by decide +kernel
theorem dX2_perform_301 : decode cX2_perform 301 = .ok (.invokevirtual 59, 3) := by decide +kernel
theorem dX2_perform_304 : decode cX2_perform 304 = .ok (.invokevirtual 29, 3) := by decide +kernel
theorem dX2_perform_307 : decode cX2_perform 307 = .ok (.goto 4, 3) := by decide +kernel
theorem dX2_perform_310 : decode cX2_perform 310 = .ok (.iconst 2, 1) := by decide +kernel
theorem dX2_perform_311 : decode cX2_perform 311 = .ok (.ireturn, 1) := by decide +kernel
theorem dX2_perform_312 : decode cX2_perform 312 = .ok (.aload_n 0, 1) := by decide +kernel
theorem dX2_perform_313 : decode cX2_perform 313 = .ok (.iload_n 2, 1) := by decide +kernel
theorem dX2_perform_314 : decode cX2_perform 314 = .ok (.iconst 0, 1) := by decide +kernel
theorem dX2_perform_315 : decode cX2_perform 315 = .ok (.aload_n 0, 1) := by decide +kernel
theorem dX2_perform_316 : decode cX2_perform 316 = .ok (.getfield 9, 3) := by decide +kernel
theorem dX2_perform_319 : decode cX2_perform 319 = .ok (.aload_n 0, 1) := by decide +kernel
theorem dX2_perform_320 : decode cX2_perform 320 = .ok (.getfield 9, 3) := by decide +kernel
theorem dX2_perform_323 : decode cX2_perform 323 = .ok (.getfield 33, 3) := by decide +kernel
theorem dX2_perform_326 : decode cX2_perform 326 = .ok (.iload_n 3, 1) := by decide +kernel
theorem dX2_perform_327 : decode cX2_perform 327 = .ok (.iaload, 1) := by decide +kernel
theorem dX2_perform_328 : decode cX2_perform 328 = .ok (.aload_n 0, 1) := by decide +kernel
theorem dX2_perform_329 : decode cX2_perform 329 = .ok (.getfield 9, 3) := by decide +kernel
theorem dX2_perform_332 : decode cX2_perform 332 = .ok (.getfield 36, 3) := by decide +kernel
theorem dX2_perform_335 : decode cX2_perform 335 = .ok (.iload_n 3, 1) := by decide +kernel
theorem dX2_perform_336 : decode cX2_perform 336 = .ok (.iaload, 1) := by decide +kernel
theorem dX2_perform_337 : decode cX2_perform 337 = .ok (.invokevirtual 62, 3) := by decide +kernel
theorem dX2_perform_340 : decode cX2_perform 340 = .ok (.invokevirtual 29, 3) := by decide +kernel
theorem dX2_perform_343 : decode cX2_perform 343 = .ok (.ireturn, 1) := by decide +kernel
theorem dX2_perform_344 : decode cX2_perform 344 = .ok (.aload_n 0, 1) := by decide +kernel
theorem dX2_perform_345 : decode cX2_perform 345 = .ok (.iload_n 3, 1) := by decide +kernel
theorem dX2_perform_346 : decode cX2_perform 346 = .ok (.invokevirtual 42, 3) := by decide +kernel
theorem dX2_perform_349 : decode cX2_perform 349 = .ok (.ifCond .eq 29, 3) := by decide +kernel
theorem dX2_perform_352 : decode cX2_perform 352 = .ok (.aload_n 0, 1) := by decide +kernel
theorem dX2_perform_353 : decode cX2_perform 353 = .ok (.iload 4, 2) := by decide +kernel
theorem dX2_perform_355 : decode cX2_perform 355 = .ok (.invokevirtual 42, 3) := by decide +kernel
theorem dX2_perform_358 : decode cX2_perform 358 = .ok (.ifCond .eq 20, 3) := by decide +kernel
theorem dX2_perform_361 : decode cX2_perform 361 = .ok (.aload_n 0, 1) := by decide +kernel
theorem dX2_perform_362 : decode cX2_perform 362 = .ok (.iload_n 2, 1) := by decide +kernel
theorem dX2_perform_363 : decode cX2_perform 363 = .ok (.iconst 0, 1) := by decide +kernel
theorem dX2_perform_364 : decode cX2_perform 364 = .ok (.aload_n 0, 1) := by decide +kernel
theorem dX2_perform_365 : decode cX2_perform 365 = .ok (.aload_n 1, 1) := by decide +kernel
theorem dX2_perform_366 : decode cX2_perform 366 = .ok (.iload_n 3, 1) := by decide +kernel
theorem dX2_perform_367 : decode cX2_perform 367 = .ok (.iload 4, 2) := by decide +kernel
theorem dX2_perform_369 : decode cX2_perform 369 = .ok (.invokevirtual 66, 3) := by decide +kernel
theorem dX2_perform_372 : decode cX2_perform 372 = .ok (.invokevirtual 29, 3) := by decide +kernel
theorem dX2_perform_375 : decode cX2_perform 375 = .ok (.goto 4, 3) := by decide +kernel
theorem dX2_perform_378 : decode cX2_perform 378 = .ok (.iconst 1, 1) := by decide +kernel
theorem dX2_perform_379 : decode cX2_perform 379 = .ok (.ireturn, 1) := by decide +kernel
theorem dX2_perform_380 : decode cX2_perform 380 = .ok (.aload_n 0, 1) := by decide +kernel
theorem dX2_perform_381 : decode cX2_perform 381 = .ok (.iload_n 2, 1) := by decide +kernel
theorem dX2_perform_382 : decode cX2_perform 382 = .ok (.iconst 0, 1) := by decide +kernel
theorem dX2_perform_383 : decode cX2_perform 383 = .ok (.aload_n 0, 1) := by decide +kernel
theorem dX2_perform_384 : decode cX2_perform 384 = .ok (.iload_n 3, 1) := by decide +kernel
theorem dX2_perform_385 : decode cX2_perform 385 = .ok (.iload 4, 2) := by decide +kernel
theorem dX2_perform_387 : decode cX2_perform 387 = .ok (.invokevirtual 70, 3) := by decide +kernel
theorem dX2_perform_390 : decode cX2_perform 390 = .ok (.ifCond .eq 7, 3) := by decide +kernel
theorem dX2_perform_393 : decode cX2_perform 393 = .ok (.iconst 1, 1) := by decide +kernel
theorem dX2_perform_394 : decode cX2_perform 394 = .ok (.goto 4, 3) := by decide +kernel
theorem dX2_perform_397 : decode cX2_perform 397 = .ok (.iconst 0, 1) := by decide +kernel
theorem dX2_perform_398 : decode cX2_perform 398 = .ok (.invokevirtual 29, 3) := by decide +kernel
theorem dX2_perform_401 : decode cX2_perform 401 = .ok (.ireturn, 1) := by decide +kernel
theorem dX2_perform_402 : decode cX2_perform 402 = .ok (.aload_n 0, 1) := by decide +kernel
theorem dX2_perform_403 : decode cX2_perform 403 = .ok (.iload_n 2, 1) := by decide +kernel
theorem dX2_perform_404 : decode cX2_perform 404 = .ok (.invokevirtual 74, 3) := by decide +kernel
theorem dX2_perform_407 : decode cX2_perform 407 = .ok (.ireturn, 1) := by decide +kernel
theorem dX2_perform_408 : decode cX2_perform 408 = .ok (.aload_n 0, 1) := by decide +kernel
theorem dX2_perform_409 : decode cX2_perform 409 = .ok (.iload_n 2, 1) := by decide +kernel
theorem dX2_perform_410 : decode cX2_perform 410 = .ok (.invokevirtual 77, 3) := by decide +kernel
theorem dX2_perform_413 : decode cX2_perform 413 = .ok (.ireturn, 1) := by decide +kernel
theorem dX2_perform_414 : decode cX2_perform 414 = .ok (.iconst 0, 1) := by decide +kernel
theorem dX2_perform_415 : decode cX2_perform 415 = .ok (.ireturn, 1) := by decide +kernel
theorem dX2_hasNumber_0 : decode cX2_hasNumber 0 = .ok (.aload_n 0, 1) := by decide +kernel
theorem dX2_hasNumber_1 : decode cX2_hasNumber 1 = .ok (.getfield 9, 3) := by decide +kernel
theorem dX2_hasNumber_4 : decode cX2_hasNumber 4 = .ok (.getfield 33, 3) := by decide +kernel
theorem dX2_hasNumber_7 : decode cX2_hasNumber 7 = .ok (.iload_n 1, 1) := by decide +kernel
theorem dX2_hasNumber_8 : decode cX2_hasNumber 8 = .ok (.iaload, 1) := by decide +kernel
theorem dX2_hasNumber_9 : decode cX2_hasNumber 9 = .ok (.ifCond .ne 7, 3) := by decide +kernel
theorem dX2_hasNumber_12 : decode cX2_hasNumber 12 = .ok (.iconst 1, 1) := by decide +kernel
theorem dX2_hasNumber_13 : decode cX2_hasNumber 13 = .ok (.goto 4, 3) := by decide +kernel
theorem dX2_hasNumber_16 : decode cX2_hasNumber 16 = .ok (.iconst 0, 1) := by decide +kernel
theorem dX2_hasNumber_17 : decode cX2_hasNumber 17 = .ok (.ireturn, 1) := by decide +kernel
theorem dX2_number_0 : decode cX2_number 0 = .ok (.aload_n 0, 1) := by decide +kernel
theorem dX2_number_1 : decode cX2_number 1 = .ok (.getfield 9, 3) := by decide +kernel
theorem dX2_number_4 : decode cX2_number 4 = .ok (.getfield 36, 3) := by decide +kernel
theorem dX2_number_7 : decode cX2_number 7 = .ok (.iload_n 1, 1) := by decide +kernel
theorem dX2_number_8 : decode cX2_number 8 = .ok (.iaload, 1) := by decide +kernel
theorem dX2_number_9 : decode cX2_number 9 = .ok (.ireturn, 1) := by decide +kernel
theorem dX2_hasThing_0 : decode cX2_hasThing 0 = .ok (.aload_n 0, 1) := by decide +kernel
theorem dX2_hasThing_1 : decode cX2_hasThing 1 = .ok (.getfield 9, 3) := by decide +kernel
theorem dX2_hasThing_4 : decode cX2_hasThing 4 = .ok (.getfield 33, 3) := by decide +kernel
theorem dX2_hasThing_7 : decode cX2_hasThing 7 = .ok (.iload_n 1, 1) := by decide +kernel
theorem dX2_hasThing_8 : decode cX2_hasThing 8 = .ok (.iaload, 1) := by decide +kernel
theorem dX2_hasThing_9 : decode cX2_hasThing 9 = .ok (.iconst 2, 1) := by decide +kernel
theorem dX2_hasThing_10 : decode cX2_hasThing 10 = .ok (.if_icmp .ne 7, 3) := by decide +kernel
theorem dX2_hasThing_13 : decode cX2_hasThing 13 = .ok (.iconst 1, 1) := by decide +kernel
theorem dX2_hasThing_14 : decode cX2_hasThing 14 = .ok (.goto 4, 3) := by decide +kernel
theorem dX2_hasThing_17 : decode cX2_hasThing 17 = .ok (.iconst 0, 1) := by decide +kernel
theorem dX2_hasThing_18 : decode cX2_hasThing 18 = .ok (.ireturn, 1) := by decide +kernel
theorem dX2_give_0 : decode cX2_give 0 = .ok (.aload_n 0, 1) := by decide +kernel
theorem dX2_give_1 : decode cX2_give 1 = .ok (.getfield 9, 3) := by decide +kernel
theorem dX2_give_4 : decode cX2_give 4 = .ok (.getfield 33, 3) := by decide +kernel
theorem dX2_give_7 : decode cX2_give 7 = .ok (.iload_n 1, 1) := by decide +kernel
theorem dX2_give_8 : decode cX2_give 8 = .ok (.iload_n 2, 1) := by decide +kernel
theorem dX2_give_9 : decode cX2_give 9 = .ok (.iastore, 1) := by decide +kernel
theorem dX2_give_10 : decode cX2_give 10 = .ok (.aload_n 0, 1) := by decide +kernel
theorem dX2_give_11 : decode cX2_give 11 = .ok (.getfield 9, 3) := by decide +kernel
theorem dX2_give_14 : decode cX2_give 14 = .ok (.getfield 36, 3) := by decide +kernel
theorem dX2_give_17 : decode cX2_give 17 = .ok (.iload_n 1, 1) := by decide +kernel
theorem dX2_give_18 : decode cX2_give 18 = .ok (.iload_n 3, 1) := by decide +kernel
theorem dX2_give_19 : decode cX2_give 19 = .ok (.iastore, 1) := by decide +kernel
theorem dX2_give_20 : decode cX2_give 20 = .ok (.iconst 0, 1) := by decide +kernel
theorem dX2_give_21 : decode cX2_give 21 = .ok (.ireturn, 1) := by decide +kernel
theorem dX2_makeThing_0 : decode cX2_makeThing 0 = .ok (.iload_n 2, 1) := by decide +kernel
theorem dX2_makeThing_1 : decode cX2_makeThing 1 = .ok (.ifCond .lt 9, 3) := by decide +kernel
theorem dX2_makeThing_4 : decode cX2_makeThing 4 = .ok (.iload_n 2, 1) := by decide +kernel
theorem dX2_makeThing_5 : decode cX2_makeThing 5 = .ok (.bipush 40, 2) := by decide +kernel
theorem dX2_makeThing_7 : decode cX2_makeThing 7 = .ok (.if_icmp .le 5, 3) := by decide +kernel
theorem dX2_makeThing_10 : decode cX2_makeThing 10 = .ok (.iconst 4, 1) := by decide +kernel
theorem dX2_makeThing_11 : decode cX2_makeThing 11 = .ok (.ireturn, 1) := by decide +kernel
theorem dX2_makeThing_12 : decode cX2_makeThing 12 = .ok (.aload_n 0, 1) := by decide +kernel
theorem dX2_makeThing_13 : decode cX2_makeThing 13 = .ok (.getfield 9, 3) := by decide +kernel
theorem dX2_makeThing_16 : decode cX2_makeThing 16 = .ok (.iload_n 2, 1) := by decide +kernel
theorem dX2_makeThing_17 : decode cX2_makeThing 17 = .ok (.iconst 2, 1) := by decide +kernel
theorem dX2_makeThing_18 : decode cX2_makeThing 18 = .ok (.iadd, 1) := by decide +kernel
theorem dX2_makeThing_19 : decode cX2_makeThing 19 = .ok (.invokevirtual 80, 3) := by decide +kernel
theorem dX2_makeThing_22 : decode cX2_makeThing 22 = .ok (.istore 4, 2) := by decide +kernel
theorem dX2_makeThing_24 : decode cX2_makeThing 24 = .ok (.iload 4, 2) := by decide +kernel
theorem dX2_makeThing_26 : decode cX2_makeThing 26 = .ok (.ifCond .eq 8, 3) := by decide +kernel
theorem dX2_makeThing_29 : decode cX2_makeThing 29 = .ok (.iload 4, 2) := by decide +kernel
theorem dX2_makeThing_31 : decode cX2_makeThing 31 = .ok (.goto 18, 3) := by decide +kernel
theorem dX2_makeThing_34 : decode cX2_makeThing 34 = .ok (.aload_n 0, 1) := by decide +kernel
theorem dX2_makeThing_35 : decode cX2_makeThing 35 = .ok (.iload_n 1, 1) := by decide +kernel
theorem dX2_makeThing_36 : decode cX2_makeThing 36 = .ok (.iconst 2, 1) := by decide +kernel
theorem dX2_makeThing_37 : decode cX2_makeThing 37 = .ok (.aload_n 0, 1) := by decide +kernel
theorem dX2_makeThing_38 : decode cX2_makeThing 38 = .ok (.getfield 9, 3) := by decide +kernel
theorem dX2_makeThing_41 : decode cX2_makeThing 41 = .ok (.iload_n 2, 1) := by decide +kernel
theorem dX2_makeThing_42 : decode cX2_makeThing 42 = .ok (.iload_n 3, 1) := by decide +kernel
theorem dX2_makeThing_43 : decode cX2_makeThing 43 = .ok (.invokevirtual 83, 3) := by decide +kernel
theorem dX2_makeThing_46 : decode cX2_makeThing 46 = .ok (.invokevirtual 29, 3) := by decide +kernel
theorem dX2_makeThing_49 : decode cX2_makeThing 49 = .ok (.ireturn, 1) := by decide +kernel
theorem dX2_readSlot_0 : decode cX2_readSlot 0 = .ok (.aload_n 0, 1) := by decide +kernel
theorem dX2_readSlot_1 : decode cX2_readSlot 1 = .ok (.iload_n 2, 1) := by decide +kernel
theorem dX2_readSlot_2 : decode cX2_readSlot 2 = .ok (.invokevirtual 56, 3) := by decide +kernel
theorem dX2_readSlot_5 : decode cX2_readSlot 5 = .ok (.ifCond .ne 5, 3) := by decide +kernel
theorem dX2_readSlot_8 : decode cX2_readSlot 8 = .ok (.iconst 2, 1) := by decide +kernel
theorem dX2_readSlot_9 : decode cX2_readSlot 9 = .ok (.ireturn, 1) := by decide +kernel
theorem dX2_readSlot_10 : decode cX2_readSlot 10 = .ok (.aload_n 0, 1) := by decide +kernel
theorem dX2_readSlot_11 : decode cX2_readSlot 11 = .ok (.getfield 9, 3) := by decide +kernel
theorem dX2_readSlot_14 : decode cX2_readSlot 14 = .ok (.iload_n 2, 1) := by decide +kernel
theorem dX2_readSlot_15 : decode cX2_readSlot 15 = .ok (.iload_n 3, 1) := by decide +kernel
theorem dX2_readSlot_16 : decode cX2_readSlot 16 = .ok (.invokevirtual 86, 3) := by decide +kernel
theorem dX2_readSlot_19 : decode cX2_readSlot 19 = .ok (.istore 4, 2) := by decide +kernel
theorem dX2_readSlot_21 : decode cX2_readSlot 21 = .ok (.iload 4, 2) := by decide +kernel
theorem dX2_readSlot_23 : decode cX2_readSlot 23 = .ok (.iconst (-1), 1) := by decide +kernel
theorem dX2_readSlot_24 : decode cX2_readSlot 24 = .ok (.if_icmp .ne 5, 3) := by decide +kernel
theorem dX2_readSlot_27 : decode cX2_readSlot 27 = .ok (.iconst 3, 1) := by decide +kernel
theorem dX2_readSlot_28 : decode cX2_readSlot 28 = .ok (.ireturn, 1) := by decide +kernel
theorem dX2_readSlot_29 : decode cX2_readSlot 29 = .ok (.aload_n 0, 1) := by decide +kernel
theorem dX2_readSlot_30 : decode cX2_readSlot 30 = .ok (.getfield 9, 3) := by decide +kernel
theorem dX2_readSlot_33 : decode cX2_readSlot 33 = .ok (.aload_n 0, 1) := by decide +kernel
theorem dX2_readSlot_34 : decode cX2_readSlot 34 = .ok (.getfield 9, 3) := by decide +kernel
theorem dX2_readSlot_37 : decode cX2_readSlot 37 = .ok (.getfield 89, 3) := by decide +kernel
theorem dX2_readSlot_40 : decode cX2_readSlot 40 = .ok (.aload_n 0, 1) := by decide +kernel
theorem dX2_readSlot_41 : decode cX2_readSlot 41 = .ok (.getfield 9, 3) := by decide +kernel
theorem dX2_readSlot_44 : decode cX2_readSlot 44 = .ok (.getfield 92, 3) := by decide +kernel
theorem dX2_readSlot_47 : decode cX2_readSlot 47 = .ok (.iload 4, 2) := by decide +kernel
theorem dX2_readSlot_49 : decode cX2_readSlot 49 = .ok (.invokevirtual 95, 3) := by decide +kernel
theorem dX2_readSlot_52 : decode cX2_readSlot 52 = .ok (.istore 5, 2) := by decide +kernel
theorem dX2_readSlot_54 : decode cX2_readSlot 54 = .ok (.iload 5, 2) := by decide +kernel
theorem dX2_readSlot_56 : decode cX2_readSlot 56 = .ok (.ifCond .eq 31, 3) := by decide +kernel
theorem dX2_readSlot_59 : decode cX2_readSlot 59 = .ok (.aload_n 0, 1) := by decide +kernel
theorem dX2_readSlot_60 : decode cX2_readSlot 60 = .ok (.iload_n 1, 1) := by decide +kernel
theorem dX2_readSlot_61 : decode cX2_readSlot 61 = .ok (.aload_n 0, 1) := by decide +kernel
theorem dX2_readSlot_62 : decode cX2_readSlot 62 = .ok (.getfield 9, 3) := by decide +kernel
theorem dX2_readSlot_65 : decode cX2_readSlot 65 = .ok (.getfield 89, 3) := by decide +kernel
theorem dX2_readSlot_68 : decode cX2_readSlot 68 = .ok (.iload 4, 2) := by decide +kernel
theorem dX2_readSlot_70 : decode cX2_readSlot 70 = .ok (.iaload, 1) := by decide +kernel
theorem dX2_readSlot_71 : decode cX2_readSlot 71 = .ok (.aload_n 0, 1) := by decide +kernel
theorem dX2_readSlot_72 : decode cX2_readSlot 72 = .ok (.getfield 9, 3) := by decide +kernel
theorem dX2_readSlot_75 : decode cX2_readSlot 75 = .ok (.getfield 92, 3) := by decide +kernel
theorem dX2_readSlot_78 : decode cX2_readSlot 78 = .ok (.iload 4, 2) := by decide +kernel
theorem dX2_readSlot_80 : decode cX2_readSlot 80 = .ok (.iaload, 1) := by decide +kernel
theorem dX2_readSlot_81 : decode cX2_readSlot 81 = .ok (.invokevirtual 29, 3) := by decide +kernel
theorem dX2_readSlot_84 : decode cX2_readSlot 84 = .ok (.goto 5, 3) := by decide +kernel
theorem dX2_readSlot_87 : decode cX2_readSlot 87 = .ok (.bipush 8, 2) := by decide +kernel
theorem dX2_readSlot_89 : decode cX2_readSlot 89 = .ok (.ireturn, 1) := by decide +kernel
theorem dX2_writeSlot_0 : decode cX2_writeSlot 0 = .ok (.aload_n 0, 1) := by decide +kernel
theorem dX2_writeSlot_1 : decode cX2_writeSlot 1 = .ok (.iload_n 1, 1) := by decide +kernel
theorem dX2_writeSlot_2 : decode cX2_writeSlot 2 = .ok (.invokevirtual 56, 3) := by decide +kernel
theorem dX2_writeSlot_5 : decode cX2_writeSlot 5 = .ok (.ifCond .ne 5, 3) := by decide +kernel
theorem dX2_writeSlot_8 : decode cX2_writeSlot 8 = .ok (.iconst 2, 1) := by decide +kernel
theorem dX2_writeSlot_9 : decode cX2_writeSlot 9 = .ok (.ireturn, 1) := by decide +kernel
theorem dX2_writeSlot_10 : decode cX2_writeSlot 10 = .ok (.aload_n 0, 1) := by decide +kernel
theorem dX2_writeSlot_11 : decode cX2_writeSlot 11 = .ok (.getfield 9, 3) := by decide +kernel
theorem dX2_writeSlot_14 : decode cX2_writeSlot 14 = .ok (.iload_n 1, 1) := by decide +kernel
theorem dX2_writeSlot_15 : decode cX2_writeSlot 15 = .ok (.iload_n 2, 1) := by decide +kernel
theorem dX2_writeSlot_16 : decode cX2_writeSlot 16 = .ok (.invokevirtual 86, 3) := by decide +kernel
theorem dX2_writeSlot_19 : decode cX2_writeSlot 19 = .ok (.istore 4, 2) := by decide +kernel
theorem dX2_writeSlot_21 : decode cX2_writeSlot 21 = .ok (.iload 4, 2) := by decide +kernel
theorem dX2_writeSlot_23 : decode cX2_writeSlot 23 = .ok (.iconst (-1), 1) := by decide +kernel
theorem dX2_writeSlot_24 : decode cX2_writeSlot 24 = .ok (.if_icmp .ne 5, 3) := by decide +kernel
theorem dX2_writeSlot_27 : decode cX2_writeSlot 27 = .ok (.iconst 3, 1) := by decide +kernel
theorem dX2_writeSlot_28 : decode cX2_writeSlot 28 = .ok (.ireturn, 1) := by decide +kernel
theorem dX2_writeSlot_29 : decode cX2_writeSlot 29 = .ok (.aload_n 0, 1) := by decide +kernel
theorem dX2_writeSlot_30 : decode cX2_writeSlot 30 = .ok (.getfield 9, 3) := by decide +kernel
theorem dX2_writeSlot_33 : decode cX2_writeSlot 33 = .ok (.aload_n 0, 1) := by decide +kernel
theorem dX2_writeSlot_34 : decode cX2_writeSlot 34 = .ok (.getfield 9, 3) := by decide +kernel
theorem dX2_writeSlot_37 : decode cX2_writeSlot 37 = .ok (.getfield 36, 3) := by decide +kernel
theorem dX2_writeSlot_40 : decode cX2_writeSlot 40 = .ok (.iload_n 1, 1) := by decide +kernel
theorem dX2_writeSlot_41 : decode cX2_writeSlot 41 = .ok (.iaload, 1) := by decide +kernel
theorem dX2_writeSlot_42 : decode cX2_writeSlot 42 = .ok (.invokevirtual 99, 3) := by decide +kernel
theorem dX2_writeSlot_45 : decode cX2_writeSlot 45 = .ok (.ifCond .ne 13, 3) := by decide +kernel
theorem dX2_writeSlot_48 : decode cX2_writeSlot 48 = .ok (.aload_n 0, 1) := by decide +kernel
theorem dX2_writeSlot_49 : decode cX2_writeSlot 49 = .ok (.iload_n 3, 1) := by decide +kernel
theorem dX2_writeSlot_50 : decode cX2_writeSlot 50 = .ok (.invokevirtual 42, 3) := by decide +kernel
theorem dX2_writeSlot_53 : decode cX2_writeSlot 53 = .ok (.ifCond .ne 5, 3) := by decide +kernel
theorem dX2_writeSlot_56 : decode cX2_writeSlot 56 = .ok (.iconst 5, 1) := by decide +kernel
theorem dX2_writeSlot_57 : decode cX2_writeSlot 57 = .ok (.ireturn, 1) := by decide +kernel
theorem dX2_writeSlot_58 : decode cX2_writeSlot 58 = .ok (.aload_n 0, 1) := by decide +kernel
theorem dX2_writeSlot_59 : decode cX2_writeSlot 59 = .ok (.getfield 9, 3) := by decide +kernel
theorem dX2_writeSlot_62 : decode cX2_writeSlot 62 = .ok (.getfield 89, 3) := by decide +kernel
theorem dX2_writeSlot_65 : decode cX2_writeSlot 65 = .ok (.iload 4, 2) := by decide +kernel
theorem dX2_writeSlot_67 : decode cX2_writeSlot 67 = .ok (.aload_n 0, 1) := by decide +kernel
theorem dX2_writeSlot_68 : decode cX2_writeSlot 68 = .ok (.getfield 9, 3) := by decide +kernel
theorem dX2_writeSlot_71 : decode cX2_writeSlot 71 = .ok (.getfield 33, 3) := by decide +kernel
theorem dX2_writeSlot_74 : decode cX2_writeSlot 74 = .ok (.iload_n 3, 1) := by decide +kernel
theorem dX2_writeSlot_75 : decode cX2_writeSlot 75 = .ok (.iaload, 1) := by decide +kernel
theorem dX2_writeSlot_76 : decode cX2_writeSlot 76 = .ok (.iastore, 1) := by decide +kernel
theorem dX2_writeSlot_77 : decode cX2_writeSlot 77 = .ok (.aload_n 0, 1) := by decide +kernel
theorem dX2_writeSlot_78 : decode cX2_writeSlot 78 = .ok (.getfield 9, 3) := by decide +kernel
theorem dX2_writeSlot_81 : decode cX2_writeSlot 81 = .ok (.getfield 92, 3) := by decide +kernel
theorem dX2_writeSlot_84 : decode cX2_writeSlot 84 = .ok (.iload 4, 2) := by decide +kernel
theorem dX2_writeSlot_86 : decode cX2_writeSlot 86 = .ok (.aload_n 0, 1) := by decide +kernel
theorem dX2_writeSlot_87 : decode cX2_writeSlot 87 = .ok (.getfield 9, 3) := by decide +kernel
theorem dX2_writeSlot_90 : decode cX2_writeSlot 90 = .ok (.getfield 36, 3) := by decide +kernel
theorem dX2_writeSlot_93 : decode cX2_writeSlot 93 = .ok (.iload_n 3, 1) := by decide +kernel
theorem dX2_writeSlot_94 : decode cX2_writeSlot 94 = .ok (.iaload, 1) := by decide +kernel
theorem dX2_writeSlot_95 : decode cX2_writeSlot 95 = .ok (.iastore, 1) := by decide +kernel
theorem dX2_writeSlot_96 : decode cX2_writeSlot 96 = .ok (.iconst 0, 1) := by decide +kernel
theorem dX2_writeSlot_97 : decode cX2_writeSlot 97 = .ok (.ireturn, 1) := by decide +kernel
theorem dX2_reckon_0 : decode cX2_reckon 0 = .ok (.getstatic 15, 3) := by decide +kernel
theorem dX2_reckon_3 : decode cX2_reckon 3 = .ok (.aload_n 1, 1) := by decide +kernel
theorem dX2_reckon_4 : decode cX2_reckon 4 = .ok (.invokevirtual 21, 3) := by decide +kernel
theorem dX2_reckon_7 : decode cX2_reckon 7 = .ok (.iaload, 1) := by decide +kernel
theorem dX2_reckon_8 : decode cX2_reckon 8 = .ok (.tableswitch 64 14 16 #[28, 40, 52], 28) := by decide +kernel
theorem dX2_reckon_36 : decode cX2_reckon 36 = .ok (.aload_n 0, 1) := by decide +kernel
theorem dX2_reckon_37 : decode cX2_reckon 37 = .ok (.iload_n 2, 1) := by decide +kernel
theorem dX2_reckon_38 : decode cX2_reckon 38 = .ok (.invokevirtual 46, 3) := by decide +kernel
theorem dX2_reckon_41 : decode cX2_reckon 41 = .ok (.aload_n 0, 1) := by decide +kernel
theorem dX2_reckon_42 : decode cX2_reckon 42 = .ok (.iload_n 3, 1) := by decide +kernel
theorem dX2_reckon_43 : decode cX2_reckon 43 = .ok (.invokevirtual 46, 3) := by decide +kernel
theorem dX2_reckon_46 : decode cX2_reckon 46 = .ok (.iadd, 1) := by decide +kernel
theorem dX2_reckon_47 : decode cX2_reckon 47 = .ok (.ireturn, 1) := by decide +kernel
theorem dX2_reckon_48 : decode cX2_reckon 48 = .ok (.aload_n 0, 1) := by decide +kernel
theorem dX2_reckon_49 : decode cX2_reckon 49 = .ok (.iload_n 2, 1) := by decide +kernel
theorem dX2_reckon_50 : decode cX2_reckon 50 = .ok (.invokevirtual 46, 3) := by decide +kernel
theorem dX2_reckon_53 : decode cX2_reckon 53 = .ok (.aload_n 0, 1) := by decide +kernel
theorem dX2_reckon_54 : decode cX2_reckon 54 = .ok (.iload_n 3, 1) := by decide +kernel
theorem dX2_reckon_55 : decode cX2_reckon 55 = .ok (.invokevirtual 46, 3) := by decide +kernel
theorem dX2_reckon_58 : decode cX2_reckon 58 = .ok (.isub, 1) := by decide +kernel
theorem dX2_reckon_59 : decode cX2_reckon 59 = .ok (.ireturn, 1) := by decide +kernel
theorem dX2_reckon_60 : decode cX2_reckon 60 = .ok (.aload_n 0, 1) := by decide +kernel
theorem dX2_reckon_61 : decode cX2_reckon 61 = .ok (.iload_n 2, 1) := by decide +kernel
theorem dX2_reckon_62 : decode cX2_reckon 62 = .ok (.invokevirtual 46, 3) := by decide +kernel
theorem dX2_reckon_65 : decode cX2_reckon 65 = .ok (.aload_n 0, 1) := by decide +kernel
theorem dX2_reckon_66 : decode cX2_reckon 66 = .ok (.iload_n 3, 1) := by decide +kernel
theorem dX2_reckon_67 : decode cX2_reckon 67 = .ok (.invokevirtual 46, 3) := by decide +kernel
theorem dX2_reckon_70 : decode cX2_reckon 70 = .ok (.imul, 1) := by decide +kernel
theorem dX2_reckon_71 : decode cX2_reckon 71 = .ok (.ireturn, 1) := by decide +kernel
theorem dX2_reckon_72 : decode cX2_reckon 72 = .ok (.aload_n 0, 1) := by decide +kernel
theorem dX2_reckon_73 : decode cX2_reckon 73 = .ok (.iload_n 2, 1) := by decide +kernel
theorem dX2_reckon_74 : decode cX2_reckon 74 = .ok (.invokevirtual 46, 3) := by decide +kernel
theorem dX2_reckon_77 : decode cX2_reckon 77 = .ok (.aload_n 0, 1) := by decide +kernel
theorem dX2_reckon_78 : decode cX2_reckon 78 = .ok (.iload_n 3, 1) := by decide +kernel
theorem dX2_reckon_79 : decode cX2_reckon 79 = .ok (.invokevirtual 46, 3) := by decide +kernel
theorem dX2_reckon_82 : decode cX2_reckon 82 = .ok (.if_icmp .ge 7, 3) := by decide +kernel
theorem dX2_reckon_85 : decode cX2_reckon 85 = .ok (.iconst 1, 1) := by decide +kernel
theorem dX2_reckon_86 : decode cX2_reckon 86 = .ok (.goto 4, 3) := by decide +kernel
theorem dX2_reckon_89 : decode cX2_reckon 89 = .ok (.iconst 0, 1) := by decide +kernel
theorem dX2_reckon_90 : decode cX2_reckon 90 = .ok (.ireturn, 1) := by decide +kernel
theorem dX2_haveSame_0 : decode cX2_haveSame 0 = .ok (.aload_n 0, 1) := by decide +kernel
theorem dX2_haveSame_1 : decode cX2_haveSame 1 = .ok (.getfield 9, 3) := by decide +kernel
theorem dX2_haveSame_4 : decode cX2_haveSame 4 = .ok (.getfield 33, 3) := by decide +kernel
theorem dX2_haveSame_7 : decode cX2_haveSame 7 = .ok (.iload_n 1, 1) := by decide +kernel
theorem dX2_haveSame_8 : decode cX2_haveSame 8 = .ok (.iaload, 1) := by decide +kernel
theorem dX2_haveSame_9 : decode cX2_haveSame 9 = .ok (.aload_n 0, 1) := by decide +kernel
theorem dX2_haveSame_10 : decode cX2_haveSame 10 = .ok (.getfield 9, 3) := by decide +kernel
theorem dX2_haveSame_13 : decode cX2_haveSame 13 = .ok (.getfield 33, 3) := by decide +kernel
theorem dX2_haveSame_16 : decode cX2_haveSame 16 = .ok (.iload_n 2, 1) := by decide +kernel
theorem dX2_haveSame_17 : decode cX2_haveSame 17 = .ok (.iaload, 1) := by decide +kernel
theorem dX2_haveSame_18 : decode cX2_haveSame 18 = .ok (.if_icmp .ne 28, 3) := by decide +kernel
theorem dX2_haveSame_21 : decode cX2_haveSame 21 = .ok (.aload_n 0, 1) := by decide +kernel
theorem dX2_haveSame_22 : decode cX2_haveSame 22 = .ok (.getfield 9, 3) := by decide +kernel
theorem dX2_haveSame_25 : decode cX2_haveSame 25 = .ok (.getfield 36, 3) := by decide +kernel
theorem dX2_haveSame_28 : decode cX2_haveSame 28 = .ok (.iload_n 1, 1) := by decide +kernel
theorem dX2_haveSame_29 : decode cX2_haveSame 29 = .ok (.iaload, 1) := by decide +kernel
theorem dX2_haveSame_30 : decode cX2_haveSame 30 = .ok (.aload_n 0, 1) := by decide +kernel
theorem dX2_haveSame_31 : decode cX2_haveSame 31 = .ok (.getfield 9, 3) := by decide +kernel
theorem dX2_haveSame_34 : decode cX2_haveSame 34 = .ok (.getfield 36, 3) := by decide +kernel
theorem dX2_haveSame_37 : decode cX2_haveSame 37 = .ok (.iload_n 2, 1) := by decide +kernel
theorem dX2_haveSame_38 : decode cX2_haveSame 38 = .ok (.iaload, 1) := by decide +kernel
theorem dX2_haveSame_39 : decode cX2_haveSame 39 = .ok (.if_icmp .ne 7, 3) := by decide +kernel
theorem dX2_haveSame_42 : decode cX2_haveSame 42 = .ok (.iconst 1, 1) := by decide +kernel
theorem dX2_haveSame_43 : decode cX2_haveSame 43 = .ok (.goto 4, 3) := by decide +kernel
theorem dX2_haveSame_46 : decode cX2_haveSame 46 = .ok (.iconst 0, 1) := by decide +kernel
theorem dX2_haveSame_47 : decode cX2_haveSame 47 = .ok (.ireturn, 1) := by decide +kernel
theorem dX2_pushHand_0 : decode cX2_pushHand 0 = .ok (.aload_n 0, 1) := by decide +kernel
theorem dX2_pushHand_1 : decode cX2_pushHand 1 = .ok (.getfield 9, 3) := by decide +kernel
theorem dX2_pushHand_4 : decode cX2_pushHand 4 = .ok (.getfield 102, 3) := by decide +kernel
theorem dX2_pushHand_7 : decode cX2_pushHand 7 = .ok (.bipush 50, 2) := by decide +kernel
theorem dX2_pushHand_9 : decode cX2_pushHand 9 = .ok (.if_icmp .lt 6, 3) := by decide +kernel
theorem dX2_pushHand_12 : decode cX2_pushHand 12 = .ok (.bipush 6, 2) := by decide +kernel
theorem dX2_pushHand_14 : decode cX2_pushHand 14 = .ok (.ireturn, 1) := by decide +kernel
theorem dX2_pushHand_15 : decode cX2_pushHand 15 = .ok (.aload_n 0, 1) := by decide +kernel
theorem dX2_pushHand_16 : decode cX2_pushHand 16 = .ok (.getfield 9, 3) := by decide +kernel
theorem dX2_pushHand_19 : decode cX2_pushHand 19 = .ok (.dup, 1) := by decide +kernel
theorem dX2_pushHand_20 : decode cX2_pushHand 20 = .ok (.getfield 102, 3) := by decide +kernel
theorem dX2_pushHand_23 : decode cX2_pushHand 23 = .ok (.iconst 1, 1) := by decide +kernel
theorem dX2_pushHand_24 : decode cX2_pushHand 24 = .ok (.iadd, 1) := by decide +kernel
theorem dX2_pushHand_25 : decode cX2_pushHand 25 = .ok (.putfield 102, 3) := by decide +kernel
theorem dX2_pushHand_28 : decode cX2_pushHand 28 = .ok (.aload_n 0, 1) := by decide +kernel
theorem dX2_pushHand_29 : decode cX2_pushHand 29 = .ok (.aload_n 0, 1) := by decide +kernel
theorem dX2_pushHand_30 : decode cX2_pushHand 30 = .ok (.getfield 9, 3) := by decide +kernel
theorem dX2_pushHand_33 : decode cX2_pushHand 33 = .ok (.invokevirtual 106, 3) := by decide +kernel
theorem dX2_pushHand_36 : decode cX2_pushHand 36 = .ok (.iconst 1, 1) := by decide +kernel
theorem dX2_pushHand_37 : decode cX2_pushHand 37 = .ok (.isub, 1) := by decide +kernel
theorem dX2_pushHand_38 : decode cX2_pushHand 38 = .ok (.aload_n 0, 1) := by decide +kernel
theorem dX2_pushHand_39 : decode cX2_pushHand 39 = .ok (.getfield 9, 3) := by decide +kernel
theorem dX2_pushHand_42 : decode cX2_pushHand 42 = .ok (.getfield 33, 3) := by decide +kernel
theorem dX2_pushHand_45 : decode cX2_pushHand 45 = .ok (.iload_n 1, 1) := by decide +kernel
theorem dX2_pushHand_46 : decode cX2_pushHand 46 = .ok (.iaload, 1) := by decide +kernel
theorem dX2_pushHand_47 : decode cX2_pushHand 47 = .ok (.aload_n 0, 1) := by decide +kernel
theorem dX2_pushHand_48 : decode cX2_pushHand 48 = .ok (.getfield 9, 3) := by decide +kernel
theorem dX2_pushHand_51 : decode cX2_pushHand 51 = .ok (.getfield 36, 3) := by decide +kernel
theorem dX2_pushHand_54 : decode cX2_pushHand 54 = .ok (.iload_n 1, 1) := by decide +kernel
theorem dX2_pushHand_55 : decode cX2_pushHand 55 = .ok (.iaload, 1) := by decide +kernel
theorem dX2_pushHand_56 : decode cX2_pushHand 56 = .ok (.invokevirtual 29, 3) := by decide +kernel
theorem dX2_pushHand_59 : decode cX2_pushHand 59 = .ok (.ireturn, 1) := by decide +kernel
theorem dX2_popHand_0 : decode cX2_popHand 0 = .ok (.aload_n 0, 1) := by decide +kernel
theorem dX2_popHand_1 : decode cX2_popHand 1 = .ok (.getfield 9, 3) := by decide +kernel
theorem dX2_popHand_4 : decode cX2_popHand 4 = .ok (.getfield 102, 3) := by decide +kernel
theorem dX2_popHand_7 : decode cX2_popHand 7 = .ok (.ifCond .gt 6, 3) := by decide +kernel
theorem dX2_popHand_10 : decode cX2_popHand 10 = .ok (.bipush 6, 2) := by decide +kernel
theorem dX2_popHand_12 : decode cX2_popHand 12 = .ok (.ireturn, 1) := by decide +kernel
theorem dX2_popHand_13 : decode cX2_popHand 13 = .ok (.aload_n 0, 1) := by decide +kernel
theorem dX2_popHand_14 : decode cX2_popHand 14 = .ok (.getfield 9, 3) := by decide +kernel
theorem dX2_popHand_17 : decode cX2_popHand 17 = .ok (.invokevirtual 106, 3) := by decide +kernel
theorem dX2_popHand_20 : decode cX2_popHand 20 = .ok (.iconst 1, 1) := by decide +kernel
theorem dX2_popHand_21 : decode cX2_popHand 21 = .ok (.isub, 1) := by decide +kernel
theorem dX2_popHand_22 : decode cX2_popHand 22 = .ok (.istore_n 2, 1) := by decide +kernel
theorem dX2_popHand_23 : decode cX2_popHand 23 = .ok (.aload_n 0, 1) := by decide +kernel
theorem dX2_popHand_24 : decode cX2_popHand 24 = .ok (.getfield 9, 3) := by decide +kernel
theorem dX2_popHand_27 : decode cX2_popHand 27 = .ok (.dup, 1) := by decide +kernel
theorem dX2_popHand_28 : decode cX2_popHand 28 = .ok (.getfield 102, 3) := by decide +kernel
theorem dX2_popHand_31 : decode cX2_popHand 31 = .ok (.iconst 1, 1) := by decide +kernel
theorem dX2_popHand_32 : decode cX2_popHand 32 = .ok (.isub, 1) := by decide +kernel
theorem dX2_popHand_33 : decode cX2_popHand 33 = .ok (.putfield 102, 3) := by decide +kernel
theorem dX2_popHand_36 : decode cX2_popHand 36 = .ok (.aload_n 0, 1) := by decide +kernel
theorem dX2_popHand_37 : decode cX2_popHand 37 = .ok (.iload_n 1, 1) := by decide +kernel
theorem dX2_popHand_38 : decode cX2_popHand 38 = .ok (.aload_n 0, 1) := by decide +kernel
theorem dX2_popHand_39 : decode cX2_popHand 39 = .ok (.getfield 9, 3) := by decide +kernel
theorem dX2_popHand_42 : decode cX2_popHand 42 = .ok (.getfield 33, 3) := by decide +kernel
theorem dX2_popHand_45 : decode cX2_popHand 45 = .ok (.iload_n 2, 1) := by decide +kernel
theorem dX2_popHand_46 : decode cX2_popHand 46 = .ok (.iaload, 1) := by decide +kernel
theorem dX2_popHand_47 : decode cX2_popHand 47 = .ok (.aload_n 0, 1) := by decide +kernel
theorem dX2_popHand_48 : decode cX2_popHand 48 = .ok (.getfield 9, 3) := by decide +kernel
theorem dX2_popHand_51 : decode cX2_popHand 51 = .ok (.getfield 36, 3) := by decide +kernel
theorem dX2_popHand_54 : decode cX2_popHand 54 = .ok (.iload_n 2, 1) := by decide +kernel
theorem dX2_popHand_55 : decode cX2_popHand 55 = .ok (.iaload, 1) := by decide +kernel
theorem dX2_popHand_56 : decode cX2_popHand 56 = .ok (.invokevirtual 29, 3) := by decide +kernel
theorem dX2_popHand_59 : decode cX2_popHand 59 = .ok (.ireturn, 1) := by decide +kernel
theorem dX3_init_0 : decode cX3_init 0 = .ok (.aload_n 0, 1) := by decide +kernel
theorem dX3_init_1 : decode cX3_init 1 = .ok (.invokespecial 3, 3) := by decide +kernel
theorem dX3_init_4 : decode cX3_init 4 = .ok (.aload_n 0, 1) := by decide +kernel
theorem dX3_init_5 : decode cX3_init 5 = .ok (.bipush 58, 2) := by decide +kernel
theorem dX3_init_7 : decode cX3_init 7 = .ok (.newarray .int, 2) := by decide +kernel
theorem dX3_init_9 : decode cX3_init 9 = .ok (.putfield 9, 3) := by decide +kernel
theorem dX3_init_12 : decode cX3_init 12 = .ok (.aload_n 0, 1) := by decide +kernel
theorem dX3_init_13 : decode cX3_init 13 = .ok (.bipush 58, 2) := by decide +kernel
theorem dX3_init_15 : decode cX3_init 15 = .ok (.newarray .int, 2) := by decide +kernel
theorem dX3_init_17 : decode cX3_init 17 = .ok (.putfield 15, 3) := by decide +kernel
theorem dX3_init_20 : decode cX3_init 20 = .ok (.aload_n 0, 1) := by decide +kernel
theorem dX3_init_21 : decode cX3_init 21 = .ok (.bipush 13, 2) := by decide +kernel
theorem dX3_init_23 : decode cX3_init 23 = .ok (.newarray .int, 2) := by decide +kernel
theorem dX3_init_25 : decode cX3_init 25 = .ok (.putfield 18, 3) := by decide +kernel
theorem dX3_init_28 : decode cX3_init 28 = .ok (.aload_n 0, 1) := by decide +kernel
theorem dX3_init_29 : decode cX3_init 29 = .ok (.iload_n 1, 1) := by decide +kernel
theorem dX3_init_30 : decode cX3_init 30 = .ok (.putfield 21, 3) := by decide +kernel
theorem dX3_init_33 : decode cX3_init 33 = .ok (.aload_n 0, 1) := by decide +kernel
theorem dX3_init_34 : decode cX3_init 34 = .ok (.iload_n 2, 1) := by decide +kernel
theorem dX3_init_35 : decode cX3_init 35 = .ok (.putfield 25, 3) := by decide +kernel
theorem dX3_init_38 : decode cX3_init 38 = .ok (.aload_n 0, 1) := by decide +kernel
theorem dX3_init_39 : decode cX3_init 39 = .ok (.iconst 2, 1) := by decide +kernel
theorem dX3_init_40 : decode cX3_init 40 = .ok (.iload_n 1, 1) := by decide +kernel
theorem dX3_init_41 : decode cX3_init 41 = .ok (.imul, 1) := by decide +kernel
theorem dX3_init_42 : decode cX3_init 42 = .ok (.newarray .int, 2) := by decide +kernel
theorem dX3_init_44 : decode cX3_init 44 = .ok (.putfield 28, 3) := by decide +kernel
theorem dX3_init_47 : decode cX3_init 47 = .ok (.aload_n 0, 1) := by decide +kernel
theorem dX3_init_48 : decode cX3_init 48 = .ok (.iconst 2, 1) := by decide +kernel
theorem dX3_init_49 : decode cX3_init 49 = .ok (.iload_n 1, 1) := by decide +kernel
theorem dX3_init_50 : decode cX3_init 50 = .ok (.imul, 1) := by decide +kernel
theorem dX3_init_51 : decode cX3_init 51 = .ok (.newarray .int, 2) := by decide +kernel
theorem dX3_init_53 : decode cX3_init 53 = .ok (.putfield 31, 3) := by decide +kernel
theorem dX3_init_56 : decode cX3_init 56 = .ok (.aload_n 0, 1) := by decide +kernel
theorem dX3_init_57 : decode cX3_init 57 = .ok (.iload_n 1, 1) := by decide +kernel
theorem dX3_init_58 : decode cX3_init 58 = .ok (.putfield 34, 3) := by decide +kernel
theorem dX3_init_61 : decode cX3_init 61 = .ok (.return_, 1) := by decide +kernel
theorem dX3_count_0 : decode cX3_count 0 = .ok (.iload_n 1, 1) := by decide +kernel
theorem dX3_count_1 : decode cX3_count 1 = .ok (.iconst 4, 1) := by decide +kernel
theorem dX3_count_2 : decode cX3_count 2 = .ok (.if_icmp .lt 18, 3) := by decide +kernel
theorem dX3_count_5 : decode cX3_count 5 = .ok (.iload_n 1, 1) := by decide +kernel
theorem dX3_count_6 : decode cX3_count 6 = .ok (.bipush 13, 2) := by decide +kernel
theorem dX3_count_8 : decode cX3_count 8 = .ok (.if_icmp .ge 12, 3) := by decide +kernel
theorem dX3_count_11 : decode cX3_count 11 = .ok (.aload_n 0, 1) := by decide +kernel
theorem dX3_count_12 : decode cX3_count 12 = .ok (.getfield 18, 3) := by decide +kernel
theorem dX3_count_15 : decode cX3_count 15 = .ok (.iload_n 1, 1) := by decide +kernel
theorem dX3_count_16 : decode cX3_count 16 = .ok (.iaload, 1) := by decide +kernel
theorem dX3_count_17 : decode cX3_count 17 = .ok (.goto 4, 3) := by decide +kernel
theorem dX3_count_20 : decode cX3_count 20 = .ok (.iconst (-1), 1) := by decide +kernel
theorem dX3_count_21 : decode cX3_count 21 = .ok (.ireturn, 1) := by decide +kernel
theorem dX3_roots_0 : decode cX3_roots 0 = .ok (.bipush 8, 2) := by decide +kernel
theorem dX3_roots_2 : decode cX3_roots 2 = .ok (.aload_n 0, 1) := by decide +kernel
theorem dX3_roots_3 : decode cX3_roots 3 = .ok (.getfield 37, 3) := by decide +kernel
theorem dX3_roots_6 : decode cX3_roots 6 = .ok (.iadd, 1) := by decide +kernel
theorem dX3_roots_7 : decode cX3_roots 7 = .ok (.ireturn, 1) := by decide +kernel
theorem dX3_home_0 : decode cX3_home 0 = .ok (.aload_n 0, 1) := by decide +kernel
theorem dX3_home_1 : decode cX3_home 1 = .ok (.getfield 28, 3) := by decide +kernel
theorem dX3_home_4 : decode cX3_home 4 = .ok (.iload_n 1, 1) := by decide +kernel
theorem dX3_home_5 : decode cX3_home 5 = .ok (.iaload, 1) := by decide +kernel
theorem dX3_home_6 : decode cX3_home 6 = .ok (.bipush 6, 2) := by decide +kernel
theorem dX3_home_8 : decode cX3_home 8 = .ok (.if_icmp .ne 12, 3) := by decide +kernel
theorem dX3_home_11 : decode cX3_home 11 = .ok (.aload_n 0, 1) := by decide +kernel
theorem dX3_home_12 : decode cX3_home 12 = .ok (.getfield 31, 3) := by decide +kernel
theorem dX3_home_15 : decode cX3_home 15 = .ok (.iload_n 1, 1) := by decide +kernel
theorem dX3_home_16 : decode cX3_home 16 = .ok (.iaload, 1) := by decide +kernel
theorem dX3_home_17 : decode cX3_home 17 = .ok (.goto 4, 3) := by decide +kernel
theorem dX3_home_20 : decode cX3_home 20 = .ok (.iload_n 1, 1) := by decide +kernel
theorem dX3_home_21 : decode cX3_home 21 = .ok (.ireturn, 1) := by decide +kernel
theorem dX3_slotsOf_0 : decode cX3_slotsOf 0 = .ok (.aload_n 0, 1) := by decide +kernel
theorem dX3_slotsOf_1 : decode cX3_slotsOf 1 = .ok (.getfield 31, 3) := by decide +kernel
theorem dX3_slotsOf_4 : decode cX3_slotsOf 4 = .ok (.aload_n 0, 1) := by decide +kernel
theorem dX3_slotsOf_5 : decode cX3_slotsOf 5 = .ok (.iload_n 1, 1) := by decide +kernel
theorem dX3_slotsOf_6 : decode cX3_slotsOf 6 = .ok (.invokevirtual 40, 3) := by decide +kernel
theorem dX3_slotsOf_9 : decode cX3_slotsOf 9 = .ok (.iaload, 1) := by decide +kernel
theorem dX3_slotsOf_10 : decode cX3_slotsOf 10 = .ok (.ireturn, 1) := by decide +kernel
theorem dX3_isRow_0 : decode cX3_isRow 0 = .ok (.aload_n 0, 1) := by decide +kernel
theorem dX3_isRow_1 : decode cX3_isRow 1 = .ok (.getfield 28, 3) := by decide +kernel
theorem dX3_isRow_4 : decode cX3_isRow 4 = .ok (.aload_n 0, 1) := by decide +kernel
theorem dX3_isRow_5 : decode cX3_isRow 5 = .ok (.iload_n 1, 1) := by decide +kernel
theorem dX3_isRow_6 : decode cX3_isRow 6 = .ok (.invokevirtual 40, 3) := by decide +kernel
theorem dX3_isRow_9 : decode cX3_isRow 9 = .ok (.iaload, 1) := by decide +kernel
theorem dX3_isRow_10 : decode cX3_isRow 10 = .ok (.iconst 3, 1) := by decide +kernel
theorem dX3_isRow_11 : decode cX3_isRow 11 = .ok (.if_icmp .ne 7, 3) := by decide +kernel
theorem dX3_isRow_14 : decode cX3_isRow 14 = .ok (.iconst 1, 1) := by decide +kernel
theorem dX3_isRow_15 : decode cX3_isRow 15 = .ok (.goto 4, 3) := by decide +kernel
theorem dX3_isRow_18 : decode cX3_isRow 18 = .ok (.iconst 0, 1) := by decide +kernel
theorem dX3_isRow_19 : decode cX3_isRow 19 = .ok (.ireturn, 1) := by decide +kernel
theorem dX3_halfOf_0 : decode cX3_halfOf 0 = .ok (.iload_n 1, 1) := by decide +kernel
theorem dX3_halfOf_1 : decode cX3_halfOf 1 = .ok (.aload_n 0, 1) := by decide +kernel
theorem dX3_halfOf_2 : decode cX3_halfOf 2 = .ok (.getfield 21, 3) := by decide +kernel
theorem dX3_halfOf_5 : decode cX3_halfOf 5 = .ok (.if_icmp .ge 7, 3) := by decide +kernel
theorem dX3_halfOf_8 : decode cX3_halfOf 8 = .ok (.iconst 0, 1) := by decide +kernel
theorem dX3_halfOf_9 : decode cX3_halfOf 9 = .ok (.goto 4, 3) := by decide +kernel
theorem dX3_halfOf_12 : decode cX3_halfOf 12 = .ok (.iconst 1, 1) := by decide +kernel
theorem dX3_halfOf_13 : decode cX3_halfOf 13 = .ok (.ireturn, 1) := by decide +kernel
theorem dX3_slotOf_0 : decode cX3_slotOf 0 = .ok (.aload_n 0, 1) := by decide +kernel
theorem dX3_slotOf_1 : decode cX3_slotOf 1 = .ok (.getfield 9, 3) := by decide +kernel
theorem dX3_slotOf_4 : decode cX3_slotOf 4 = .ok (.iload_n 1, 1) := by decide +kernel
theorem dX3_slotOf_5 : decode cX3_slotOf 5 = .ok (.iaload, 1) := by decide +kernel
theorem dX3_slotOf_6 : decode cX3_slotOf 6 = .ok (.iconst 2, 1) := by decide +kernel
theorem dX3_slotOf_7 : decode cX3_slotOf 7 = .ok (.if_icmp .ne 21, 3) := by decide +kernel
theorem dX3_slotOf_10 : decode cX3_slotOf 10 = .ok (.iload_n 2, 1) := by decide +kernel
theorem dX3_slotOf_11 : decode cX3_slotOf 11 = .ok (.ifCond .lt 17, 3) := by decide +kernel
theorem dX3_slotOf_14 : decode cX3_slotOf 14 = .ok (.iload_n 2, 1) := by decide +kernel
theorem dX3_slotOf_15 : decode cX3_slotOf 15 = .ok (.aload_n 0, 1) := by decide +kernel
theorem dX3_slotOf_16 : decode cX3_slotOf 16 = .ok (.aload_n 0, 1) := by decide +kernel
theorem dX3_slotOf_17 : decode cX3_slotOf 17 = .ok (.getfield 15, 3) := by decide +kernel
theorem dX3_slotOf_20 : decode cX3_slotOf 20 = .ok (.iload_n 1, 1) := by decide +kernel
theorem dX3_slotOf_21 : decode cX3_slotOf 21 = .ok (.iaload, 1) := by decide +kernel
theorem dX3_slotOf_22 : decode cX3_slotOf 22 = .ok (.invokevirtual 44, 3) := by decide +kernel
theorem dX3_slotOf_25 : decode cX3_slotOf 25 = .ok (.if_icmp .lt 5, 3) := by decide +kernel
theorem dX3_slotOf_28 : decode cX3_slotOf 28 = .ok (.iconst (-1), 1) := by decide +kernel
theorem dX3_slotOf_29 : decode cX3_slotOf 29 = .ok (.ireturn, 1) := by decide +kernel
theorem dX3_slotOf_30 : decode cX3_slotOf 30 = .ok (.aload_n 0, 1) := by decide +kernel
theorem dX3_slotOf_31 : decode cX3_slotOf 31 = .ok (.aload_n 0, 1) := by decide +kernel
theorem dX3_slotOf_32 : decode cX3_slotOf 32 = .ok (.getfield 15, 3) := by decide +kernel
theorem dX3_slotOf_35 : decode cX3_slotOf 35 = .ok (.iload_n 1, 1) := by decide +kernel
theorem dX3_slotOf_36 : decode cX3_slotOf 36 = .ok (.iaload, 1) := by decide +kernel
theorem dX3_slotOf_37 : decode cX3_slotOf 37 = .ok (.invokevirtual 40, 3) := by decide +kernel
theorem dX3_slotOf_40 : decode cX3_slotOf 40 = .ok (.iconst 2, 1) := by decide +kernel
theorem dX3_slotOf_41 : decode cX3_slotOf 41 = .ok (.iadd, 1) := by decide +kernel
theorem dX3_slotOf_42 : decode cX3_slotOf 42 = .ok (.iload_n 2, 1) := by decide +kernel
theorem dX3_slotOf_43 : decode cX3_slotOf 43 = .ok (.iadd, 1) := by decide +kernel
theorem dX3_slotOf_44 : decode cX3_slotOf 44 = .ok (.ireturn, 1) := by decide +kernel
theorem dX3_aboutRoot_0 : decode cX3_aboutRoot 0 = .ok (.iload_n 2, 1) := by decide +kernel
theorem dX3_aboutRoot_1 : decode cX3_aboutRoot 1 = .ok (.iconst 2, 1) := by decide +kernel
theorem dX3_aboutRoot_2 : decode cX3_aboutRoot 2 = .ok (.if_icmp .ne 42, 3) := by decide +kernel
theorem dX3_aboutRoot_5 : decode cX3_aboutRoot 5 = .ok (.aload_n 0, 1) := by decide +kernel
theorem dX3_aboutRoot_6 : decode cX3_aboutRoot 6 = .ok (.getfield 9, 3) := by decide +kernel
theorem dX3_aboutRoot_9 : decode cX3_aboutRoot 9 = .ok (.iload_n 1, 1) := by decide +kernel
theorem dX3_aboutRoot_10 : decode cX3_aboutRoot 10 = .ok (.iaload, 1) := by decide +kernel
theorem dX3_aboutRoot_11 : decode cX3_aboutRoot 11 = .ok (.iconst 2, 1) := by decide +kernel
theorem dX3_aboutRoot_12 : decode cX3_aboutRoot 12 = .ok (.if_icmp .ne 7, 3) := by decide +kernel
theorem dX3_aboutRoot_15 : decode cX3_aboutRoot 15 = .ok (.iconst 1, 1) := by decide +kernel
theorem dX3_aboutRoot_16 : decode cX3_aboutRoot 16 = .ok (.goto 4, 3) := by decide +kernel
theorem dX3_aboutRoot_19 : decode cX3_aboutRoot 19 = .ok (.iconst 0, 1) := by decide +kernel
theorem dX3_aboutRoot_20 : decode cX3_aboutRoot 20 = .ok (.istore_n 3, 1) := by decide +kernel
theorem dX3_aboutRoot_21 : decode cX3_aboutRoot 21 = .ok (.iload_n 3, 1) := by decide +kernel
theorem dX3_aboutRoot_22 : decode cX3_aboutRoot 22 = .ok (.ifCond .eq 20, 3) := by decide +kernel
theorem dX3_aboutRoot_25 : decode cX3_aboutRoot 25 = .ok (.aload_n 0, 1) := by decide +kernel
theorem dX3_aboutRoot_26 : decode cX3_aboutRoot 26 = .ok (.aload_n 0, 1) := by decide +kernel
theorem dX3_aboutRoot_27 : decode cX3_aboutRoot 27 = .ok (.aload_n 0, 1) := by decide +kernel
theorem dX3_aboutRoot_28 : decode cX3_aboutRoot 28 = .ok (.getfield 15, 3) := by decide +kernel
theorem dX3_aboutRoot_31 : decode cX3_aboutRoot 31 = .ok (.iload_n 1, 1) := by decide +kernel
theorem dX3_aboutRoot_32 : decode cX3_aboutRoot 32 = .ok (.iaload, 1) := by decide +kernel
theorem dX3_aboutRoot_33 : decode cX3_aboutRoot 33 = .ok (.invokevirtual 40, 3) := by decide +kernel
theorem dX3_aboutRoot_36 : decode cX3_aboutRoot 36 = .ok (.invokevirtual 47, 3) := by decide +kernel
theorem dX3_aboutRoot_39 : decode cX3_aboutRoot 39 = .ok (.goto 4, 3) := by decide +kernel
theorem dX3_aboutRoot_42 : decode cX3_aboutRoot 42 = .ok (.iconst (-1), 1) := by decide +kernel
theorem dX3_aboutRoot_43 : decode cX3_aboutRoot 43 = .ok (.ireturn, 1) := by decide +kernel
theorem dX3_aboutRoot_44 : decode cX3_aboutRoot 44 = .ok (.aload_n 0, 1) := by decide +kernel
theorem dX3_aboutRoot_45 : decode cX3_aboutRoot 45 = .ok (.aload_n 0, 1) := by decide +kernel
theorem dX3_aboutRoot_46 : decode cX3_aboutRoot 46 = .ok (.getfield 9, 3) := by decide +kernel
theorem dX3_aboutRoot_49 : decode cX3_aboutRoot 49 = .ok (.iload_n 1, 1) := by decide +kernel
theorem dX3_aboutRoot_50 : decode cX3_aboutRoot 50 = .ok (.iaload, 1) := by decide +kernel
theorem dX3_aboutRoot_51 : decode cX3_aboutRoot 51 = .ok (.aload_n 0, 1) := by decide +kernel
theorem dX3_aboutRoot_52 : decode cX3_aboutRoot 52 = .ok (.getfield 15, 3) := by decide +kernel
theorem dX3_aboutRoot_55 : decode cX3_aboutRoot 55 = .ok (.iload_n 1, 1) := by decide +kernel
theorem dX3_aboutRoot_56 : decode cX3_aboutRoot 56 = .ok (.iaload, 1) := by decide +kernel
theorem dX3_aboutRoot_57 : decode cX3_aboutRoot 57 = .ok (.iload_n 2, 1) := by decide +kernel
theorem dX3_aboutRoot_58 : decode cX3_aboutRoot 58 = .ok (.invokevirtual 50, 3) := by decide +kernel
theorem dX3_aboutRoot_61 : decode cX3_aboutRoot 61 = .ok (.ireturn, 1) := by decide +kernel
theorem dX3_aboutSlot_0 : decode cX3_aboutSlot 0 = .ok (.iload_n 2, 1) := by decide +kernel
theorem dX3_aboutSlot_1 : decode cX3_aboutSlot 1 = .ok (.iconst 2, 1) := by decide +kernel
theorem dX3_aboutSlot_2 : decode cX3_aboutSlot 2 = .ok (.if_icmp .ne 32, 3) := by decide +kernel
theorem dX3_aboutSlot_5 : decode cX3_aboutSlot 5 = .ok (.aload_n 0, 1) := by decide +kernel
theorem dX3_aboutSlot_6 : decode cX3_aboutSlot 6 = .ok (.getfield 28, 3) := by decide +kernel
theorem dX3_aboutSlot_9 : decode cX3_aboutSlot 9 = .ok (.iload_n 1, 1) := by decide +kernel
theorem dX3_aboutSlot_10 : decode cX3_aboutSlot 10 = .ok (.iaload, 1) := by decide +kernel
theorem dX3_aboutSlot_11 : decode cX3_aboutSlot 11 = .ok (.iconst 2, 1) := by decide +kernel
theorem dX3_aboutSlot_12 : decode cX3_aboutSlot 12 = .ok (.if_icmp .ne 20, 3) := by decide +kernel
theorem dX3_aboutSlot_15 : decode cX3_aboutSlot 15 = .ok (.aload_n 0, 1) := by decide +kernel
theorem dX3_aboutSlot_16 : decode cX3_aboutSlot 16 = .ok (.aload_n 0, 1) := by decide +kernel
theorem dX3_aboutSlot_17 : decode cX3_aboutSlot 17 = .ok (.aload_n 0, 1) := by decide +kernel
theorem dX3_aboutSlot_18 : decode cX3_aboutSlot 18 = .ok (.getfield 31, 3) := by decide +kernel
theorem dX3_aboutSlot_21 : decode cX3_aboutSlot 21 = .ok (.iload_n 1, 1) := by decide +kernel
theorem dX3_aboutSlot_22 : decode cX3_aboutSlot 22 = .ok (.iaload, 1) := by decide +kernel
theorem dX3_aboutSlot_23 : decode cX3_aboutSlot 23 = .ok (.invokevirtual 40, 3) := by decide +kernel
theorem dX3_aboutSlot_26 : decode cX3_aboutSlot 26 = .ok (.invokevirtual 54, 3) := by decide +kernel
theorem dX3_aboutSlot_29 : decode cX3_aboutSlot 29 = .ok (.goto 4, 3) := by decide +kernel
theorem dX3_aboutSlot_32 : decode cX3_aboutSlot 32 = .ok (.iconst (-1), 1) := by decide +kernel
theorem dX3_aboutSlot_33 : decode cX3_aboutSlot 33 = .ok (.ireturn, 1) := by decide +kernel
theorem dX3_aboutSlot_34 : decode cX3_aboutSlot 34 = .ok (.aload_n 0, 1) := by decide +kernel
theorem dX3_aboutSlot_35 : decode cX3_aboutSlot 35 = .ok (.aload_n 0, 1) := by decide +kernel
theorem dX3_aboutSlot_36 : decode cX3_aboutSlot 36 = .ok (.getfield 28, 3) := by decide +kernel
theorem dX3_aboutSlot_39 : decode cX3_aboutSlot 39 = .ok (.iload_n 1, 1) := by decide +kernel
theorem dX3_aboutSlot_40 : decode cX3_aboutSlot 40 = .ok (.iaload, 1) := by decide +kernel
theorem dX3_aboutSlot_41 : decode cX3_aboutSlot 41 = .ok (.aload_n 0, 1) := by decide +kernel
theorem dX3_aboutSlot_42 : decode cX3_aboutSlot 42 = .ok (.getfield 31, 3) := by decide +kernel
theorem dX3_aboutSlot_45 : decode cX3_aboutSlot 45 = .ok (.iload_n 1, 1) := by decide +kernel
theorem dX3_aboutSlot_46 : decode cX3_aboutSlot 46 = .ok (.iaload, 1) := by decide +kernel
theorem dX3_aboutSlot_47 : decode cX3_aboutSlot 47 = .ok (.iload_n 2, 1) := by decide +kernel
theorem dX3_aboutSlot_48 : decode cX3_aboutSlot 48 = .ok (.invokevirtual 50, 3) := by decide +kernel
theorem dX3_aboutSlot_51 : decode cX3_aboutSlot 51 = .ok (.ireturn, 1) := by decide +kernel
theorem dX3_aboutWord_0 : decode cX3_aboutWord 0 = .ok (.iload_n 3, 1) := by decide +kernel
theorem dX3_aboutWord_1 : decode cX3_aboutWord 1 = .ok (.ifCond .ne 10, 3) := by decide +kernel
theorem dX3_aboutWord_4 : decode cX3_aboutWord 4 = .ok (.aload_n 0, 1) := by decide +kernel
theorem dX3_aboutWord_5 : decode cX3_aboutWord 5 = .ok (.iload_n 1, 1) := by decide +kernel
theorem dX3_aboutWord_6 : decode cX3_aboutWord 6 = .ok (.iload_n 2, 1) := by decide +kernel
theorem dX3_aboutWord_7 : decode cX3_aboutWord 7 = .ok (.invokevirtual 57, 3) := by decide +kernel
theorem dX3_aboutWord_10 : decode cX3_aboutWord 10 = .ok (.ireturn, 1) := by decide +kernel
theorem dX3_aboutWord_11 : decode cX3_aboutWord 11 = .ok (.iload_n 3, 1) := by decide +kernel
theorem dX3_aboutWord_12 : decode cX3_aboutWord 12 = .ok (.iconst 1, 1) := by decide +kernel
theorem dX3_aboutWord_13 : decode cX3_aboutWord 13 = .ok (.if_icmp .ne 26, 3) := by decide +kernel
theorem dX3_aboutWord_16 : decode cX3_aboutWord 16 = .ok (.iload_n 1, 1) := by decide +kernel
theorem dX3_aboutWord_17 : decode cX3_aboutWord 17 = .ok (.iconst 2, 1) := by decide +kernel
theorem dX3_aboutWord_18 : decode cX3_aboutWord 18 = .ok (.if_icmp .ne 11, 3) := by decide +kernel
theorem dX3_aboutWord_21 : decode cX3_aboutWord 21 = .ok (.aload_n 0, 1) := by decide +kernel
theorem dX3_aboutWord_22 : decode cX3_aboutWord 22 = .ok (.iload_n 2, 1) := by decide +kernel
theorem dX3_aboutWord_23 : decode cX3_aboutWord 23 = .ok (.invokevirtual 44, 3) := by decide +kernel
theorem dX3_aboutWord_26 : decode cX3_aboutWord 26 = .ok (.goto 12, 3) := by decide +kernel
theorem dX3_aboutWord_29 : decode cX3_aboutWord 29 = .ok (.iload_n 1, 1) := by decide +kernel
theorem dX3_aboutWord_30 : decode cX3_aboutWord 30 = .ok (.ifCond .ne 7, 3) := by decide +kernel
theorem dX3_aboutWord_33 : decode cX3_aboutWord 33 = .ok (.iload_n 2, 1) := by decide +kernel
theorem dX3_aboutWord_34 : decode cX3_aboutWord 34 = .ok (.goto 4, 3) := by decide +kernel
theorem dX3_aboutWord_37 : decode cX3_aboutWord 37 = .ok (.iconst 0, 1) := by decide +kernel
theorem dX3_aboutWord_38 : decode cX3_aboutWord 38 = .ok (.ireturn, 1) := by decide +kernel
theorem dX3_aboutWord_39 : decode cX3_aboutWord 39 = .ok (.iconst (-1), 1) := by decide +kernel
theorem dX3_aboutWord_40 : decode cX3_aboutWord 40 = .ok (.ireturn, 1) := by decide +kernel
theorem dX3_kindOf_0 : decode cX3_kindOf 0 = .ok (.iload_n 1, 1) := by decide +kernel
theorem dX3_kindOf_1 : decode cX3_kindOf 1 = .ok (.iconst 2, 1) := by decide +kernel
theorem dX3_kindOf_2 : decode cX3_kindOf 2 = .ok (.if_icmp .eq 7, 3) := by decide +kernel
theorem dX3_kindOf_5 : decode cX3_kindOf 5 = .ok (.iload_n 1, 1) := by decide +kernel
theorem dX3_kindOf_6 : decode cX3_kindOf 6 = .ok (.goto 16, 3) := by decide +kernel
theorem dX3_kindOf_9 : decode cX3_kindOf 9 = .ok (.aload_n 0, 1) := by decide +kernel
theorem dX3_kindOf_10 : decode cX3_kindOf 10 = .ok (.iload_n 2, 1) := by decide +kernel
theorem dX3_kindOf_11 : decode cX3_kindOf 11 = .ok (.invokevirtual 61, 3) := by decide +kernel
theorem dX3_kindOf_14 : decode cX3_kindOf 14 = .ok (.ifCond .eq 7, 3) := by decide +kernel
theorem dX3_kindOf_17 : decode cX3_kindOf 17 = .ok (.iconst 2, 1) := by decide +kernel
theorem dX3_kindOf_18 : decode cX3_kindOf 18 = .ok (.goto 4, 3) := by decide +kernel
theorem dX3_kindOf_21 : decode cX3_kindOf 21 = .ok (.iconst 3, 1) := by decide +kernel
theorem dX3_kindOf_22 : decode cX3_kindOf 22 = .ok (.ireturn, 1) := by decide +kernel
theorem dX3_placeOf_0 : decode cX3_placeOf 0 = .ok (.iload_n 1, 1) := by decide +kernel
theorem dX3_placeOf_1 : decode cX3_placeOf 1 = .ok (.aload_n 0, 1) := by decide +kernel
theorem dX3_placeOf_2 : decode cX3_placeOf 2 = .ok (.iload_n 1, 1) := by decide +kernel
theorem dX3_placeOf_3 : decode cX3_placeOf 3 = .ok (.invokevirtual 54, 3) := by decide +kernel
theorem dX3_placeOf_6 : decode cX3_placeOf 6 = .ok (.aload_n 0, 1) := by decide +kernel
theorem dX3_placeOf_7 : decode cX3_placeOf 7 = .ok (.getfield 21, 3) := by decide +kernel
theorem dX3_placeOf_10 : decode cX3_placeOf 10 = .ok (.imul, 1) := by decide +kernel
theorem dX3_placeOf_11 : decode cX3_placeOf 11 = .ok (.isub, 1) := by decide +kernel
theorem dX3_placeOf_12 : decode cX3_placeOf 12 = .ok (.ireturn, 1) := by decide +kernel
theorem dX3_move_0 : decode cX3_move 0 = .ok (.aload_n 0, 1) := by decide +kernel
theorem dX3_move_1 : decode cX3_move 1 = .ok (.getfield 31, 3) := by decide +kernel
theorem dX3_move_4 : decode cX3_move 4 = .ok (.iload_n 1, 1) := by decide +kernel
theorem dX3_move_5 : decode cX3_move 5 = .ok (.iaload, 1) := by decide +kernel
theorem dX3_move_6 : decode cX3_move 6 = .ok (.iconst 2, 1) := by decide +kernel
theorem dX3_move_7 : decode cX3_move 7 = .ok (.iadd, 1) := by decide +kernel
theorem dX3_move_8 : decode cX3_move 8 = .ok (.istore_n 2, 1) := by decide +kernel
theorem dX3_move_9 : decode cX3_move 9 = .ok (.aload_n 0, 1) := by decide +kernel
theorem dX3_move_10 : decode cX3_move 10 = .ok (.getfield 65, 3) := by decide +kernel
theorem dX3_move_13 : decode cX3_move 13 = .ok (.iload_n 2, 1) := by decide +kernel
theorem dX3_move_14 : decode cX3_move 14 = .ok (.iadd, 1) := by decide +kernel
theorem dX3_move_15 : decode cX3_move 15 = .ok (.aload_n 0, 1) := by decide +kernel
theorem dX3_move_16 : decode cX3_move 16 = .ok (.getfield 34, 3) := by decide +kernel
theorem dX3_move_19 : decode cX3_move 19 = .ok (.if_icmp .le 16, 3) := by decide +kernel
theorem dX3_move_22 : decode cX3_move 22 = .ok (.aload_n 0, 1) := by decide +kernel
theorem dX3_move_23 : decode cX3_move 23 = .ok (.getfield 18, 3) := by decide +kernel
theorem dX3_move_26 : decode cX3_move 26 = .ok (.bipush 8, 2) := by decide +kernel
theorem dX3_move_28 : decode cX3_move 28 = .ok (.dup2, 1) := by decide +kernel
theorem dX3_move_29 : decode cX3_move 29 = .ok (.iaload, 1) := by decide +kernel
theorem dX3_move_30 : decode cX3_move 30 = .ok (.iconst 1, 1) := by decide +kernel
theorem dX3_move_31 : decode cX3_move 31 = .ok (.iadd, 1) := by decide +kernel
theorem dX3_move_32 : decode cX3_move 32 = .ok (.iastore, 1) := by decide +kernel
theorem dX3_move_33 : decode cX3_move 33 = .ok (.iconst (-1), 1) := by decide +kernel
theorem dX3_move_34 : decode cX3_move 34 = .ok (.ireturn, 1) := by decide +kernel
theorem dX3_move_35 : decode cX3_move 35 = .ok (.aload_n 0, 1) := by decide +kernel
theorem dX3_move_36 : decode cX3_move 36 = .ok (.getfield 68, 3) := by decide +kernel
theorem dX3_move_39 : decode cX3_move 39 = .ok (.aload_n 0, 1) := by decide +kernel
theorem dX3_move_40 : decode cX3_move 40 = .ok (.getfield 21, 3) := by decide +kernel
theorem dX3_move_43 : decode cX3_move 43 = .ok (.imul, 1) := by decide +kernel
theorem dX3_move_44 : decode cX3_move 44 = .ok (.aload_n 0, 1) := by decide +kernel
theorem dX3_move_45 : decode cX3_move 45 = .ok (.getfield 65, 3) := by decide +kernel
theorem dX3_move_48 : decode cX3_move 48 = .ok (.iadd, 1) := by decide +kernel
theorem dX3_move_49 : decode cX3_move 49 = .ok (.istore_n 3, 1) := by decide +kernel
theorem dX3_move_50 : decode cX3_move 50 = .ok (.iconst 0, 1) := by decide +kernel
theorem dX3_move_51 : decode cX3_move 51 = .ok (.istore 4, 2) := by decide +kernel
theorem dX3_move_53 : decode cX3_move 53 = .ok (.iload 4, 2) := by decide +kernel
theorem dX3_move_55 : decode cX3_move 55 = .ok (.iload_n 2, 1) := by decide +kernel
theorem dX3_move_56 : decode cX3_move 56 = .ok (.if_icmp .ge 45, 3) := by decide +kernel
theorem dX3_move_59 : decode cX3_move 59 = .ok (.aload_n 0, 1) := by decide +kernel
theorem dX3_move_60 : decode cX3_move 60 = .ok (.getfield 28, 3) := by decide +kernel
theorem dX3_move_63 : decode cX3_move 63 = .ok (.iload_n 3, 1) := by decide +kernel
theorem dX3_move_64 : decode cX3_move 64 = .ok (.iload 4, 2) := by decide +kernel
theorem dX3_move_66 : decode cX3_move 66 = .ok (.iadd, 1) := by decide +kernel
theorem dX3_move_67 : decode cX3_move 67 = .ok (.aload_n 0, 1) := by decide +kernel
theorem dX3_move_68 : decode cX3_move 68 = .ok (.getfield 28, 3) := by decide +kernel
theorem dX3_move_71 : decode cX3_move 71 = .ok (.iload_n 1, 1) := by decide +kernel
theorem dX3_move_72 : decode cX3_move 72 = .ok (.iload 4, 2) := by decide +kernel
theorem dX3_move_74 : decode cX3_move 74 = .ok (.iadd, 1) := by decide +kernel
theorem dX3_move_75 : decode cX3_move 75 = .ok (.iaload, 1) := by decide +kernel
theorem dX3_move_76 : decode cX3_move 76 = .ok (.iastore, 1) := by decide +kernel
theorem dX3_move_77 : decode cX3_move 77 = .ok (.aload_n 0, 1) := by decide +kernel
theorem dX3_move_78 : decode cX3_move 78 = .ok (.getfield 31, 3) := by decide +kernel
theorem dX3_move_81 : decode cX3_move 81 = .ok (.iload_n 3, 1) := by decide +kernel
theorem dX3_move_82 : decode cX3_move 82 = .ok (.iload 4, 2) := by decide +kernel
theorem dX3_move_84 : decode cX3_move 84 = .ok (.iadd, 1) := by decide +kernel
theorem dX3_move_85 : decode cX3_move 85 = .ok (.aload_n 0, 1) := by decide +kernel
theorem dX3_move_86 : decode cX3_move 86 = .ok (.getfield 31, 3) := by decide +kernel
theorem dX3_move_89 : decode cX3_move 89 = .ok (.iload_n 1, 1) := by decide +kernel
theorem dX3_move_90 : decode cX3_move 90 = .ok (.iload 4, 2) := by decide +kernel
theorem dX3_move_92 : decode cX3_move 92 = .ok (.iadd, 1) := by decide +kernel
theorem dX3_move_93 : decode cX3_move 93 = .ok (.iaload, 1) := by decide +kernel
theorem dX3_move_94 : decode cX3_move 94 = .ok (.iastore, 1) := by decide +kernel
theorem dX3_move_95 : decode cX3_move 95 = .ok (.iinc 4 1, 3) := by decide +kernel
theorem dX3_move_98 : decode cX3_move 98 = .ok (.goto (-45), 3) := by decide +kernel
theorem dX3_move_101 : decode cX3_move 101 = .ok (.aload_n 0, 1) := by decide +kernel
theorem dX3_move_102 : decode cX3_move 102 = .ok (.getfield 28, 3) := by decide +kernel
theorem dX3_move_105 : decode cX3_move 105 = .ok (.iload_n 1, 1) := by decide +kernel
theorem dX3_move_106 : decode cX3_move 106 = .ok (.bipush 6, 2) := by decide +kernel
theorem dX3_move_108 : decode cX3_move 108 = .ok (.iastore, 1) := by decide +kernel
theorem dX3_move_109 : decode cX3_move 109 = .ok (.aload_n 0, 1) := by decide +kernel
theorem dX3_move_110 : decode cX3_move 110 = .ok (.getfield 31, 3) := by decide +kernel
theorem dX3_move_113 : decode cX3_move 113 = .ok (.iload_n 1, 1) := by decide +kernel
theorem dX3_move_114 : decode cX3_move 114 = .ok (.iload_n 3, 1) := by decide +kernel
theorem dX3_move_115 : decode cX3_move 115 = .ok (.iastore, 1) := by decide +kernel
theorem dX3_move_116 : decode cX3_move 116 = .ok (.aload_n 0, 1) := by decide +kernel
theorem dX3_move_117 : decode cX3_move 117 = .ok (.dup, 1) := by decide +kernel
theorem dX3_move_118 : decode cX3_move 118 = .ok (.getfield 65, 3) := by decide +kernel
theorem dX3_move_121 : decode cX3_move 121 = .ok (.iload_n 2, 1) := by decide +kernel
theorem dX3_move_122 : decode cX3_move 122 = .ok (.iadd, 1) := by decide +kernel
theorem dX3_move_123 : decode cX3_move 123 = .ok (.putfield 65, 3) := by decide +kernel
theorem dX3_move_126 : decode cX3_move 126 = .ok (.aload_n 0, 1) := by decide +kernel
theorem dX3_move_127 : decode cX3_move 127 = .ok (.getfield 18, 3) := by decide +kernel
theorem dX3_move_130 : decode cX3_move 130 = .ok (.iconst 5, 1) := by decide +kernel
theorem dX3_move_131 : decode cX3_move 131 = .ok (.dup2, 1) := by decide +kernel
theorem dX3_move_132 : decode cX3_move 132 = .ok (.iaload, 1) := by decide +kernel
theorem dX3_move_133 : decode cX3_move 133 = .ok (.iconst 1, 1) := by decide +kernel
theorem dX3_move_134 : decode cX3_move 134 = .ok (.iadd, 1) := by decide +kernel
theorem dX3_move_135 : decode cX3_move 135 = .ok (.iastore, 1) := by decide +kernel
theorem dX3_move_136 : decode cX3_move 136 = .ok (.iload_n 3, 1) := by decide +kernel
theorem dX3_move_137 : decode cX3_move 137 = .ok (.ireturn, 1) := by decide +kernel
theorem dX3_bring_0 : decode cX3_bring 0 = .ok (.aload_n 1, 1) := by decide +kernel
theorem dX3_bring_1 : decode cX3_bring 1 = .ok (.iload_n 3, 1) := by decide +kernel
theorem dX3_bring_2 : decode cX3_bring 2 = .ok (.iaload, 1) := by decide +kernel
theorem dX3_bring_3 : decode cX3_bring 3 = .ok (.iconst 2, 1) := by decide +kernel
theorem dX3_bring_4 : decode cX3_bring 4 = .ok (.if_icmp .eq 5, 3) := by decide +kernel
theorem dX3_bring_7 : decode cX3_bring 7 = .ok (.iconst 1, 1) := by decide +kernel
theorem dX3_bring_8 : decode cX3_bring 8 = .ok (.ireturn, 1) := by decide +kernel
theorem dX3_bring_9 : decode cX3_bring 9 = .ok (.aload_n 0, 1) := by decide +kernel
theorem dX3_bring_10 : decode cX3_bring 10 = .ok (.aload_n 2, 1) := by decide +kernel
theorem dX3_bring_11 : decode cX3_bring 11 = .ok (.iload_n 3, 1) := by decide +kernel
theorem dX3_bring_12 : decode cX3_bring 12 = .ok (.iaload, 1) := by decide +kernel
theorem dX3_bring_13 : decode cX3_bring 13 = .ok (.invokevirtual 40, 3) := by decide +kernel
theorem dX3_bring_16 : decode cX3_bring 16 = .ok (.istore 4, 2) := by decide +kernel
theorem dX3_bring_18 : decode cX3_bring 18 = .ok (.aload_n 0, 1) := by decide +kernel
theorem dX3_bring_19 : decode cX3_bring 19 = .ok (.iload 4, 2) := by decide +kernel
theorem dX3_bring_21 : decode cX3_bring 21 = .ok (.invokevirtual 54, 3) := by decide +kernel
theorem dX3_bring_24 : decode cX3_bring 24 = .ok (.aload_n 0, 1) := by decide +kernel
theorem dX3_bring_25 : decode cX3_bring 25 = .ok (.getfield 68, 3) := by decide +kernel
theorem dX3_bring_28 : decode cX3_bring 28 = .ok (.if_icmp .ne 8, 3) := by decide +kernel
theorem dX3_bring_31 : decode cX3_bring 31 = .ok (.iload 4, 2) := by decide +kernel
theorem dX3_bring_33 : decode cX3_bring 33 = .ok (.goto 9, 3) := by decide +kernel
theorem dX3_bring_36 : decode cX3_bring 36 = .ok (.aload_n 0, 1) := by decide +kernel
theorem dX3_bring_37 : decode cX3_bring 37 = .ok (.iload 4, 2) := by decide +kernel
theorem dX3_bring_39 : decode cX3_bring 39 = .ok (.invokevirtual 71, 3) := by decide +kernel
theorem dX3_bring_42 : decode cX3_bring 42 = .ok (.istore 5, 2) := by decide +kernel
theorem dX3_bring_44 : decode cX3_bring 44 = .ok (.iload 5, 2) := by decide +kernel
theorem dX3_bring_46 : decode cX3_bring 46 = .ok (.iconst (-1), 1) := by decide +kernel
theorem dX3_bring_47 : decode cX3_bring 47 = .ok (.if_icmp .ne 5, 3) := by decide +kernel
theorem dX3_bring_50 : decode cX3_bring 50 = .ok (.iconst 0, 1) := by decide +kernel
theorem dX3_bring_51 : decode cX3_bring 51 = .ok (.ireturn, 1) := by decide +kernel
theorem dX3_bring_52 : decode cX3_bring 52 = .ok (.aload_n 2, 1) := by decide +kernel
theorem dX3_bring_53 : decode cX3_bring 53 = .ok (.iload_n 3, 1) := by decide +kernel
theorem dX3_bring_54 : decode cX3_bring 54 = .ok (.iload 5, 2) := by decide +kernel
theorem dX3_bring_56 : decode cX3_bring 56 = .ok (.iastore, 1) := by decide +kernel
theorem dX3_bring_57 : decode cX3_bring 57 = .ok (.iconst 1, 1) := by decide +kernel
theorem dX3_bring_58 : decode cX3_bring 58 = .ok (.ireturn, 1) := by decide +kernel
theorem dX3_passWords_0 : decode cX3_passWords 0 = .ok (.aload_n 0, 1) := by decide +kernel
theorem dX3_passWords_1 : decode cX3_passWords 1 = .ok (.getfield 74, 3) := by decide +kernel
theorem dX3_passWords_4 : decode cX3_passWords 4 = .ok (.istore_n 2, 1) := by decide +kernel
theorem dX3_passWords_5 : decode cX3_passWords 5 = .ok (.aload_n 0, 1) := by decide +kernel
theorem dX3_passWords_6 : decode cX3_passWords 6 = .ok (.getfield 74, 3) := by decide +kernel
theorem dX3_passWords_9 : decode cX3_passWords 9 = .ok (.iload_n 2, 1) := by decide +kernel
theorem dX3_passWords_10 : decode cX3_passWords 10 = .ok (.isub, 1) := by decide +kernel
theorem dX3_passWords_11 : decode cX3_passWords 11 = .ok (.iload_n 1, 1) := by decide +kernel
theorem dX3_passWords_12 : decode cX3_passWords 12 = .ok (.if_icmp .ge 56, 3) := by decide +kernel
theorem dX3_passWords_15 : decode cX3_passWords 15 = .ok (.aload_n 0, 1) := by decide +kernel
theorem dX3_passWords_16 : decode cX3_passWords 16 = .ok (.getfield 74, 3) := by decide +kernel
theorem dX3_passWords_19 : decode cX3_passWords 19 = .ok (.aload_n 0, 1) := by decide +kernel
theorem dX3_passWords_20 : decode cX3_passWords 20 = .ok (.getfield 65, 3) := by decide +kernel
theorem dX3_passWords_23 : decode cX3_passWords 23 = .ok (.if_icmp .ge 45, 3) := by decide +kernel
theorem dX3_passWords_26 : decode cX3_passWords 26 = .ok (.aload_n 0, 1) := by decide +kernel
theorem dX3_passWords_27 : decode cX3_passWords 27 = .ok (.aload_n 0, 1) := by decide +kernel
theorem dX3_passWords_28 : decode cX3_passWords 28 = .ok (.getfield 28, 3) := by decide +kernel
theorem dX3_passWords_31 : decode cX3_passWords 31 = .ok (.aload_n 0, 1) := by decide +kernel
theorem dX3_passWords_32 : decode cX3_passWords 32 = .ok (.getfield 31, 3) := by decide +kernel
theorem dX3_passWords_35 : decode cX3_passWords 35 = .ok (.aload_n 0, 1) := by decide +kernel
theorem dX3_passWords_36 : decode cX3_passWords 36 = .ok (.getfield 68, 3) := by decide +kernel
theorem dX3_passWords_39 : decode cX3_passWords 39 = .ok (.aload_n 0, 1) := by decide +kernel
theorem dX3_passWords_40 : decode cX3_passWords 40 = .ok (.getfield 21, 3) := by decide +kernel
theorem dX3_passWords_43 : decode cX3_passWords 43 = .ok (.imul, 1) := by decide +kernel
theorem dX3_passWords_44 : decode cX3_passWords 44 = .ok (.aload_n 0, 1) := by decide +kernel
theorem dX3_passWords_45 : decode cX3_passWords 45 = .ok (.getfield 74, 3) := by decide +kernel
theorem dX3_passWords_48 : decode cX3_passWords 48 = .ok (.iadd, 1) := by decide +kernel
theorem dX3_passWords_49 : decode cX3_passWords 49 = .ok (.invokevirtual 77, 3) := by decide +kernel
theorem dX3_passWords_52 : decode cX3_passWords 52 = .ok (.ifCond .eq 16, 3) := by decide +kernel
theorem dX3_passWords_55 : decode cX3_passWords 55 = .ok (.aload_n 0, 1) := by decide +kernel
theorem dX3_passWords_56 : decode cX3_passWords 56 = .ok (.dup, 1) := by decide +kernel
theorem dX3_passWords_57 : decode cX3_passWords 57 = .ok (.getfield 74, 3) := by decide +kernel
theorem dX3_passWords_60 : decode cX3_passWords 60 = .ok (.iconst 1, 1) := by decide +kernel
theorem dX3_passWords_61 : decode cX3_passWords 61 = .ok (.iadd, 1) := by decide +kernel
theorem dX3_passWords_62 : decode cX3_passWords 62 = .ok (.putfield 74, 3) := by decide +kernel
theorem dX3_passWords_65 : decode cX3_passWords 65 = .ok (.goto (-60), 3) := by decide +kernel
theorem dX3_passWords_68 : decode cX3_passWords 68 = .ok (.aload_n 0, 1) := by decide +kernel
theorem dX3_passWords_69 : decode cX3_passWords 69 = .ok (.getfield 18, 3) := by decide +kernel
theorem dX3_passWords_72 : decode cX3_passWords 72 = .ok (.bipush 6, 2) := by decide +kernel
theorem dX3_passWords_74 : decode cX3_passWords 74 = .ok (.dup2, 1) := by decide +kernel
theorem dX3_passWords_75 : decode cX3_passWords 75 = .ok (.iaload, 1) := by decide +kernel
theorem dX3_passWords_76 : decode cX3_passWords 76 = .ok (.aload_n 0, 1) := by decide +kernel
theorem dX3_passWords_77 : decode cX3_passWords 77 = .ok (.getfield 74, 3) := by decide +kernel
theorem dX3_passWords_80 : decode cX3_passWords 80 = .ok (.iload_n 2, 1) := by decide +kernel
theorem dX3_passWords_81 : decode cX3_passWords 81 = .ok (.isub, 1) := by decide +kernel
theorem dX3_passWords_82 : decode cX3_passWords 82 = .ok (.iadd, 1) := by decide +kernel
theorem dX3_passWords_83 : decode cX3_passWords 83 = .ok (.iastore, 1) := by decide +kernel
theorem dX3_passWords_84 : decode cX3_passWords 84 = .ok (.aload_n 0, 1) := by decide +kernel
theorem dX3_passWords_85 : decode cX3_passWords 85 = .ok (.getfield 74, 3) := by decide +kernel
theorem dX3_passWords_88 : decode cX3_passWords 88 = .ok (.iload_n 2, 1) := by decide +kernel
theorem dX3_passWords_89 : decode cX3_passWords 89 = .ok (.isub, 1) := by decide +kernel
theorem dX3_passWords_90 : decode cX3_passWords 90 = .ok (.ireturn, 1) := by decide +kernel
theorem dX3_turnOver_0 : decode cX3_turnOver 0 = .ok (.aload_n 0, 1) := by decide +kernel
theorem dX3_turnOver_1 : decode cX3_turnOver 1 = .ok (.getfield 18, 3) := by decide +kernel
theorem dX3_turnOver_4 : decode cX3_turnOver 4 = .ok (.iconst 5, 1) := by decide +kernel
theorem dX3_turnOver_5 : decode cX3_turnOver 5 = .ok (.iaload, 1) := by decide +kernel
theorem dX3_turnOver_6 : decode cX3_turnOver 6 = .ok (.istore_n 1, 1) := by decide +kernel
theorem dX3_turnOver_7 : decode cX3_turnOver 7 = .ok (.aload_n 0, 1) := by decide +kernel
theorem dX3_turnOver_8 : decode cX3_turnOver 8 = .ok (.iconst 1, 1) := by decide +kernel
theorem dX3_turnOver_9 : decode cX3_turnOver 9 = .ok (.aload_n 0, 1) := by decide +kernel
theorem dX3_turnOver_10 : decode cX3_turnOver 10 = .ok (.getfield 68, 3) := by decide +kernel
theorem dX3_turnOver_13 : decode cX3_turnOver 13 = .ok (.isub, 1) := by decide +kernel
theorem dX3_turnOver_14 : decode cX3_turnOver 14 = .ok (.putfield 68, 3) := by decide +kernel
theorem dX3_turnOver_17 : decode cX3_turnOver 17 = .ok (.aload_n 0, 1) := by decide +kernel
theorem dX3_turnOver_18 : decode cX3_turnOver 18 = .ok (.iconst 0, 1) := by decide +kernel
theorem dX3_turnOver_19 : decode cX3_turnOver 19 = .ok (.putfield 65, 3) := by decide +kernel
theorem dX3_turnOver_22 : decode cX3_turnOver 22 = .ok (.aload_n 0, 1) := by decide +kernel
theorem dX3_turnOver_23 : decode cX3_turnOver 23 = .ok (.iconst 0, 1) := by decide +kernel
theorem dX3_turnOver_24 : decode cX3_turnOver 24 = .ok (.putfield 74, 3) := by decide +kernel
theorem dX3_turnOver_27 : decode cX3_turnOver 27 = .ok (.aload_n 0, 1) := by decide +kernel
theorem dX3_turnOver_28 : decode cX3_turnOver 28 = .ok (.aload_n 0, 1) := by decide +kernel
theorem dX3_turnOver_29 : decode cX3_turnOver 29 = .ok (.getfield 21, 3) := by decide +kernel
theorem dX3_turnOver_32 : decode cX3_turnOver 32 = .ok (.putfield 34, 3) := by decide +kernel
theorem dX3_turnOver_35 : decode cX3_turnOver 35 = .ok (.iconst 0, 1) := by decide +kernel
theorem dX3_turnOver_36 : decode cX3_turnOver 36 = .ok (.istore_n 2, 1) := by decide +kernel
theorem dX3_turnOver_37 : decode cX3_turnOver 37 = .ok (.iload_n 2, 1) := by decide +kernel
theorem dX3_turnOver_38 : decode cX3_turnOver 38 = .ok (.aload_n 0, 1) := by decide +kernel
theorem dX3_turnOver_39 : decode cX3_turnOver 39 = .ok (.invokevirtual 81, 3) := by decide +kernel
theorem dX3_turnOver_42 : decode cX3_turnOver 42 = .ok (.if_icmp .ge 23, 3) := by decide +kernel
theorem dX3_turnOver_45 : decode cX3_turnOver 45 = .ok (.aload_n 0, 1) := by decide +kernel
theorem dX3_turnOver_46 : decode cX3_turnOver 46 = .ok (.aload_n 0, 1) := by decide +kernel
theorem dX3_turnOver_47 : decode cX3_turnOver 47 = .ok (.getfield 9, 3) := by decide +kernel
theorem dX3_turnOver_50 : decode cX3_turnOver 50 = .ok (.aload_n 0, 1) := by decide +kernel
theorem dX3_turnOver_51 : decode cX3_turnOver 51 = .ok (.getfield 15, 3) := by decide +kernel
theorem dX3_turnOver_54 : decode cX3_turnOver 54 = .ok (.iload_n 2, 1) := by decide +kernel
theorem dX3_turnOver_55 : decode cX3_turnOver 55 = .ok (.invokevirtual 77, 3) := by decide +kernel
theorem dX3_turnOver_58 : decode cX3_turnOver 58 = .ok (.pop, 1) := by decide +kernel
theorem dX3_turnOver_59 : decode cX3_turnOver 59 = .ok (.iinc 2 1, 3) := by decide +kernel
theorem dX3_turnOver_62 : decode cX3_turnOver 62 = .ok (.goto (-25), 3) := by decide +kernel
theorem dX3_turnOver_65 : decode cX3_turnOver 65 = .ok (.aload_n 0, 1) := by decide +kernel
theorem dX3_turnOver_66 : decode cX3_turnOver 66 = .ok (.getfield 18, 3) := by decide +kernel
theorem dX3_turnOver_69 : decode cX3_turnOver 69 = .ok (.iconst 4, 1) := by decide +kernel
theorem dX3_turnOver_70 : decode cX3_turnOver 70 = .ok (.dup2, 1) := by decide +kernel
theorem dX3_turnOver_71 : decode cX3_turnOver 71 = .ok (.iaload, 1) := by decide +kernel
theorem dX3_turnOver_72 : decode cX3_turnOver 72 = .ok (.iconst 1, 1) := by decide +kernel
theorem dX3_turnOver_73 : decode cX3_turnOver 73 = .ok (.iadd, 1) := by decide +kernel
theorem dX3_turnOver_74 : decode cX3_turnOver 74 = .ok (.iastore, 1) := by decide +kernel
theorem dX3_turnOver_75 : decode cX3_turnOver 75 = .ok (.aload_n 0, 1) := by decide +kernel
theorem dX3_turnOver_76 : decode cX3_turnOver 76 = .ok (.getfield 18, 3) := by decide +kernel
theorem dX3_turnOver_79 : decode cX3_turnOver 79 = .ok (.bipush 12, 2) := by decide +kernel
theorem dX3_turnOver_81 : decode cX3_turnOver 81 = .ok (.aload_n 0, 1) := by decide +kernel
theorem dX3_turnOver_82 : decode cX3_turnOver 82 = .ok (.getfield 18, 3) := by decide +kernel
theorem dX3_turnOver_85 : decode cX3_turnOver 85 = .ok (.iconst 5, 1) := by decide +kernel
theorem dX3_turnOver_86 : decode cX3_turnOver 86 = .ok (.iaload, 1) := by decide +kernel
theorem dX3_turnOver_87 : decode cX3_turnOver 87 = .ok (.iload_n 1, 1) := by decide +kernel
theorem dX3_turnOver_88 : decode cX3_turnOver 88 = .ok (.isub, 1) := by decide +kernel
theorem dX3_turnOver_89 : decode cX3_turnOver 89 = .ok (.iastore, 1) := by decide +kernel
theorem dX3_turnOver_90 : decode cX3_turnOver 90 = .ok (.return_, 1) := by decide +kernel
theorem dX3_makeRoom_0 : decode cX3_makeRoom 0 = .ok (.aload_n 0, 1) := by decide +kernel
theorem dX3_makeRoom_1 : decode cX3_makeRoom 1 = .ok (.aload_n 0, 1) := by decide +kernel
theorem dX3_makeRoom_2 : decode cX3_makeRoom 2 = .ok (.getfield 25, 3) := by decide +kernel
theorem dX3_makeRoom_5 : decode cX3_makeRoom 5 = .ok (.iload_n 1, 1) := by decide +kernel
theorem dX3_makeRoom_6 : decode cX3_makeRoom 6 = .ok (.imul, 1) := by decide +kernel
theorem dX3_makeRoom_7 : decode cX3_makeRoom 7 = .ok (.invokevirtual 85, 3) := by decide +kernel
theorem dX3_makeRoom_10 : decode cX3_makeRoom 10 = .ok (.istore_n 2, 1) := by decide +kernel
theorem dX3_makeRoom_11 : decode cX3_makeRoom 11 = .ok (.aload_n 0, 1) := by decide +kernel
theorem dX3_makeRoom_12 : decode cX3_makeRoom 12 = .ok (.getfield 18, 3) := by decide +kernel
theorem dX3_makeRoom_15 : decode cX3_makeRoom 15 = .ok (.bipush 11, 2) := by decide +kernel
theorem dX3_makeRoom_17 : decode cX3_makeRoom 17 = .ok (.aload_n 0, 1) := by decide +kernel
theorem dX3_makeRoom_18 : decode cX3_makeRoom 18 = .ok (.getfield 18, 3) := by decide +kernel
theorem dX3_makeRoom_21 : decode cX3_makeRoom 21 = .ok (.bipush 11, 2) := by decide +kernel
theorem dX3_makeRoom_23 : decode cX3_makeRoom 23 = .ok (.iaload, 1) := by decide +kernel
theorem dX3_makeRoom_24 : decode cX3_makeRoom 24 = .ok (.iload_n 2, 1) := by decide +kernel
theorem dX3_makeRoom_25 : decode cX3_makeRoom 25 = .ok (.invokestatic 88, 3) := by decide +kernel
theorem dX3_makeRoom_28 : decode cX3_makeRoom 28 = .ok (.iastore, 1) := by decide +kernel
theorem dX3_makeRoom_29 : decode cX3_makeRoom 29 = .ok (.iload_n 2, 1) := by decide +kernel
theorem dX3_makeRoom_30 : decode cX3_makeRoom 30 = .ok (.aload_n 0, 1) := by decide +kernel
theorem dX3_makeRoom_31 : decode cX3_makeRoom 31 = .ok (.getfield 25, 3) := by decide +kernel
theorem dX3_makeRoom_34 : decode cX3_makeRoom 34 = .ok (.iload_n 1, 1) := by decide +kernel
theorem dX3_makeRoom_35 : decode cX3_makeRoom 35 = .ok (.imul, 1) := by decide +kernel
theorem dX3_makeRoom_36 : decode cX3_makeRoom 36 = .ok (.if_icmp .ge 17, 3) := by decide +kernel
theorem dX3_makeRoom_39 : decode cX3_makeRoom 39 = .ok (.aload_n 0, 1) := by decide +kernel
theorem dX3_makeRoom_40 : decode cX3_makeRoom 40 = .ok (.getfield 74, 3) := by decide +kernel
theorem dX3_makeRoom_43 : decode cX3_makeRoom 43 = .ok (.aload_n 0, 1) := by decide +kernel
theorem dX3_makeRoom_44 : decode cX3_makeRoom 44 = .ok (.getfield 65, 3) := by decide +kernel
theorem dX3_makeRoom_47 : decode cX3_makeRoom 47 = .ok (.if_icmp .ge 6, 3) := by decide +kernel
theorem dX3_makeRoom_50 : decode cX3_makeRoom 50 = .ok (.bipush 8, 2) := by decide +kernel
theorem dX3_makeRoom_52 : decode cX3_makeRoom 52 = .ok (.ireturn, 1) := by decide +kernel
theorem dX3_makeRoom_53 : decode cX3_makeRoom 53 = .ok (.aload_n 0, 1) := by decide +kernel
theorem dX3_makeRoom_54 : decode cX3_makeRoom 54 = .ok (.getfield 34, 3) := by decide +kernel
theorem dX3_makeRoom_57 : decode cX3_makeRoom 57 = .ok (.aload_n 0, 1) := by decide +kernel
theorem dX3_makeRoom_58 : decode cX3_makeRoom 58 = .ok (.getfield 65, 3) := by decide +kernel
theorem dX3_makeRoom_61 : decode cX3_makeRoom 61 = .ok (.isub, 1) := by decide +kernel
theorem dX3_makeRoom_62 : decode cX3_makeRoom 62 = .ok (.iload_n 1, 1) := by decide +kernel
theorem dX3_makeRoom_63 : decode cX3_makeRoom 63 = .ok (.if_icmp .lt 5, 3) := by decide +kernel
theorem dX3_makeRoom_66 : decode cX3_makeRoom 66 = .ok (.iconst 0, 1) := by decide +kernel
theorem dX3_makeRoom_67 : decode cX3_makeRoom 67 = .ok (.ireturn, 1) := by decide +kernel
theorem dX3_makeRoom_68 : decode cX3_makeRoom 68 = .ok (.aload_n 0, 1) := by decide +kernel
theorem dX3_makeRoom_69 : decode cX3_makeRoom 69 = .ok (.getfield 74, 3) := by decide +kernel
theorem dX3_makeRoom_72 : decode cX3_makeRoom 72 = .ok (.aload_n 0, 1) := by decide +kernel
theorem dX3_makeRoom_73 : decode cX3_makeRoom 73 = .ok (.getfield 65, 3) := by decide +kernel
theorem dX3_makeRoom_76 : decode cX3_makeRoom 76 = .ok (.if_icmp .ge 17, 3) := by decide +kernel
theorem dX3_makeRoom_79 : decode cX3_makeRoom 79 = .ok (.aload_n 0, 1) := by decide +kernel
theorem dX3_makeRoom_80 : decode cX3_makeRoom 80 = .ok (.getfield 18, 3) := by decide +kernel
theorem dX3_makeRoom_83 : decode cX3_makeRoom 83 = .ok (.bipush 9, 2) := by decide +kernel
theorem dX3_makeRoom_85 : decode cX3_makeRoom 85 = .ok (.dup2, 1) := by decide +kernel
theorem dX3_makeRoom_86 : decode cX3_makeRoom 86 = .ok (.iaload, 1) := by decide +kernel
theorem dX3_makeRoom_87 : decode cX3_makeRoom 87 = .ok (.iconst 1, 1) := by decide +kernel
theorem dX3_makeRoom_88 : decode cX3_makeRoom 88 = .ok (.iadd, 1) := by decide +kernel
theorem dX3_makeRoom_89 : decode cX3_makeRoom 89 = .ok (.iastore, 1) := by decide +kernel
theorem dX3_makeRoom_90 : decode cX3_makeRoom 90 = .ok (.bipush 9, 2) := by decide +kernel
theorem dX3_makeRoom_92 : decode cX3_makeRoom 92 = .ok (.ireturn, 1) := by decide +kernel
theorem dX3_makeRoom_93 : decode cX3_makeRoom 93 = .ok (.aload_n 0, 1) := by decide +kernel
theorem dX3_makeRoom_94 : decode cX3_makeRoom 94 = .ok (.invokevirtual 93, 3) := by decide +kernel
theorem dX3_makeRoom_97 : decode cX3_makeRoom 97 = .ok (.aload_n 0, 1) := by decide +kernel
theorem dX3_makeRoom_98 : decode cX3_makeRoom 98 = .ok (.getfield 34, 3) := by decide +kernel
theorem dX3_makeRoom_101 : decode cX3_makeRoom 101 = .ok (.aload_n 0, 1) := by decide +kernel
theorem dX3_makeRoom_102 : decode cX3_makeRoom 102 = .ok (.getfield 65, 3) := by decide +kernel
theorem dX3_makeRoom_105 : decode cX3_makeRoom 105 = .ok (.isub, 1) := by decide +kernel
theorem dX3_makeRoom_106 : decode cX3_makeRoom 106 = .ok (.iload_n 1, 1) := by decide +kernel
theorem dX3_makeRoom_107 : decode cX3_makeRoom 107 = .ok (.if_icmp .lt 5, 3) := by decide +kernel
theorem dX3_makeRoom_110 : decode cX3_makeRoom 110 = .ok (.iconst 0, 1) := by decide +kernel
theorem dX3_makeRoom_111 : decode cX3_makeRoom 111 = .ok (.ireturn, 1) := by decide +kernel
theorem dX3_makeRoom_112 : decode cX3_makeRoom 112 = .ok (.aload_n 0, 1) := by decide +kernel
theorem dX3_makeRoom_113 : decode cX3_makeRoom 113 = .ok (.getfield 18, 3) := by decide +kernel
theorem dX3_makeRoom_116 : decode cX3_makeRoom 116 = .ok (.bipush 10, 2) := by decide +kernel
theorem dX3_makeRoom_118 : decode cX3_makeRoom 118 = .ok (.dup2, 1) := by decide +kernel
theorem dX3_makeRoom_119 : decode cX3_makeRoom 119 = .ok (.iaload, 1) := by decide +kernel
theorem dX3_makeRoom_120 : decode cX3_makeRoom 120 = .ok (.iconst 1, 1) := by decide +kernel
theorem dX3_makeRoom_121 : decode cX3_makeRoom 121 = .ok (.iadd, 1) := by decide +kernel
theorem dX3_makeRoom_122 : decode cX3_makeRoom 122 = .ok (.iastore, 1) := by decide +kernel
theorem dX3_makeRoom_123 : decode cX3_makeRoom 123 = .ok (.bipush 10, 2) := by decide +kernel
theorem dX3_makeRoom_125 : decode cX3_makeRoom 125 = .ok (.ireturn, 1) := by decide +kernel
theorem dX3_lay_0 : decode cX3_lay 0 = .ok (.aload_n 0, 1) := by decide +kernel
theorem dX3_lay_1 : decode cX3_lay 1 = .ok (.dup, 1) := by decide +kernel
theorem dX3_lay_2 : decode cX3_lay 2 = .ok (.getfield 34, 3) := by decide +kernel
theorem dX3_lay_5 : decode cX3_lay 5 = .ok (.iload_n 1, 1) := by decide +kernel
theorem dX3_lay_6 : decode cX3_lay 6 = .ok (.iconst 2, 1) := by decide +kernel
theorem dX3_lay_7 : decode cX3_lay 7 = .ok (.iadd, 1) := by decide +kernel
theorem dX3_lay_8 : decode cX3_lay 8 = .ok (.isub, 1) := by decide +kernel
theorem dX3_lay_9 : decode cX3_lay 9 = .ok (.putfield 34, 3) := by decide +kernel
theorem dX3_lay_12 : decode cX3_lay 12 = .ok (.aload_n 0, 1) := by decide +kernel
theorem dX3_lay_13 : decode cX3_lay 13 = .ok (.getfield 68, 3) := by decide +kernel
theorem dX3_lay_16 : decode cX3_lay 16 = .ok (.aload_n 0, 1) := by decide +kernel
theorem dX3_lay_17 : decode cX3_lay 17 = .ok (.getfield 21, 3) := by decide +kernel
theorem dX3_lay_20 : decode cX3_lay 20 = .ok (.imul, 1) := by decide +kernel
theorem dX3_lay_21 : decode cX3_lay 21 = .ok (.aload_n 0, 1) := by decide +kernel
theorem dX3_lay_22 : decode cX3_lay 22 = .ok (.getfield 34, 3) := by decide +kernel
theorem dX3_lay_25 : decode cX3_lay 25 = .ok (.iadd, 1) := by decide +kernel
theorem dX3_lay_26 : decode cX3_lay 26 = .ok (.istore_n 3, 1) := by decide +kernel
theorem dX3_lay_27 : decode cX3_lay 27 = .ok (.aload_n 0, 1) := by decide +kernel
theorem dX3_lay_28 : decode cX3_lay 28 = .ok (.getfield 28, 3) := by decide +kernel
theorem dX3_lay_31 : decode cX3_lay 31 = .ok (.iload_n 3, 1) := by decide +kernel
theorem dX3_lay_32 : decode cX3_lay 32 = .ok (.iload_n 2, 1) := by decide +kernel
theorem dX3_lay_33 : decode cX3_lay 33 = .ok (.iastore, 1) := by decide +kernel
theorem dX3_lay_34 : decode cX3_lay 34 = .ok (.aload_n 0, 1) := by decide +kernel
theorem dX3_lay_35 : decode cX3_lay 35 = .ok (.getfield 31, 3) := by decide +kernel
theorem dX3_lay_38 : decode cX3_lay 38 = .ok (.iload_n 3, 1) := by decide +kernel
theorem dX3_lay_39 : decode cX3_lay 39 = .ok (.iload_n 1, 1) := by decide +kernel
theorem dX3_lay_40 : decode cX3_lay 40 = .ok (.iastore, 1) := by decide +kernel
theorem dX3_lay_41 : decode cX3_lay 41 = .ok (.aload_n 0, 1) := by decide +kernel
theorem dX3_lay_42 : decode cX3_lay 42 = .ok (.getfield 28, 3) := by decide +kernel
theorem dX3_lay_45 : decode cX3_lay 45 = .ok (.iload_n 3, 1) := by decide +kernel
theorem dX3_lay_46 : decode cX3_lay 46 = .ok (.iconst 1, 1) := by decide +kernel
theorem dX3_lay_47 : decode cX3_lay 47 = .ok (.iadd, 1) := by decide +kernel
theorem dX3_lay_48 : decode cX3_lay 48 = .ok (.iconst 5, 1) := by decide +kernel
theorem dX3_lay_49 : decode cX3_lay 49 = .ok (.iastore, 1) := by decide +kernel
theorem dX3_lay_50 : decode cX3_lay 50 = .ok (.aload_n 0, 1) := by decide +kernel
theorem dX3_lay_51 : decode cX3_lay 51 = .ok (.getfield 31, 3) := by decide +kernel
theorem dX3_lay_54 : decode cX3_lay 54 = .ok (.iload_n 3, 1) := by decide +kernel
theorem dX3_lay_55 : decode cX3_lay 55 = .ok (.iconst 1, 1) := by decide +kernel
theorem dX3_lay_56 : decode cX3_lay 56 = .ok (.iadd, 1) := by decide +kernel
theorem dX3_lay_57 : decode cX3_lay 57 = .ok (.iconst 0, 1) := by decide +kernel
theorem dX3_lay_58 : decode cX3_lay 58 = .ok (.iastore, 1) := by decide +kernel
theorem dX3_lay_59 : decode cX3_lay 59 = .ok (.iload_n 3, 1) := by decide +kernel
theorem dX3_lay_60 : decode cX3_lay 60 = .ok (.iconst 2, 1) := by decide +kernel
theorem dX3_lay_61 : decode cX3_lay 61 = .ok (.iadd, 1) := by decide +kernel
theorem dX3_lay_62 : decode cX3_lay 62 = .ok (.istore 4, 2) := by decide +kernel
theorem dX3_lay_64 : decode cX3_lay 64 = .ok (.iload 4, 2) := by decide +kernel
theorem dX3_lay_66 : decode cX3_lay 66 = .ok (.iload_n 3, 1) := by decide +kernel
theorem dX3_lay_67 : decode cX3_lay 67 = .ok (.iconst 2, 1) := by decide +kernel
theorem dX3_lay_68 : decode cX3_lay 68 = .ok (.iadd, 1) := by decide +kernel
theorem dX3_lay_69 : decode cX3_lay 69 = .ok (.iload_n 1, 1) := by decide +kernel
theorem dX3_lay_70 : decode cX3_lay 70 = .ok (.iadd, 1) := by decide +kernel
theorem dX3_lay_71 : decode cX3_lay 71 = .ok (.if_icmp .ge 34, 3) := by decide +kernel
theorem dX3_lay_74 : decode cX3_lay 74 = .ok (.aload_n 0, 1) := by decide +kernel
theorem dX3_lay_75 : decode cX3_lay 75 = .ok (.getfield 28, 3) := by decide +kernel
theorem dX3_lay_78 : decode cX3_lay 78 = .ok (.iload 4, 2) := by decide +kernel
theorem dX3_lay_80 : decode cX3_lay 80 = .ok (.iload_n 2, 1) := by decide +kernel
theorem dX3_lay_81 : decode cX3_lay 81 = .ok (.iconst 3, 1) := by decide +kernel
theorem dX3_lay_82 : decode cX3_lay 82 = .ok (.if_icmp .ne 7, 3) := by decide +kernel
theorem dX3_lay_85 : decode cX3_lay 85 = .ok (.iconst 1, 1) := by decide +kernel
theorem dX3_lay_86 : decode cX3_lay 86 = .ok (.goto 4, 3) := by decide +kernel
theorem dX3_lay_89 : decode cX3_lay 89 = .ok (.iconst 0, 1) := by decide +kernel
theorem dX3_lay_90 : decode cX3_lay 90 = .ok (.iastore, 1) := by decide +kernel
theorem dX3_lay_91 : decode cX3_lay 91 = .ok (.aload_n 0, 1) := by decide +kernel
theorem dX3_lay_92 : decode cX3_lay 92 = .ok (.getfield 31, 3) := by decide +kernel
theorem dX3_lay_95 : decode cX3_lay 95 = .ok (.iload 4, 2) := by decide +kernel
theorem dX3_lay_97 : decode cX3_lay 97 = .ok (.iconst 0, 1) := by decide +kernel
theorem dX3_lay_98 : decode cX3_lay 98 = .ok (.iastore, 1) := by decide +kernel
theorem dX3_lay_99 : decode cX3_lay 99 = .ok (.iinc 4 1, 3) := by decide +kernel
theorem dX3_lay_102 : decode cX3_lay 102 = .ok (.goto (-38), 3) := by decide +kernel
theorem dX3_lay_105 : decode cX3_lay 105 = .ok (.aload_n 0, 1) := by decide +kernel
theorem dX3_lay_106 : decode cX3_lay 106 = .ok (.getfield 18, 3) := by decide +kernel
theorem dX3_lay_109 : decode cX3_lay 109 = .ok (.bipush 7, 2) := by decide +kernel
theorem dX3_lay_111 : decode cX3_lay 111 = .ok (.dup2, 1) := by decide +kernel
theorem dX3_lay_112 : decode cX3_lay 112 = .ok (.iaload, 1) := by decide +kernel
theorem dX3_lay_113 : decode cX3_lay 113 = .ok (.iconst 1, 1) := by decide +kernel
theorem dX3_lay_114 : decode cX3_lay 114 = .ok (.iadd, 1) := by decide +kernel
theorem dX3_lay_115 : decode cX3_lay 115 = .ok (.iastore, 1) := by decide +kernel
theorem dX3_lay_116 : decode cX3_lay 116 = .ok (.iload_n 3, 1) := by decide +kernel
theorem dX3_lay_117 : decode cX3_lay 117 = .ok (.ireturn, 1) := by decide +kernel
