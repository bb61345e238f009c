/-! ===== build: the law builds its text ===== -/
theorem dL_law_0 : decode cL_law 0 = .ok (.iconst 4, 1) := by decide +kernel
theorem dL_law_1 : decode cL_law 1 = .ok (.aload_n 0, 1) := by decide +kernel
theorem dL_law_2 : decode cL_law 2 = .ok (.iconst 0, 1) := by decide +kernel
theorem dL_law_3 : decode cL_law 3 = .ok (.invokestatic 266, 3) := by decide +kernel
theorem dL_law_6 : decode cL_law 6 = .ok (.bipush 18, 2) := by decide +kernel
theorem dL_law_8 : decode cL_law 8 = .ok (.irem, 1) := by decide +kernel
theorem dL_law_9 : decode cL_law 9 = .ok (.iadd, 1) := by decide +kernel
theorem dL_law_10 : decode cL_law 10 = .ok (.istore_n 1, 1) := by decide +kernel
theorem dL_law_11 : decode cL_law 11 = .ok (.new 252, 3) := by decide +kernel
theorem dL_law_14 : decode cL_law 14 = .ok (.dup, 1) := by decide +kernel
theorem dL_law_15 : decode cL_law 15 = .ok (.ldc_w 270, 3) := by decide +kernel
theorem dL_law_18 : decode cL_law 18 = .ok (.invokespecial 272, 3) := by decide +kernel
theorem dL_law_21 : decode cL_law 21 = .ok (.iload_n 1, 1) := by decide +kernel
theorem dL_law_22 : decode cL_law 22 = .ok (.invokevirtual 275, 3) := by decide +kernel
theorem dL_law_25 : decode cL_law 25 = .ok (.bipush 32, 2) := by decide +kernel
theorem dL_law_27 : decode cL_law 27 = .ok (.invokevirtual 255, 3) := by decide +kernel
theorem dL_law_30 : decode cL_law 30 = .ok (.iconst 1, 1) := by decide +kernel
theorem dL_law_31 : decode cL_law 31 = .ok (.aload_n 0, 1) := by decide +kernel
theorem dL_law_32 : decode cL_law 32 = .ok (.iconst 1, 1) := by decide +kernel
theorem dL_law_33 : decode cL_law 33 = .ok (.invokestatic 266, 3) := by decide +kernel
theorem dL_law_36 : decode cL_law 36 = .ok (.bipush 6, 2) := by decide +kernel
theorem dL_law_38 : decode cL_law 38 = .ok (.irem, 1) := by decide +kernel
theorem dL_law_39 : decode cL_law 39 = .ok (.iadd, 1) := by decide +kernel
theorem dL_law_40 : decode cL_law 40 = .ok (.invokevirtual 275, 3) := by decide +kernel
theorem dL_law_43 : decode cL_law 43 = .ok (.bipush 32, 2) := by decide +kernel
theorem dL_law_45 : decode cL_law 45 = .ok (.invokevirtual 255, 3) := by decide +kernel
theorem dL_law_48 : decode cL_law 48 = .ok (.aload_n 0, 1) := by decide +kernel
theorem dL_law_49 : decode cL_law 49 = .ok (.iconst 2, 1) := by decide +kernel
theorem dL_law_50 : decode cL_law 50 = .ok (.invokestatic 266, 3) := by decide +kernel
theorem dL_law_53 : decode cL_law 53 = .ok (.iconst 5, 1) := by decide +kernel
theorem dL_law_54 : decode cL_law 54 = .ok (.irem, 1) := by decide +kernel
theorem dL_law_55 : decode cL_law 55 = .ok (.invokevirtual 275, 3) := by decide +kernel
theorem dL_law_58 : decode cL_law 58 = .ok (.bipush 32, 2) := by decide +kernel
theorem dL_law_60 : decode cL_law 60 = .ok (.invokevirtual 255, 3) := by decide +kernel
theorem dL_law_63 : decode cL_law 63 = .ok (.iconst 1, 1) := by decide +kernel
theorem dL_law_64 : decode cL_law 64 = .ok (.aload_n 0, 1) := by decide +kernel
theorem dL_law_65 : decode cL_law 65 = .ok (.iconst 3, 1) := by decide +kernel
theorem dL_law_66 : decode cL_law 66 = .ok (.invokestatic 266, 3) := by decide +kernel
theorem dL_law_69 : decode cL_law 69 = .ok (.bipush 12, 2) := by decide +kernel
theorem dL_law_71 : decode cL_law 71 = .ok (.irem, 1) := by decide +kernel
theorem dL_law_72 : decode cL_law 72 = .ok (.iadd, 1) := by decide +kernel
theorem dL_law_73 : decode cL_law 73 = .ok (.invokevirtual 275, 3) := by decide +kernel
theorem dL_law_76 : decode cL_law 76 = .ok (.bipush 32, 2) := by decide +kernel
theorem dL_law_78 : decode cL_law 78 = .ok (.invokevirtual 255, 3) := by decide +kernel
theorem dL_law_81 : decode cL_law 81 = .ok (.iconst 1, 1) := by decide +kernel
theorem dL_law_82 : decode cL_law 82 = .ok (.aload_n 0, 1) := by decide +kernel
theorem dL_law_83 : decode cL_law 83 = .ok (.iconst 4, 1) := by decide +kernel
theorem dL_law_84 : decode cL_law 84 = .ok (.invokestatic 266, 3) := by decide +kernel
theorem dL_law_87 : decode cL_law 87 = .ok (.iconst 5, 1) := by decide +kernel
theorem dL_law_88 : decode cL_law 88 = .ok (.irem, 1) := by decide +kernel
theorem dL_law_89 : decode cL_law 89 = .ok (.iadd, 1) := by decide +kernel
theorem dL_law_90 : decode cL_law 90 = .ok (.invokevirtual 275, 3) := by decide +kernel
theorem dL_law_93 : decode cL_law 93 = .ok (.ldc_w 278, 3) := by decide +kernel
theorem dL_law_96 : decode cL_law 96 = .ok (.invokevirtual 280, 3) := by decide +kernel
theorem dL_law_99 : decode cL_law 99 = .ok (.astore_n 2, 1) := by decide +kernel
theorem dL_law_100 : decode cL_law 100 = .ok (.bipush 40, 2) := by decide +kernel
theorem dL_law_102 : decode cL_law 102 = .ok (.newarray .boolean, 2) := by decide +kernel
theorem dL_law_104 : decode cL_law 104 = .ok (.astore_n 3, 1) := by decide +kernel
theorem dL_law_105 : decode cL_law 105 = .ok (.bipush 40, 2) := by decide +kernel
theorem dL_law_107 : decode cL_law 107 = .ok (.newarray .boolean, 2) := by decide +kernel
theorem dL_law_109 : decode cL_law 109 = .ok (.astore 4, 2) := by decide +kernel
theorem dL_law_111 : decode cL_law 111 = .ok (.iconst 0, 1) := by decide +kernel
theorem dL_law_112 : decode cL_law 112 = .ok (.istore 5, 2) := by decide +kernel
theorem dL_law_114 : decode cL_law 114 = .ok (.iload 5, 2) := by decide +kernel
theorem dL_law_116 : decode cL_law 116 = .ok (.aload_n 0, 1) := by decide +kernel
theorem dL_law_117 : decode cL_law 117 = .ok (.iconst 5, 1) := by decide +kernel
theorem dL_law_118 : decode cL_law 118 = .ok (.invokestatic 266, 3) := by decide +kernel
theorem dL_law_121 : decode cL_law 121 = .ok (.iconst 5, 1) := by decide +kernel
theorem dL_law_122 : decode cL_law 122 = .ok (.irem, 1) := by decide +kernel
theorem dL_law_123 : decode cL_law 123 = .ok (.if_icmp .ge 117, 3) := by decide +kernel
theorem dL_law_126 : decode cL_law 126 = .ok (.aload_n 0, 1) := by decide +kernel
theorem dL_law_127 : decode cL_law 127 = .ok (.bipush 6, 2) := by decide +kernel
theorem dL_law_129 : decode cL_law 129 = .ok (.iload 5, 2) := by decide +kernel
theorem dL_law_131 : decode cL_law 131 = .ok (.iadd, 1) := by decide +kernel
theorem dL_law_132 : decode cL_law 132 = .ok (.invokestatic 266, 3) := by decide +kernel
theorem dL_law_135 : decode cL_law 135 = .ok (.iload_n 1, 1) := by decide +kernel
theorem dL_law_136 : decode cL_law 136 = .ok (.irem, 1) := by decide +kernel
theorem dL_law_137 : decode cL_law 137 = .ok (.istore 6, 2) := by decide +kernel
theorem dL_law_139 : decode cL_law 139 = .ok (.aload_n 3, 1) := by decide +kernel
theorem dL_law_140 : decode cL_law 140 = .ok (.iload 6, 2) := by decide +kernel
theorem dL_law_142 : decode cL_law 142 = .ok (.baload, 1) := by decide +kernel
theorem dL_law_143 : decode cL_law 143 = .ok (.ifCond .ne 86, 3) := by decide +kernel
theorem dL_law_146 : decode cL_law 146 = .ok (.aload_n 2, 1) := by decide +kernel
theorem dL_law_147 : decode cL_law 147 = .ok (.ldc_w 283, 3) := by decide +kernel
theorem dL_law_150 : decode cL_law 150 = .ok (.invokevirtual 280, 3) := by decide +kernel
theorem dL_law_153 : decode cL_law 153 = .ok (.iload 6, 2) := by decide +kernel
theorem dL_law_155 : decode cL_law 155 = .ok (.invokevirtual 275, 3) := by decide +kernel
theorem dL_law_158 : decode cL_law 158 = .ok (.bipush 32, 2) := by decide +kernel
theorem dL_law_160 : decode cL_law 160 = .ok (.invokevirtual 255, 3) := by decide +kernel
theorem dL_law_163 : decode cL_law 163 = .ok (.bipush 97, 2) := by decide +kernel
theorem dL_law_165 : decode cL_law 165 = .ok (.aload_n 0, 1) := by decide +kernel
theorem dL_law_166 : decode cL_law 166 = .ok (.bipush 12, 2) := by decide +kernel
theorem dL_law_168 : decode cL_law 168 = .ok (.iload 5, 2) := by decide +kernel
theorem dL_law_170 : decode cL_law 170 = .ok (.iadd, 1) := by decide +kernel
theorem dL_law_171 : decode cL_law 171 = .ok (.invokestatic 266, 3) := by decide +kernel
theorem dL_law_174 : decode cL_law 174 = .ok (.bipush 26, 2) := by decide +kernel
theorem dL_law_176 : decode cL_law 176 = .ok (.irem, 1) := by decide +kernel
theorem dL_law_177 : decode cL_law 177 = .ok (.iadd, 1) := by decide +kernel
theorem dL_law_178 : decode cL_law 178 = .ok (.i2c, 1) := by decide +kernel
theorem dL_law_179 : decode cL_law 179 = .ok (.invokevirtual 255, 3) := by decide +kernel
theorem dL_law_182 : decode cL_law 182 = .ok (.bipush 32, 2) := by decide +kernel
theorem dL_law_184 : decode cL_law 184 = .ok (.invokevirtual 255, 3) := by decide +kernel
theorem dL_law_187 : decode cL_law 187 = .ok (.aload_n 0, 1) := by decide +kernel
theorem dL_law_188 : decode cL_law 188 = .ok (.bipush 18, 2) := by decide +kernel
theorem dL_law_190 : decode cL_law 190 = .ok (.iload 5, 2) := by decide +kernel
theorem dL_law_192 : decode cL_law 192 = .ok (.iadd, 1) := by decide +kernel
theorem dL_law_193 : decode cL_law 193 = .ok (.invokestatic 266, 3) := by decide +kernel
theorem dL_law_196 : decode cL_law 196 = .ok (.iconst 2, 1) := by decide +kernel
theorem dL_law_197 : decode cL_law 197 = .ok (.irem, 1) := by decide +kernel
theorem dL_law_198 : decode cL_law 198 = .ok (.invokevirtual 275, 3) := by decide +kernel
theorem dL_law_201 : decode cL_law 201 = .ok (.bipush 32, 2) := by decide +kernel
theorem dL_law_203 : decode cL_law 203 = .ok (.invokevirtual 255, 3) := by decide +kernel
theorem dL_law_206 : decode cL_law 206 = .ok (.iconst 1, 1) := by decide +kernel
theorem dL_law_207 : decode cL_law 207 = .ok (.aload_n 0, 1) := by decide +kernel
theorem dL_law_208 : decode cL_law 208 = .ok (.bipush 24, 2) := by decide +kernel
theorem dL_law_210 : decode cL_law 210 = .ok (.iload 5, 2) := by decide +kernel
theorem dL_law_212 : decode cL_law 212 = .ok (.iadd, 1) := by decide +kernel
theorem dL_law_213 : decode cL_law 213 = .ok (.invokestatic 266, 3) := by decide +kernel
theorem dL_law_216 : decode cL_law 216 = .ok (.bipush 15, 2) := by decide +kernel
theorem dL_law_218 : decode cL_law 218 = .ok (.irem, 1) := by decide +kernel
theorem dL_law_219 : decode cL_law 219 = .ok (.iadd, 1) := by decide +kernel
theorem dL_law_220 : decode cL_law 220 = .ok (.invokevirtual 275, 3) := by decide +kernel
theorem dL_law_223 : decode cL_law 223 = .ok (.bipush 59, 2) := by decide +kernel
theorem dL_law_225 : decode cL_law 225 = .ok (.invokevirtual 255, 3) := by decide +kernel
theorem dL_law_228 : decode cL_law 228 = .ok (.pop, 1) := by decide +kernel
theorem dL_law_229 : decode cL_law 229 = .ok (.aload_n 3, 1) := by decide +kernel
theorem dL_law_230 : decode cL_law 230 = .ok (.iload 6, 2) := by decide +kernel
theorem dL_law_232 : decode cL_law 232 = .ok (.iconst 1, 1) := by decide +kernel
theorem dL_law_233 : decode cL_law 233 = .ok (.bastore, 1) := by decide +kernel
theorem dL_law_234 : decode cL_law 234 = .ok (.iinc 5 1, 3) := by decide +kernel
theorem dL_law_237 : decode cL_law 237 = .ok (.goto (-123), 3) := by decide +kernel
theorem dL_law_240 : decode cL_law 240 = .ok (.iconst 0, 1) := by decide +kernel
theorem dL_law_241 : decode cL_law 241 = .ok (.istore 5, 2) := by decide +kernel
theorem dL_law_243 : decode cL_law 243 = .ok (.iload 5, 2) := by decide +kernel
theorem dL_law_245 : decode cL_law 245 = .ok (.aload_n 0, 1) := by decide +kernel
theorem dL_law_246 : decode cL_law 246 = .ok (.bipush 30, 2) := by decide +kernel
theorem dL_law_248 : decode cL_law 248 = .ok (.invokestatic 266, 3) := by decide +kernel
theorem dL_law_251 : decode cL_law 251 = .ok (.iconst 3, 1) := by decide +kernel
theorem dL_law_252 : decode cL_law 252 = .ok (.irem, 1) := by decide +kernel
theorem dL_law_253 : decode cL_law 253 = .ok (.if_icmp .ge 76, 3) := by decide +kernel
theorem dL_law_256 : decode cL_law 256 = .ok (.aload_n 0, 1) := by decide +kernel
theorem dL_law_257 : decode cL_law 257 = .ok (.bipush 31, 2) := by decide +kernel
theorem dL_law_259 : decode cL_law 259 = .ok (.iload 5, 2) := by decide +kernel
theorem dL_law_261 : decode cL_law 261 = .ok (.iadd, 1) := by decide +kernel
theorem dL_law_262 : decode cL_law 262 = .ok (.invokestatic 266, 3) := by decide +kernel
theorem dL_law_265 : decode cL_law 265 = .ok (.iload_n 1, 1) := by decide +kernel
theorem dL_law_266 : decode cL_law 266 = .ok (.irem, 1) := by decide +kernel
theorem dL_law_267 : decode cL_law 267 = .ok (.istore 6, 2) := by decide +kernel
theorem dL_law_269 : decode cL_law 269 = .ok (.aload 4, 2) := by decide +kernel
theorem dL_law_271 : decode cL_law 271 = .ok (.iload 6, 2) := by decide +kernel
theorem dL_law_273 : decode cL_law 273 = .ok (.baload, 1) := by decide +kernel
theorem dL_law_274 : decode cL_law 274 = .ok (.ifCond .ne 43, 3) := by decide +kernel
theorem dL_law_277 : decode cL_law 277 = .ok (.aload_n 2, 1) := by decide +kernel
theorem dL_law_278 : decode cL_law 278 = .ok (.ldc_w 285, 3) := by decide +kernel
theorem dL_law_281 : decode cL_law 281 = .ok (.invokevirtual 280, 3) := by decide +kernel
theorem dL_law_284 : decode cL_law 284 = .ok (.iload 6, 2) := by decide +kernel
theorem dL_law_286 : decode cL_law 286 = .ok (.invokevirtual 275, 3) := by decide +kernel
theorem dL_law_289 : decode cL_law 289 = .ok (.bipush 32, 2) := by decide +kernel
theorem dL_law_291 : decode cL_law 291 = .ok (.invokevirtual 255, 3) := by decide +kernel
theorem dL_law_294 : decode cL_law 294 = .ok (.iconst 1, 1) := by decide +kernel
theorem dL_law_295 : decode cL_law 295 = .ok (.aload_n 0, 1) := by decide +kernel
theorem dL_law_296 : decode cL_law 296 = .ok (.bipush 34, 2) := by decide +kernel
theorem dL_law_298 : decode cL_law 298 = .ok (.iload 5, 2) := by decide +kernel
theorem dL_law_300 : decode cL_law 300 = .ok (.iadd, 1) := by decide +kernel
theorem dL_law_301 : decode cL_law 301 = .ok (.invokestatic 266, 3) := by decide +kernel
theorem dL_law_304 : decode cL_law 304 = .ok (.bipush 9, 2) := by decide +kernel
theorem dL_law_306 : decode cL_law 306 = .ok (.irem, 1) := by decide +kernel
theorem dL_law_307 : decode cL_law 307 = .ok (.iadd, 1) := by decide +kernel
theorem dL_law_308 : decode cL_law 308 = .ok (.invokevirtual 275, 3) := by decide +kernel
theorem dL_law_311 : decode cL_law 311 = .ok (.bipush 59, 2) := by decide +kernel
theorem dL_law_313 : decode cL_law 313 = .ok (.invokevirtual 255, 3) := by decide +kernel
theorem dL_law_316 : decode cL_law 316 = .ok (.pop, 1) := by decide +kernel
theorem dL_law_317 : decode cL_law 317 = .ok (.aload 4, 2) := by decide +kernel
theorem dL_law_319 : decode cL_law 319 = .ok (.iload 6, 2) := by decide +kernel
theorem dL_law_321 : decode cL_law 321 = .ok (.iconst 1, 1) := by decide +kernel
theorem dL_law_322 : decode cL_law 322 = .ok (.bastore, 1) := by decide +kernel
theorem dL_law_323 : decode cL_law 323 = .ok (.iinc 5 1, 3) := by decide +kernel
theorem dL_law_326 : decode cL_law 326 = .ok (.goto (-83), 3) := by decide +kernel
theorem dL_law_329 : decode cL_law 329 = .ok (.iconst 0, 1) := by decide +kernel
theorem dL_law_330 : decode cL_law 330 = .ok (.istore 5, 2) := by decide +kernel
theorem dL_law_332 : decode cL_law 332 = .ok (.iload 5, 2) := by decide +kernel
theorem dL_law_334 : decode cL_law 334 = .ok (.aload_n 0, 1) := by decide +kernel
theorem dL_law_335 : decode cL_law 335 = .ok (.bipush 37, 2) := by decide +kernel
theorem dL_law_337 : decode cL_law 337 = .ok (.invokestatic 266, 3) := by decide +kernel
theorem dL_law_340 : decode cL_law 340 = .ok (.bipush 6, 2) := by decide +kernel
theorem dL_law_342 : decode cL_law 342 = .ok (.irem, 1) := by decide +kernel
theorem dL_law_343 : decode cL_law 343 = .ok (.if_icmp .ge 97, 3) := by decide +kernel
theorem dL_law_346 : decode cL_law 346 = .ok (.aload_n 2, 1) := by decide +kernel
theorem dL_law_347 : decode cL_law 347 = .ok (.ldc_w 287, 3) := by decide +kernel
theorem dL_law_350 : decode cL_law 350 = .ok (.invokevirtual 280, 3) := by decide +kernel
theorem dL_law_353 : decode cL_law 353 = .ok (.aload_n 0, 1) := by decide +kernel
theorem dL_law_354 : decode cL_law 354 = .ok (.bipush 45, 2) := by decide +kernel
theorem dL_law_356 : decode cL_law 356 = .ok (.iload 5, 2) := by decide +kernel
theorem dL_law_358 : decode cL_law 358 = .ok (.iadd, 1) := by decide +kernel
theorem dL_law_359 : decode cL_law 359 = .ok (.invokestatic 266, 3) := by decide +kernel
theorem dL_law_362 : decode cL_law 362 = .ok (.iconst 2, 1) := by decide +kernel
theorem dL_law_363 : decode cL_law 363 = .ok (.irem, 1) := by decide +kernel
theorem dL_law_364 : decode cL_law 364 = .ok (.invokevirtual 275, 3) := by decide +kernel
theorem dL_law_367 : decode cL_law 367 = .ok (.bipush 32, 2) := by decide +kernel
theorem dL_law_369 : decode cL_law 369 = .ok (.invokevirtual 255, 3) := by decide +kernel
theorem dL_law_372 : decode cL_law 372 = .ok (.pop, 1) := by decide +kernel
theorem dL_law_373 : decode cL_law 373 = .ok (.iconst 0, 1) := by decide +kernel
theorem dL_law_374 : decode cL_law 374 = .ok (.istore 6, 2) := by decide +kernel
theorem dL_law_376 : decode cL_law 376 = .ok (.iload 6, 2) := by decide +kernel
theorem dL_law_378 : decode cL_law 378 = .ok (.aload_n 0, 1) := by decide +kernel
theorem dL_law_379 : decode cL_law 379 = .ok (.bipush 38, 2) := by decide +kernel
theorem dL_law_381 : decode cL_law 381 = .ok (.iload 5, 2) := by decide +kernel
theorem dL_law_383 : decode cL_law 383 = .ok (.iadd, 1) := by decide +kernel
theorem dL_law_384 : decode cL_law 384 = .ok (.invokestatic 266, 3) := by decide +kernel
theorem dL_law_387 : decode cL_law 387 = .ok (.iconst 5, 1) := by decide +kernel
theorem dL_law_388 : decode cL_law 388 = .ok (.irem, 1) := by decide +kernel
theorem dL_law_389 : decode cL_law 389 = .ok (.if_icmp .gt 38, 3) := by decide +kernel
theorem dL_law_392 : decode cL_law 392 = .ok (.aload_n 2, 1) := by decide +kernel
theorem dL_law_393 : decode cL_law 393 = .ok (.bipush 97, 2) := by decide +kernel
theorem dL_law_395 : decode cL_law 395 = .ok (.aload_n 0, 1) := by decide +kernel
theorem dL_law_396 : decode cL_law 396 = .ok (.bipush 38, 2) := by decide +kernel
theorem dL_law_398 : decode cL_law 398 = .ok (.iload 5, 2) := by decide +kernel
theorem dL_law_400 : decode cL_law 400 = .ok (.iadd, 1) := by decide +kernel
theorem dL_law_401 : decode cL_law 401 = .ok (.invokestatic 266, 3) := by decide +kernel
theorem dL_law_404 : decode cL_law 404 = .ok (.iconst 5, 1) := by decide +kernel
theorem dL_law_405 : decode cL_law 405 = .ok (.idiv, 1) := by decide +kernel
theorem dL_law_406 : decode cL_law 406 = .ok (.bipush 7, 2) := by decide +kernel
theorem dL_law_408 : decode cL_law 408 = .ok (.iload 6, 2) := by decide +kernel
theorem dL_law_410 : decode cL_law 410 = .ok (.imul, 1) := by decide +kernel
theorem dL_law_411 : decode cL_law 411 = .ok (.iadd, 1) := by decide +kernel
theorem dL_law_412 : decode cL_law 412 = .ok (.bipush 26, 2) := by decide +kernel
theorem dL_law_414 : decode cL_law 414 = .ok (.irem, 1) := by decide +kernel
theorem dL_law_415 : decode cL_law 415 = .ok (.iadd, 1) := by decide +kernel
theorem dL_law_416 : decode cL_law 416 = .ok (.i2c, 1) := by decide +kernel
theorem dL_law_417 : decode cL_law 417 = .ok (.invokevirtual 255, 3) := by decide +kernel
theorem dL_law_420 : decode cL_law 420 = .ok (.pop, 1) := by decide +kernel
theorem dL_law_421 : decode cL_law 421 = .ok (.iinc 6 1, 3) := by decide +kernel
theorem dL_law_424 : decode cL_law 424 = .ok (.goto (-48), 3) := by decide +kernel
theorem dL_law_427 : decode cL_law 427 = .ok (.aload_n 2, 1) := by decide +kernel
theorem dL_law_428 : decode cL_law 428 = .ok (.bipush 59, 2) := by decide +kernel
theorem dL_law_430 : decode cL_law 430 = .ok (.invokevirtual 255, 3) := by decide +kernel
theorem dL_law_433 : decode cL_law 433 = .ok (.pop, 1) := by decide +kernel
theorem dL_law_434 : decode cL_law 434 = .ok (.iinc 5 1, 3) := by decide +kernel
theorem dL_law_437 : decode cL_law 437 = .ok (.goto (-105), 3) := by decide +kernel
theorem dL_law_440 : decode cL_law 440 = .ok (.new 15, 3) := by decide +kernel
theorem dL_law_443 : decode cL_law 443 = .ok (.dup, 1) := by decide +kernel
theorem dL_law_444 : decode cL_law 444 = .ok (.invokespecial 289, 3) := by decide +kernel
theorem dL_law_447 : decode cL_law 447 = .ok (.astore 5, 2) := by decide +kernel
theorem dL_law_449 : decode cL_law 449 = .ok (.aload 5, 2) := by decide +kernel
theorem dL_law_451 : decode cL_law 451 = .ok (.aload_n 2, 1) := by decide +kernel
theorem dL_law_452 : decode cL_law 452 = .ok (.invokevirtual 258, 3) := by decide +kernel
theorem dL_law_455 : decode cL_law 455 = .ok (.invokestatic 290, 3) := by decide +kernel
theorem dL_law_458 : decode cL_law 458 = .ok (.iload_n 1, 1) := by decide +kernel
theorem dL_law_459 : decode cL_law 459 = .ok (.if_icmp .ne 11, 3) := by decide +kernel
theorem dL_law_462 : decode cL_law 462 = .ok (.aload 5, 2) := by decide +kernel
theorem dL_law_464 : decode cL_law 464 = .ok (.invokestatic 293, 3) := by decide +kernel
theorem dL_law_467 : decode cL_law 467 = .ok (.ifCond .ne 5, 3) := by decide +kernel
theorem dL_law_470 : decode cL_law 470 = .ok (.iconst 0, 1) := by decide +kernel
theorem dL_law_471 : decode cL_law 471 = .ok (.ireturn, 1) := by decide +kernel
theorem dL_law_472 : decode cL_law 472 = .ok (.iconst 0, 1) := by decide +kernel
theorem dL_law_473 : decode cL_law 473 = .ok (.istore 6, 2) := by decide +kernel
theorem dL_law_475 : decode cL_law 475 = .ok (.iload 6, 2) := by decide +kernel
theorem dL_law_477 : decode cL_law 477 = .ok (.bipush 12, 2) := by decide +kernel
theorem dL_law_479 : decode cL_law 479 = .ok (.if_icmp .ge 167, 3) := by decide +kernel
theorem dL_law_482 : decode cL_law 482 = .ok (.aload_n 0, 1) := by decide +kernel
theorem dL_law_483 : decode cL_law 483 = .ok (.bipush 60, 2) := by decide +kernel
theorem dL_law_485 : decode cL_law 485 = .ok (.iconst 4, 1) := by decide +kernel
theorem dL_law_486 : decode cL_law 486 = .ok (.iload 6, 2) := by decide +kernel
theorem dL_law_488 : decode cL_law 488 = .ok (.imul, 1) := by decide +kernel
theorem dL_law_489 : decode cL_law 489 = .ok (.iadd, 1) := by decide +kernel
theorem dL_law_490 : decode cL_law 490 = .ok (.invokestatic 266, 3) := by decide +kernel
theorem dL_law_493 : decode cL_law 493 = .ok (.bipush 10, 2) := by decide +kernel
theorem dL_law_495 : decode cL_law 495 = .ok (.irem, 1) := by decide +kernel
theorem dL_law_496 : decode cL_law 496 = .ok (.istore 7, 2) := by decide +kernel
theorem dL_law_498 : decode cL_law 498 = .ok (.aload_n 0, 1) := by decide +kernel
theorem dL_law_499 : decode cL_law 499 = .ok (.bipush 61, 2) := by decide +kernel
theorem dL_law_501 : decode cL_law 501 = .ok (.iconst 4, 1) := by decide +kernel
theorem dL_law_502 : decode cL_law 502 = .ok (.iload 6, 2) := by decide +kernel
theorem dL_law_504 : decode cL_law 504 = .ok (.imul, 1) := by decide +kernel
theorem dL_law_505 : decode cL_law 505 = .ok (.iadd, 1) := by decide +kernel
theorem dL_law_506 : decode cL_law 506 = .ok (.invokestatic 266, 3) := by decide +kernel
theorem dL_law_509 : decode cL_law 509 = .ok (.istore 8, 2) := by decide +kernel
theorem dL_law_511 : decode cL_law 511 = .ok (.aload_n 0, 1) := by decide +kernel
theorem dL_law_512 : decode cL_law 512 = .ok (.bipush 62, 2) := by decide +kernel
theorem dL_law_514 : decode cL_law 514 = .ok (.iconst 4, 1) := by decide +kernel
theorem dL_law_515 : decode cL_law 515 = .ok (.iload 6, 2) := by decide +kernel
theorem dL_law_517 : decode cL_law 517 = .ok (.imul, 1) := by decide +kernel
theorem dL_law_518 : decode cL_law 518 = .ok (.iadd, 1) := by decide +kernel
theorem dL_law_519 : decode cL_law 519 = .ok (.invokestatic 266, 3) := by decide +kernel
theorem dL_law_522 : decode cL_law 522 = .ok (.istore 9, 2) := by decide +kernel
theorem dL_law_524 : decode cL_law 524 = .ok (.aload_n 0, 1) := by decide +kernel
theorem dL_law_525 : decode cL_law 525 = .ok (.bipush 63, 2) := by decide +kernel
theorem dL_law_527 : decode cL_law 527 = .ok (.iconst 4, 1) := by decide +kernel
theorem dL_law_528 : decode cL_law 528 = .ok (.iload 6, 2) := by decide +kernel
theorem dL_law_530 : decode cL_law 530 = .ok (.imul, 1) := by decide +kernel
theorem dL_law_531 : decode cL_law 531 = .ok (.iadd, 1) := by decide +kernel
theorem dL_law_532 : decode cL_law 532 = .ok (.invokestatic 266, 3) := by decide +kernel
theorem dL_law_535 : decode cL_law 535 = .ok (.istore 10, 2) := by decide +kernel
theorem dL_law_537 : decode cL_law 537 = .ok (.aload 5, 2) := by decide +kernel
theorem dL_law_539 : decode cL_law 539 = .ok (.invokestatic 297, 3) := by decide +kernel
theorem dL_law_542 : decode cL_law 542 = .ok (.lstore 11, 2) := by decide +kernel
theorem dL_law_544 : decode cL_law 544 = .ok (.aload 5, 2) := by decide +kernel
theorem dL_law_546 : decode cL_law 546 = .ok (.iload 7, 2) := by decide +kernel
theorem dL_law_548 : decode cL_law 548 = .ok (.iload 8, 2) := by decide +kernel
theorem dL_law_550 : decode cL_law 550 = .ok (.iload 9, 2) := by decide +kernel
theorem dL_law_552 : decode cL_law 552 = .ok (.iload 10, 2) := by decide +kernel
theorem dL_law_554 : decode cL_law 554 = .ok (.invokestatic 301, 3) := by decide +kernel
theorem dL_law_557 : decode cL_law 557 = .ok (.ifCond .eq 11, 3) := by decide +kernel
theorem dL_law_560 : decode cL_law 560 = .ok (.aload 5, 2) := by decide +kernel
theorem dL_law_562 : decode cL_law 562 = .ok (.invokestatic 293, 3) := by decide +kernel
theorem dL_law_565 : decode cL_law 565 = .ok (.ifCond .ne 5, 3) := by decide +kernel
theorem dL_law_568 : decode cL_law 568 = .ok (.iconst 0, 1) := by decide +kernel
theorem dL_law_569 : decode cL_law 569 = .ok (.ireturn, 1) := by decide +kernel
theorem dL_law_570 : decode cL_law 570 = .ok (.aload 5, 2) := by decide +kernel
theorem dL_law_572 : decode cL_law 572 = .ok (.invokestatic 297, 3) := by decide +kernel
theorem dL_law_575 : decode cL_law 575 = .ok (.lstore 13, 2) := by decide +kernel
theorem dL_law_577 : decode cL_law 577 = .ok (.lload 13, 2) := by decide +kernel
theorem dL_law_579 : decode cL_law 579 = .ok (.lload 11, 2) := by decide +kernel
theorem dL_law_581 : decode cL_law 581 = .ok (.lcmp, 1) := by decide +kernel
theorem dL_law_582 : decode cL_law 582 = .ok (.ifCond .ne 6, 3) := by decide +kernel
theorem dL_law_585 : decode cL_law 585 = .ok (.goto 55, 3) := by decide +kernel
theorem dL_law_588 : decode cL_law 588 = .ok (.aload 5, 2) := by decide +kernel
theorem dL_law_590 : decode cL_law 590 = .ok (.bipush 8, 2) := by decide +kernel
theorem dL_law_592 : decode cL_law 592 = .ok (.iconst 0, 1) := by decide +kernel
theorem dL_law_593 : decode cL_law 593 = .ok (.iconst 0, 1) := by decide +kernel
theorem dL_law_594 : decode cL_law 594 = .ok (.invokestatic 241, 3) := by decide +kernel
theorem dL_law_597 : decode cL_law 597 = .ok (.ifCond .lt 41, 3) := by decide +kernel
theorem dL_law_600 : decode cL_law 600 = .ok (.aload 5, 2) := by decide +kernel
theorem dL_law_602 : decode cL_law 602 = .ok (.invokestatic 297, 3) := by decide +kernel
theorem dL_law_605 : decode cL_law 605 = .ok (.lload 11, 2) := by decide +kernel
theorem dL_law_607 : decode cL_law 607 = .ok (.lcmp, 1) := by decide +kernel
theorem dL_law_608 : decode cL_law 608 = .ok (.ifCond .ne 30, 3) := by decide +kernel
theorem dL_law_611 : decode cL_law 611 = .ok (.aload 5, 2) := by decide +kernel
theorem dL_law_613 : decode cL_law 613 = .ok (.iload 7, 2) := by decide +kernel
theorem dL_law_615 : decode cL_law 615 = .ok (.iload 8, 2) := by decide +kernel
theorem dL_law_617 : decode cL_law 617 = .ok (.iload 9, 2) := by decide +kernel
theorem dL_law_619 : decode cL_law 619 = .ok (.iload 10, 2) := by decide +kernel
theorem dL_law_621 : decode cL_law 621 = .ok (.invokestatic 301, 3) := by decide +kernel
theorem dL_law_624 : decode cL_law 624 = .ok (.ifCond .eq 14, 3) := by decide +kernel
theorem dL_law_627 : decode cL_law 627 = .ok (.aload 5, 2) := by decide +kernel
theorem dL_law_629 : decode cL_law 629 = .ok (.invokestatic 297, 3) := by decide +kernel
theorem dL_law_632 : decode cL_law 632 = .ok (.lload 13, 2) := by decide +kernel
theorem dL_law_634 : decode cL_law 634 = .ok (.lcmp, 1) := by decide +kernel
theorem dL_law_635 : decode cL_law 635 = .ok (.ifCond .eq 5, 3) := by decide +kernel
theorem dL_law_638 : decode cL_law 638 = .ok (.iconst 0, 1) := by decide +kernel
theorem dL_law_639 : decode cL_law 639 = .ok (.ireturn, 1) := by decide +kernel
theorem dL_law_640 : decode cL_law 640 = .ok (.iinc 6 1, 3) := by decide +kernel
theorem dL_law_643 : decode cL_law 643 = .ok (.goto (-168), 3) := by decide +kernel
theorem dL_law_646 : decode cL_law 646 = .ok (.aload 5, 2) := by decide +kernel
theorem dL_law_648 : decode cL_law 648 = .ok (.invokestatic 297, 3) := by decide +kernel
theorem dL_law_651 : decode cL_law 651 = .ok (.lstore 6, 2) := by decide +kernel
theorem dL_law_653 : decode cL_law 653 = .ok (.aload 5, 2) := by decide +kernel
theorem dL_law_655 : decode cL_law 655 = .ok (.invokevirtual 88, 3) := by decide +kernel
theorem dL_law_658 : decode cL_law 658 = .ok (.istore 8, 2) := by decide +kernel
theorem dL_law_660 : decode cL_law 660 = .ok (.aload 5, 2) := by decide +kernel
theorem dL_law_662 : decode cL_law 662 = .ok (.invokevirtual 305, 3) := by decide +kernel
theorem dL_law_665 : decode cL_law 665 = .ok (.iload 8, 2) := by decide +kernel
theorem dL_law_667 : decode cL_law 667 = .ok (.if_icmp .ne 54, 3) := by decide +kernel
theorem dL_law_670 : decode cL_law 670 = .ok (.aload 5, 2) := by decide +kernel
theorem dL_law_672 : decode cL_law 672 = .ok (.bipush 7, 2) := by decide +kernel
theorem dL_law_674 : decode cL_law 674 = .ok (.iconst 2, 1) := by decide +kernel
theorem dL_law_675 : decode cL_law 675 = .ok (.iconst 0, 1) := by decide +kernel
theorem dL_law_676 : decode cL_law 676 = .ok (.invokestatic 241, 3) := by decide +kernel
theorem dL_law_679 : decode cL_law 679 = .ok (.ifCond .lt 42, 3) := by decide +kernel
theorem dL_law_682 : decode cL_law 682 = .ok (.aload 5, 2) := by decide +kernel
theorem dL_law_684 : decode cL_law 684 = .ok (.invokevirtual 308, 3) := by decide +kernel
theorem dL_law_687 : decode cL_law 687 = .ok (.iload 8, 2) := by decide +kernel
theorem dL_law_689 : decode cL_law 689 = .ok (.if_icmp .ne 32, 3) := by decide +kernel
theorem dL_law_692 : decode cL_law 692 = .ok (.aload 5, 2) := by decide +kernel
theorem dL_law_694 : decode cL_law 694 = .ok (.invokestatic 297, 3) := by decide +kernel
theorem dL_law_697 : decode cL_law 697 = .ok (.lload 6, 2) := by decide +kernel
theorem dL_law_699 : decode cL_law 699 = .ok (.lcmp, 1) := by decide +kernel
theorem dL_law_700 : decode cL_law 700 = .ok (.ifCond .ne 21, 3) := by decide +kernel
theorem dL_law_703 : decode cL_law 703 = .ok (.aload 5, 2) := by decide +kernel
theorem dL_law_705 : decode cL_law 705 = .ok (.bipush 8, 2) := by decide +kernel
theorem dL_law_707 : decode cL_law 707 = .ok (.iconst 0, 1) := by decide +kernel
theorem dL_law_708 : decode cL_law 708 = .ok (.iconst 0, 1) := by decide +kernel
theorem dL_law_709 : decode cL_law 709 = .ok (.invokestatic 241, 3) := by decide +kernel
theorem dL_law_712 : decode cL_law 712 = .ok (.bipush (-3), 2) := by decide +kernel
theorem dL_law_714 : decode cL_law 714 = .ok (.if_icmp .ne 7, 3) := by decide +kernel
theorem dL_law_717 : decode cL_law 717 = .ok (.iconst 1, 1) := by decide +kernel
theorem dL_law_718 : decode cL_law 718 = .ok (.goto 4, 3) := by decide +kernel
theorem dL_law_721 : decode cL_law 721 = .ok (.iconst 0, 1) := by decide +kernel
theorem dL_law_722 : decode cL_law 722 = .ok (.ireturn, 1) := by decide +kernel
theorem digs_le {v : Nat} : (digs v).length ≤ 2 := by
  rw [digs_len]
  split <;> decide
/-- the builder of the law's text; nothing of the class is there -/
def TH (w0 : WP) (X : CX) (kx b : Nat) (T : List Nat) (n : Nat) (I : ID → Prop) (ad : ID → Nat) (ct : CT) : Prop :=
  TB w0 X cL_law "HedgeMessagesLaw" (some .boolean) 15 15 (31, 0, 0, 0) b T n I ad ct ∧ ∀ z, wOk (wM w0 I ad) z → 30 ≤ z.1 ∧ z.1 ≤ kx
/-- and two rows of booleans -/
def TL (w0 : WP) (X : CX) (b : Nat) (T : List Nat) (n : Nat) (aH aN : Nat) (f1 f2 : Nat → Int32) (I : ID → Prop) (ad : ID → Nat) (ct : CT) : Prop :=
  TH w0 X 32 b T n I ad ct ∧ (wFr (wM w0 I ad) (32, 0, 0, 0) ∧ ad (32, 0, 0, 0) = aH ∧ ct (32, 0, 0, 0) = .inl (wZ w0, 40, .inl f1)) ∧ (wFr (wM w0 I ad) (32, 1, 0, 0) ∧ ad (32, 1, 0, 0) = aN ∧ ct (32, 1, 0, 0) = .inl (wZ w0, 40, .inl f2))
theorem TH.C {w0 : WP} {X : CX} {kx b : Nat} {T : List Nat} {n : Nat} {I : ID → Prop} {ad : ID → Nat} {ct : CT} (h : TH w0 X kx b T n I ad ct) : gC (wM w0 I ad) X cL_law "HedgeMessagesLaw" (some .boolean) 15 15 := h.1.2.2.1
theorem TH.S {w0 : WP} {X : CX} {kx b : Nat} {T : List Nat} {n : Nat} {I : ID → Prop} {ad : ID → Nat} {ct : CT} (h : TH w0 X kx b T n I ad ct) (hS : gS w0) : gS (wM w0 I ad) := gS_N hS h.1.1 h.1.2.2.2.1
theorem th_app {w0 : WP} {X : CX} {kx b : Nat} {T : List Nat} {n : Nat} {I : ID → Prop} {ad : ID → Nat} {ct : CT} (hkx : 30 ≤ kx) (hS : gS w0) (hY : gY w0) (h : TH w0 X kx b T n I ad ct) {Q : QT} {pc : Nat} {lo : List (Nat × Value)} {st : List Value} {T' : List Nat} {d' idx nLy ny : Nat} {y : MethodName} {ccy : ByteArray} (As : List Value)
    (hM : ∀ (iV iW : ID) (L : Nat), gS (wM w0 I ad) → gY (wM w0 I ad) → gD (wM w0 I ad) → sbIn (wM w0 I ad) ct (31, 0, 0, 0) iV T L → wAd (wM w0 I ad) (31, 0, 0, 0) = b → ¬ wOk (wM w0 I ad) iW → 30 ≤ iW.1 → gMe (wM w0 I ad) d' y ccy nLy (some (.object "java/lang/StringBuilder")) (.ref b :: As) ct (sbPost (wM w0 I ad) ct (31, 0, 0, 0) iV iW T' (some (.ref b))) 1 1000) (Y : gYB y ccy nLy (some (.object "java/lang/StringBuilder")) ny) (hse : Cond.selects "java/lang/StringBuilder" y y ∈ lw_tbl) (hsk : tkw (Cond.selects "java/lang/StringBuilder" y y) = true) (hli : Cond.methodLink "HedgeMessagesLaw" idx y ∈ lw_tbl) (hn : As.length = ny) (hdd : d' + 1 ≤ 15) (hnl : nLy ≤ 21) (hst : (st.map fun v => v.category).sum ≤ 8) {stk : List Value} (hstk : stk = As.reverse ++ .ref b :: st) (hd : decode cL_law pc = .ok (.invokevirtual idx, 3)) (hq : qOk X (Q.1, Q.2.1 + 1, Q.2.2 + 1000))
    (k : ∀ I' ad' ct', TH w0 X kx b T' (n + 1) I' ad' ct' → (∀ z : ID, z.1 ≠ 30 → z ≠ (31, 0, 0, 0) → ct' z = ct z) → (∀ z, wFr (wM w0 I ad) z → ad' z = ad z ∧ wFr (wM w0 I' ad') z) → gU (wM w0 I' ad') X (Q.1, Q.2.1 + 1, Q.2.2 + 1000) ct' (pc + 3) lo (.ref b :: st)) : gU (wM w0 I ad) X Q ct pc lo stk := by
  refine tb_app hS hY h.1 As hM Y hse hsk hli hn hdd hnl hst hstk hd hq fun I' ad' ct' h1 h2 h3 h4 => k I' ad' ct' ⟨h1, fun z hz => ?_⟩ h2 h3
  by_cases h9 : z.1 = 30
  · rw [h9]
    exact ⟨Nat.le_refl 30, hkx⟩
  · exact h.2 z (h4 z h9 hz)
theorem tl_app {w0 : WP} {X : CX} {b : Nat} {T : List Nat} {n : Nat} {I : ID → Prop} {ad : ID → Nat} {ct : CT} {aH aN : Nat} {f1 f2 : Nat → Int32} (hS : gS w0) (hY : gY w0) (h : TL w0 X b T n aH aN f1 f2 I ad ct) {Q : QT} {pc : Nat} {lo : List (Nat × Value)} {st : List Value} {T' : List Nat} {d' idx nLy ny : Nat} {y : MethodName} {ccy : ByteArray} (As : List Value)
    (hM : ∀ (iV iW : ID) (L : Nat), gS (wM w0 I ad) → gY (wM w0 I ad) → gD (wM w0 I ad) → sbIn (wM w0 I ad) ct (31, 0, 0, 0) iV T L → wAd (wM w0 I ad) (31, 0, 0, 0) = b → ¬ wOk (wM w0 I ad) iW → 30 ≤ iW.1 → gMe (wM w0 I ad) d' y ccy nLy (some (.object "java/lang/StringBuilder")) (.ref b :: As) ct (sbPost (wM w0 I ad) ct (31, 0, 0, 0) iV iW T' (some (.ref b))) 1 1000) (Y : gYB y ccy nLy (some (.object "java/lang/StringBuilder")) ny) (hse : Cond.selects "java/lang/StringBuilder" y y ∈ lw_tbl) (hsk : tkw (Cond.selects "java/lang/StringBuilder" y y) = true) (hli : Cond.methodLink "HedgeMessagesLaw" idx y ∈ lw_tbl) (hn : As.length = ny) (hdd : d' + 1 ≤ 15) (hnl : nLy ≤ 21) (hst : (st.map fun v => v.category).sum ≤ 8) {stk : List Value} (hstk : stk = As.reverse ++ .ref b :: st) (hd : decode cL_law pc = .ok (.invokevirtual idx, 3)) (hq : qOk X (Q.1, Q.2.1 + 1, Q.2.2 + 1000))
    (k : ∀ I' ad' ct', TL w0 X b T' (n + 1) aH aN f1 f2 I' ad' ct' → gU (wM w0 I' ad') X (Q.1, Q.2.1 + 1, Q.2.2 + 1000) ct' (pc + 3) lo (.ref b :: st)) : gU (wM w0 I ad) X Q ct pc lo stk := by
  obtain ⟨h0, ⟨a1, a2, a3⟩, ⟨b1, b2, b3⟩⟩ := h
  refine th_app (by decide) hS hY h0 As hM Y hse hsk hli hn hdd hnl hst hstk hd hq fun I' ad' ct' h1 h2 h3 => k I' ad' ct' ⟨h1, ⟨(h3 _ a1).2, (h3 _ a1).1.trans a2, (h2 _ (by decide) (by decide)).trans a3⟩, ⟨(h3 _ b1).2, (h3 _ b1).1.trans b2, (h2 _ (by decide) (by decide)).trans b3⟩⟩
theorem th_row {w0 : WP} {X : CX} {kx b : Nat} {T : List Nat} {n : Nat} {I : ID → Prop} {ad ad2 : ID → Nat} {ct : CT} {z0 : ID} {e : va_E} (h : TH w0 X kx b T n I ad ct) (hk : kx ≤ 32) (h0 : z0.1 = 32) (hag : gAg (wM w0 I ad) (one z0) ad2) (hbh : gBh X (one z0) ad2) (C : gC (wM (wM w0 I ad) (one z0) ad2) X cL_law "HedgeMessagesLaw" (some .boolean) 15 15) : TH w0 X 32 b T n (fun k => I k ∨ one z0 k) ad2 (upE ct z0 e) := by
  obtain ⟨⟨a1, a2, a3, a4, a5, a6, a7, iC, L, a8, a9⟩, hz⟩ := h
  have hD := gD_C a3
  have n1 : ((31, 0, 0, 0) : ID) ≠ z0 := fun e => by rw [← e] at h0; exact absurd h0 (by decide)
  have n2 : iC ≠ z0 := fun e => by rw [← e, a8] at h0; exact absurd h0 (by decide)
  have hs := a9.m (ct' := upE ct z0 e) hD hag (upE_n n1) (upE_n n2)
  rw [wM_M] at C hs
  refine ⟨⟨gAg_M a1 hag, gBh_M a2 hag hbh, C, ?_, ?_, (hag.1 _ (hD.2.1 _ a9.1)).trans a6, by decide, iC, L, a8, hs⟩, ?_⟩
  · rintro z (h | h)
    · exact a4 z h
    · rw [show z = z0 from h, h0]
      decide
  · rintro m hm (h | h | h)
    · exact a5 m hm (Or.inl h)
    · exact a5 m hm (Or.inr h)
    · rw [← show (30, m, 0, 0) = z0 from h] at h0
      exact absurd h0 (show ¬ 30 = 32 by decide)
  · rintro z (h | h | h)
    · exact ⟨(hz z (Or.inl h)).1, Nat.le_trans (hz z (Or.inl h)).2 hk⟩
    · exact ⟨(hz z (Or.inr h)).1, Nat.le_trans (hz z (Or.inr h)).2 hk⟩
    · rw [show z = z0 from h, h0]
      decide
/-! the text -/
section TEXT
variable (L : Nat) (xs : Nat → Int32)
noncomputable def lwS : Nat := 4 + cellN L xs 0 % 18
noncomputable def lwT0 : List Nat := stN 27 ++ digs (lwS L xs) ++ [32] ++ digs (1 + cellN L xs 1 % 6) ++ [32] ++ digs (cellN L xs 2 % 5) ++ [32] ++ digs (1 + cellN L xs 3 % 12) ++ [32] ++ digs (1 + cellN L xs 4 % 5) ++ stN 28
noncomputable def lwTw (k : Nat) (q : List Nat × (Nat → Int32)) : List Nat × (Nat → Int32) :=
  ((if q.2 (cellN L xs (6 + k) % lwS L xs) = 0 then q.1 ++ stN 29 ++ digs (cellN L xs (6 + k) % lwS L xs) ++ [32] ++ [97 + cellN L xs (12 + k) % 26] ++ [32] ++ digs (cellN L xs (18 + k) % 2) ++ [32] ++ digs (1 + cellN L xs (24 + k) % 15) ++ [59] else q.1), upd q.2 (cellN L xs (6 + k) % lwS L xs) 1)
noncomputable def lwTws : Nat → List Nat × (Nat → Int32)
  | 0 => (lwT0 L xs, fun _ => 0)
  | k + 1 => lwTw L xs k (lwTws k)
noncomputable def lwNe (k : Nat) (q : List Nat × (Nat → Int32)) : List Nat × (Nat → Int32) :=
  ((if q.2 (cellN L xs (31 + k) % lwS L xs) = 0 then q.1 ++ stN 30 ++ digs (cellN L xs (31 + k) % lwS L xs) ++ [32] ++ digs (1 + cellN L xs (34 + k) % 9) ++ [59] else q.1), upd q.2 (cellN L xs (31 + k) % lwS L xs) 1)
noncomputable def lwNes : Nat → List Nat × (Nat → Int32)
  | 0 => ((lwTws L xs (cellN L xs 5 % 5)).1, fun _ => 0)
  | k + 1 => lwNe L xs k (lwNes k)
noncomputable def lwMs : Nat → List Nat
  | 0 => (lwNes L xs (cellN L xs 30 % 3)).1
  | k + 1 => lwMs k ++ stN 31 ++ digs (cellN L xs (45 + k) % 2) ++ [32] ++ wlk (cellN L xs (38 + k)) (cellN L xs (38 + k) % 5 + 1) ++ [59]
/-- the whole text -/
noncomputable def lwText : List Nat := lwMs L xs (cellN L xs 37 % 6)
theorem lwS_lt : lwS L xs < 22 := by unfold lwS; omega
theorem lwS_ge : 4 ≤ lwS L xs := by unfold lwS; omega
theorem lwT0_len : (lwT0 L xs).length ≤ 24 := by
  unfold lwT0
  have h1 := @digs_le (lwS L xs)
  have h2 := @digs_le (1 + cellN L xs 1 % 6)
  have h3 := @digs_le (cellN L xs 2 % 5)
  have h4 := @digs_le (1 + cellN L xs 3 % 12)
  have h5 := @digs_le (1 + cellN L xs 4 % 5)
  have h6 : (stN 27).length = 6 := rfl
  have h7 : (stN 28).length = 3 := rfl
  simp only [List.length_append, List.length_cons, List.length_nil, h6, h7]
  omega
theorem lwTws_len : ∀ k, (lwTws L xs k).1.length ≤ 24 + 15 * k
  | 0 => lwT0_len L xs
  | k + 1 => by
    have ih := lwTws_len k
    unfold lwTws lwTw
    dsimp only
    split
    · have h1 := @digs_le (cellN L xs (6 + k) % lwS L xs)
      have h2 := @digs_le (cellN L xs (18 + k) % 2)
      have h3 := @digs_le (1 + cellN L xs (24 + k) % 15)
      have h4 : (digs (cellN L xs (18 + k) % 2)).length = 1 := by rw [digs_len, if_pos (by omega)]
      have h6 : (stN 29).length = 5 := rfl
      simp only [List.length_append, List.length_cons, List.length_nil, h6]
      omega
    · omega
theorem lwNes_len : ∀ k, (lwNes L xs k).1.length ≤ 84 + 11 * k
  | 0 => by
    have := lwTws_len L xs (cellN L xs 5 % 5)
    show (lwTws L xs (cellN L xs 5 % 5)).1.length ≤ _
    omega
  | k + 1 => by
    have ih := lwNes_len k
    unfold lwNes lwNe
    dsimp only
    split
    · have h1 := @digs_le (cellN L xs (31 + k) % lwS L xs)
      have h3 := @digs_le (1 + cellN L xs (34 + k) % 9)
      have h6 : (stN 30).length = 5 := rfl
      simp only [List.length_append, List.length_cons, List.length_nil, h6]
      omega
    · omega
theorem lwMs_len : ∀ k, (lwMs L xs k).length ≤ 106 + 17 * k
  | 0 => by
    have := lwNes_len L xs (cellN L xs 30 % 3)
    show (lwNes L xs (cellN L xs 30 % 3)).1.length ≤ _
    omega
  | k + 1 => by
    have ih := lwMs_len k
    unfold lwMs
    have h1 := @digs_le (cellN L xs (45 + k) % 2)
    have h6 : (stN 31).length = 8 := rfl
    simp only [List.length_append, List.length_cons, List.length_nil, h6, wlk_len]
    omega
end TEXT
theorem lk_head {w0 : WP} (hS : gS w0) (hY : gY w0) {bS L : Nat} {xs : Nat → Int32} (hX : gSc w0 bS L xs) {X : CX} {F0 : State → Prop} (hok : ∀ z, ¬ wOk w0 z) (C : gC w0 X cL_law "HedgeMessagesLaw" (some .boolean) 15 15) {cE sE c9 s9 : Nat} (hroom : ∀ c n, c ≤ cE → n ≤ sE → qOk X (F0, c, n)) (h1 : c9 + 15 ≤ cE) (h2 : s9 + 11184 ≤ sE) (kk : ∀ b aH aN n I ad ct c s, c ≤ c9 + 15 → s ≤ s9 + 11184 → TL w0 X b (lwT0 L xs) n aH aN (fun _ => 0) (fun _ => 0) I ad ct → gU (wM w0 I ad) X (F0, c, s) ct 114 [(0, .ref bS), (1, .int (nI (lwS L xs))), (2, .ref b), (3, .ref aH), (4, .ref aN), (5, .int (nI 0))] []) {ct : CT} : gU w0 X (F0, c9, s9) ct 0 [(0, .ref bS)] [] := by
  have room : ∀ c n, c ≤ c9 + 15 → n ≤ s9 + 11184 → qOk X (F0, c, n) := fun c n g1 g2 => hroom c n (by omega) (by omega)
  refine r_iconst C (v := 4) rfl dL_law_0 ?_
  refine r_aload_n C (k := 0) rfl rfl dL_law_1 ?_
  refine r_iconst C (v := 0) rfl dL_law_2 ?_
  refine r_st (st' := [.int (nI 0), .ref bS, .int 4]) rfl ?_
  refine r_callS C (d' := 1) [.ref bS, .int (nI 0)] (c_cell hX (i := 0) (by decide)) myL_cell wm3_49 rfl (kR rfl) (by decide) (kR rfl) rfl dL_law_3 ?_ (room _ _ (Nat.le_add_right _ _) (Nat.le_add_right _ _))
  refine r_bipush C (v := 18) rfl dL_law_6 ?_
  refine r_irem C (by decide) dL_law_8 ?_
  refine r_st (st' := [.int (nI (cellN L xs 0 % 18)), .int 4]) (by rw [show nI (cellN L xs 0) - nI (cellN L xs 0) / 18 * 18 = nI (cellN L xs 0 % 18) from pk_rem (d := 18) (a := cellN L xs 0) (by have := @cellN_lt L xs; first | exact Nat.lt_trans cellN_lt (by decide) | omega) (by decide) (by decide)] <;> rfl) ?_
  refine r_iadd C dL_law_9 ?_
  refine r_st (st' := [.int (nI (lwS L xs))]) (by rw [show (4 : Int32) + nI (cellN L xs 0 % 18) = nI (lwS L xs) from nI_add 4 _] <;> rfl) ?_
  refine r_istore_n C (lo' := [(1, .int (nI (lwS L xs))), (0, .ref bS)]) rfl (by decide) rfl dL_law_10 ?_
  refine r_new C FJ4 wm5_233 rfl wm5_234 wm1_3 (31, 0, 0, 0) (hok _) (fs := [.null, .int 0, .int 0, .int 0]) (fun j hj => by match j, hj with | 0, _ => rfl | 1, _ => rfl | 2, _ => rfl | 3, _ => rfl) dL_law_11 (room _ _ (Nat.add_le_add_left (by decide) c9) (Nat.add_le_add_left (by decide) s9)) fun b hag hbh C1 => ?_
  have hb1 : adU w0 (31, 0, 0, 0) b (31, 0, 0, 0) = b := if_pos rfl
  have hI1 : ∀ z, one (31, 0, 0, 0) z → 30 ≤ z.1 := fun z hz => by rw [show z = (31, 0, 0, 0) from hz]; decide
  have hD1 := gD_C C1
  have hS1 := gS_N hS hag hI1
  have hn1 : ∀ z : ID, z ≠ (31, 0, 0, 0) → ¬ wOk (wM w0 (one (31, 0, 0, 0)) (adU w0 (31, 0, 0, 0) b)) z := fun z h2 h3 => h3.elim (hok z) h2
  refine r_dup C1 rfl dL_law_14 ?_
  refine r_ldcwS C1 ((hS1.s C1).imp fun _ _ _ h => h.2.2.1 27 (by decide)) dL_law_15 ?_
  refine r_geI C1 (d' := 8) [.ref (sAd (wM w0 (one (31, 0, 0, 0)) (adU w0 (31, 0, 0, 0) b)) 27)] (c_sbT hS1 hY hD1 (iB := (31, 0, 0, 0)) (iV := (30, 0, 0, 0)) (iW := (30, 1, 0, 0)) (Or.inr rfl) hb1 upE_s (hn1 _ (by decide)) (hn1 _ (by decide)) (by decide) (by decide) (by decide) (i := 27) (by decide) rfl) miJ4_init_a7421 wm7_2 rfl (kR rfl) (by decide) (kR rfl) rfl dL_law_18 (room _ _ (Nat.le_trans (Nat.le_of_eq (Nat.add_assoc c9 1 2)) (Nat.add_le_add_left (by decide) c9)) (Nat.le_trans (Nat.le_of_eq (Nat.add_assoc s9 4 1100)) (Nat.add_le_add_left (by decide) s9))) ?_
  rintro I2 ad v2 ct ⟨rfl, hI2, iC, L2, hiC, hIn2, hf2⟩ hag2 hbh2 C2
  rw [wM_M] at C2 hIn2 ⊢
  have hag := gAg_M hag hag2
  have hI : ∀ z, (one (31, 0, 0, 0) z ∨ I2 z) → 30 ≤ z.1 ∧ z.1 ≤ 31 := by
    rintro z (hz | hz)
    · rw [show z = (31, 0, 0, 0) from hz]; decide
    · rcases hI2 z hz with h | h <;> rw [h] <;> decide
  have hTH : TH w0 X 31 b (stN 27) 2 (fun z => one (31, 0, 0, 0) z ∨ I2 z) ad ct := by
    refine ⟨⟨hag, gBh_M hbh ‹_› hbh2, C2, fun z hz => (hI z hz).1, ?_, (hag2.1 _ (Or.inr rfl)).trans hb1, by decide, iC, L2, ?_, hIn2⟩, fun z hz => hz.elim (fun h => absurd h (hok z)) (hI z)⟩
    · rintro m hm (hz | hz | hz)
      · exact hok _ hz
      · cases hz
      · rcases hI2 _ hz with h | h
        · have h9 : m = 0 := congrArg (fun z : ID => z.2.1) h
          omega
        · have h9 : m = 1 := congrArg (fun z : ID => z.2.1) h
          omega
    · rcases hiC with rfl | rfl <;> rfl
  generalize (fun z => one (31, 0, 0, 0) z ∨ I2 z) = I at hTH ⊢
  have C := hTH.C
  have hS1 := hTH.S hS
  have hl : (stN 27).length ≤ 6 := Nat.le_refl 6
  refine r_wid (c' := c9 + 3) (s' := s9 + 1104) (Nat.le_of_eq (Nat.add_assoc c9 1 2)) (Nat.le_of_eq (Nat.add_assoc s9 4 1100)) ?_
  show gU (wM w0 I ad) X (F0, c9 + 3, s9 + 1104) ct 21 [(1, .int (nI (lwS L xs))), (0, .ref bS)] [.ref b]
  refine r_iload_n C (k := 0) rfl rfl dL_law_21 ?_
  refine th_app (by decide) hS hY hTH (T' := stN 27 ++ digs (lwS L xs)) (d' := 5) [.int (nI (lwS L xs))] (fun iV iW L9 h1 h2 h3 h4 h5 h6 h7 => c_sbI h1 h2 h3 h4 h5 h6 h7 (x := lwS L xs) (by have := lwS_lt L xs; omega) (by have := @digs_le (lwS L xs); omega)) mbJ4_append_bf812 wm6_133 rfl wm7_14 rfl (by decide) (kR rfl) (kR rfl) rfl dL_law_22 (room _ _ (Nat.le_trans (Nat.le_of_eq (Nat.add_assoc c9 3 1)) (Nat.add_le_add_left (by decide) c9)) (Nat.le_trans (Nat.le_of_eq (Nat.add_assoc s9 1104 1000)) (Nat.add_le_add_left (by decide) s9))) ?_
  intro I ad ct hTH _ _
  have C := hTH.C
  have hS1 := hTH.S hS
  refine r_wid (c' := c9 + 4) (s' := s9 + 2104) (Nat.le_of_eq (Nat.add_assoc c9 3 1)) (Nat.le_of_eq (Nat.add_assoc s9 1104 1000)) ?_
  show gU (wM w0 I ad) X (F0, c9 + 4, s9 + 2104) ct 25 [(1, .int (nI (lwS L xs))), (0, .ref bS)] [.ref b]
  replace hl : (stN 27 ++ digs (lwS L xs)).length ≤ 8 := by rw [List.length_append]; have := @digs_le (lwS L xs); omega
  refine r_bipush C (v := 32) rfl dL_law_25 ?_
  refine r_st (st' := [.int (nI (32)), .ref b]) rfl ?_
  refine th_app (by decide) hS hY hTH (T' := stN 27 ++ digs (lwS L xs) ++ [32]) (d' := 5) [.int (nI (32))] (fun iV iW L9 h1 h2 h3 h4 h5 h6 h7 => c_sbC h1 h2 h3 h4 h5 h6 h7 (c := 32) (by decide) (by omega)) mbJ4_append_cf468 wm6_25 rfl wm6_23 rfl (by decide) (kR rfl) (kR rfl) rfl dL_law_27 (room _ _ (Nat.le_trans (Nat.le_of_eq (Nat.add_assoc c9 4 1)) (Nat.add_le_add_left (by decide) c9)) (Nat.le_trans (Nat.le_of_eq (Nat.add_assoc s9 2104 1000)) (Nat.add_le_add_left (by decide) s9))) ?_
  intro I ad ct hTH _ _
  have C := hTH.C
  have hS1 := hTH.S hS
  refine r_wid (c' := c9 + 5) (s' := s9 + 3104) (Nat.le_of_eq (Nat.add_assoc c9 4 1)) (Nat.le_of_eq (Nat.add_assoc s9 2104 1000)) ?_
  show gU (wM w0 I ad) X (F0, c9 + 5, s9 + 3104) ct 30 [(1, .int (nI (lwS L xs))), (0, .ref bS)] [.ref b]
  replace hl : (stN 27 ++ digs (lwS L xs) ++ [32]).length ≤ 9 := by rw [List.length_append]; show _ + 1 ≤ _; omega
  refine r_iconst C (v := 1) rfl dL_law_30 ?_
  refine r_aload_n C (k := 1) rfl rfl dL_law_31 ?_
  refine r_iconst C (v := 1) rfl dL_law_32 ?_
  refine r_st (st' := [.int (nI 1), .ref bS, .int 1, .ref b]) rfl ?_
  refine r_callS C (d' := 1) [.ref bS, .int (nI (1))] (c_cell (w := wM w0 I ad) hX (i := 1) (by omega)) myL_cell wm3_49 rfl (kR rfl) (by decide) (kR rfl) rfl dL_law_33 ?_ (room _ _ (Nat.add_le_add_left (by decide) c9) (Nat.add_le_add_left (by decide) s9))
  refine r_bipush C (v := 6) rfl dL_law_36 ?_
  refine r_irem C (by decide) dL_law_38 ?_
  refine r_st (st' := [.int (nI (cellN L xs (1) % 6)), .int 1, .ref b]) (by rw [show nI (cellN L xs (1)) - nI (cellN L xs (1)) / 6 * 6 = nI (cellN L xs (1) % 6) from pk_rem (d := 6) (a := cellN L xs (1)) (by have := @cellN_lt L xs; first | exact Nat.lt_trans cellN_lt (by decide) | omega) (by decide) (by decide)] <;> rfl) ?_
  refine r_iadd C dL_law_39 ?_
  refine r_st (st' := [.int (nI (1 + cellN L xs (1) % 6)), .ref b]) (by rw [show (1 : Int32) + nI (cellN L xs (1) % 6) = nI (1 + cellN L xs (1) % 6) from nI_add 1 _] <;> rfl) ?_
  refine th_app (by decide) hS hY hTH (T' := stN 27 ++ digs (lwS L xs) ++ [32] ++ digs (1 + cellN L xs (1) % 6)) (d' := 5) [.int (nI (1 + cellN L xs (1) % 6))] (fun iV iW L9 h1 h2 h3 h4 h5 h6 h7 => c_sbI h1 h2 h3 h4 h5 h6 h7 (x := 1 + cellN L xs (1) % 6) (by omega) (by have := @digs_le (1 + cellN L xs (1) % 6); omega)) mbJ4_append_bf812 wm6_133 rfl wm7_14 rfl (by decide) (kR rfl) (kR rfl) rfl dL_law_40 (room _ _ (Nat.le_trans (Nat.le_of_eq (Nat.add_assoc c9 5 1)) (Nat.add_le_add_left (by decide) c9)) (Nat.le_trans (Nat.le_of_eq (Nat.add_assoc s9 3104 1000)) (Nat.add_le_add_left (by decide) s9))) ?_
  intro I ad ct hTH _ _
  have C := hTH.C
  have hS1 := hTH.S hS
  refine r_wid (c' := c9 + 6) (s' := s9 + 4104) (Nat.le_of_eq (Nat.add_assoc c9 5 1)) (Nat.le_of_eq (Nat.add_assoc s9 3104 1000)) ?_
  show gU (wM w0 I ad) X (F0, c9 + 6, s9 + 4104) ct 43 [(1, .int (nI (lwS L xs))), (0, .ref bS)] [.ref b]
  replace hl : (stN 27 ++ digs (lwS L xs) ++ [32] ++ digs (1 + cellN L xs (1) % 6)).length ≤ 11 := by rw [List.length_append]; have := @digs_le (1 + cellN L xs (1) % 6); omega
  refine r_bipush C (v := 32) rfl dL_law_43 ?_
  refine r_st (st' := [.int (nI (32)), .ref b]) rfl ?_
  refine th_app (by decide) hS hY hTH (T' := stN 27 ++ digs (lwS L xs) ++ [32] ++ digs (1 + cellN L xs (1) % 6) ++ [32]) (d' := 5) [.int (nI (32))] (fun iV iW L9 h1 h2 h3 h4 h5 h6 h7 => c_sbC h1 h2 h3 h4 h5 h6 h7 (c := 32) (by decide) (by omega)) mbJ4_append_cf468 wm6_25 rfl wm6_23 rfl (by decide) (kR rfl) (kR rfl) rfl dL_law_45 (room _ _ (Nat.le_trans (Nat.le_of_eq (Nat.add_assoc c9 6 1)) (Nat.add_le_add_left (by decide) c9)) (Nat.le_trans (Nat.le_of_eq (Nat.add_assoc s9 4104 1000)) (Nat.add_le_add_left (by decide) s9))) ?_
  intro I ad ct hTH _ _
  have C := hTH.C
  have hS1 := hTH.S hS
  refine r_wid (c' := c9 + 7) (s' := s9 + 5104) (Nat.le_of_eq (Nat.add_assoc c9 6 1)) (Nat.le_of_eq (Nat.add_assoc s9 4104 1000)) ?_
  show gU (wM w0 I ad) X (F0, c9 + 7, s9 + 5104) ct 48 [(1, .int (nI (lwS L xs))), (0, .ref bS)] [.ref b]
  replace hl : (stN 27 ++ digs (lwS L xs) ++ [32] ++ digs (1 + cellN L xs (1) % 6) ++ [32]).length ≤ 12 := by rw [List.length_append]; show _ + 1 ≤ _; omega
  refine r_aload_n C (k := 1) rfl rfl dL_law_48 ?_
  refine r_iconst C (v := 2) rfl dL_law_49 ?_
  refine r_st (st' := [.int (nI 2), .ref bS, .ref b]) rfl ?_
  refine r_callS C (d' := 1) [.ref bS, .int (nI (2))] (c_cell (w := wM w0 I ad) hX (i := 2) (by omega)) myL_cell wm3_49 rfl (kR rfl) (by decide) (kR rfl) rfl dL_law_50 ?_ (room _ _ (Nat.add_le_add_left (by decide) c9) (Nat.add_le_add_left (by decide) s9))
  refine r_iconst C (v := 5) rfl dL_law_53 ?_
  refine r_irem C (by decide) dL_law_54 ?_
  refine r_st (st' := [.int (nI (cellN L xs (2) % 5)), .ref b]) (by rw [show nI (cellN L xs (2)) - nI (cellN L xs (2)) / 5 * 5 = nI (cellN L xs (2) % 5) from pk_rem (d := 5) (a := cellN L xs (2)) (by have := @cellN_lt L xs; first | exact Nat.lt_trans cellN_lt (by decide) | omega) (by decide) (by decide)] <;> rfl) ?_
  refine th_app (by decide) hS hY hTH (T' := stN 27 ++ digs (lwS L xs) ++ [32] ++ digs (1 + cellN L xs (1) % 6) ++ [32] ++ digs (cellN L xs (2) % 5)) (d' := 5) [.int (nI (cellN L xs (2) % 5))] (fun iV iW L9 h1 h2 h3 h4 h5 h6 h7 => c_sbI h1 h2 h3 h4 h5 h6 h7 (x := cellN L xs (2) % 5) (by omega) (by have := @digs_le (cellN L xs (2) % 5); omega)) mbJ4_append_bf812 wm6_133 rfl wm7_14 rfl (by decide) (kR rfl) (kR rfl) rfl dL_law_55 (room _ _ (Nat.le_trans (Nat.le_of_eq (Nat.add_assoc c9 7 1)) (Nat.add_le_add_left (by decide) c9)) (Nat.le_trans (Nat.le_of_eq (Nat.add_assoc s9 5104 1000)) (Nat.add_le_add_left (by decide) s9))) ?_
  intro I ad ct hTH _ _
  have C := hTH.C
  have hS1 := hTH.S hS
  refine r_wid (c' := c9 + 8) (s' := s9 + 6104) (Nat.le_of_eq (Nat.add_assoc c9 7 1)) (Nat.le_of_eq (Nat.add_assoc s9 5104 1000)) ?_
  show gU (wM w0 I ad) X (F0, c9 + 8, s9 + 6104) ct 58 [(1, .int (nI (lwS L xs))), (0, .ref bS)] [.ref b]
  replace hl : (stN 27 ++ digs (lwS L xs) ++ [32] ++ digs (1 + cellN L xs (1) % 6) ++ [32] ++ digs (cellN L xs (2) % 5)).length ≤ 14 := by rw [List.length_append]; have := @digs_le (cellN L xs (2) % 5); omega
  refine r_bipush C (v := 32) rfl dL_law_58 ?_
  refine r_st (st' := [.int (nI (32)), .ref b]) rfl ?_
  refine th_app (by decide) hS hY hTH (T' := stN 27 ++ digs (lwS L xs) ++ [32] ++ digs (1 + cellN L xs (1) % 6) ++ [32] ++ digs (cellN L xs (2) % 5) ++ [32]) (d' := 5) [.int (nI (32))] (fun iV iW L9 h1 h2 h3 h4 h5 h6 h7 => c_sbC h1 h2 h3 h4 h5 h6 h7 (c := 32) (by decide) (by omega)) mbJ4_append_cf468 wm6_25 rfl wm6_23 rfl (by decide) (kR rfl) (kR rfl) rfl dL_law_60 (room _ _ (Nat.le_trans (Nat.le_of_eq (Nat.add_assoc c9 8 1)) (Nat.add_le_add_left (by decide) c9)) (Nat.le_trans (Nat.le_of_eq (Nat.add_assoc s9 6104 1000)) (Nat.add_le_add_left (by decide) s9))) ?_
  intro I ad ct hTH _ _
  have C := hTH.C
  have hS1 := hTH.S hS
  refine r_wid (c' := c9 + 9) (s' := s9 + 7104) (Nat.le_of_eq (Nat.add_assoc c9 8 1)) (Nat.le_of_eq (Nat.add_assoc s9 6104 1000)) ?_
  show gU (wM w0 I ad) X (F0, c9 + 9, s9 + 7104) ct 63 [(1, .int (nI (lwS L xs))), (0, .ref bS)] [.ref b]
  replace hl : (stN 27 ++ digs (lwS L xs) ++ [32] ++ digs (1 + cellN L xs (1) % 6) ++ [32] ++ digs (cellN L xs (2) % 5) ++ [32]).length ≤ 15 := by rw [List.length_append]; show _ + 1 ≤ _; omega
  refine r_iconst C (v := 1) rfl dL_law_63 ?_
  refine r_aload_n C (k := 1) rfl rfl dL_law_64 ?_
  refine r_iconst C (v := 3) rfl dL_law_65 ?_
  refine r_st (st' := [.int (nI 3), .ref bS, .int 1, .ref b]) rfl ?_
  refine r_callS C (d' := 1) [.ref bS, .int (nI (3))] (c_cell (w := wM w0 I ad) hX (i := 3) (by omega)) myL_cell wm3_49 rfl (kR rfl) (by decide) (kR rfl) rfl dL_law_66 ?_ (room _ _ (Nat.add_le_add_left (by decide) c9) (Nat.add_le_add_left (by decide) s9))
  refine r_bipush C (v := 12) rfl dL_law_69 ?_
  refine r_irem C (by decide) dL_law_71 ?_
  refine r_st (st' := [.int (nI (cellN L xs (3) % 12)), .int 1, .ref b]) (by rw [show nI (cellN L xs (3)) - nI (cellN L xs (3)) / 12 * 12 = nI (cellN L xs (3) % 12) from pk_rem (d := 12) (a := cellN L xs (3)) (by have := @cellN_lt L xs; first | exact Nat.lt_trans cellN_lt (by decide) | omega) (by decide) (by decide)] <;> rfl) ?_
  refine r_iadd C dL_law_72 ?_
  refine r_st (st' := [.int (nI (1 + cellN L xs (3) % 12)), .ref b]) (by rw [show (1 : Int32) + nI (cellN L xs (3) % 12) = nI (1 + cellN L xs (3) % 12) from nI_add 1 _] <;> rfl) ?_
  refine th_app (by decide) hS hY hTH (T' := stN 27 ++ digs (lwS L xs) ++ [32] ++ digs (1 + cellN L xs (1) % 6) ++ [32] ++ digs (cellN L xs (2) % 5) ++ [32] ++ digs (1 + cellN L xs (3) % 12)) (d' := 5) [.int (nI (1 + cellN L xs (3) % 12))] (fun iV iW L9 h1 h2 h3 h4 h5 h6 h7 => c_sbI h1 h2 h3 h4 h5 h6 h7 (x := 1 + cellN L xs (3) % 12) (by omega) (by have := @digs_le (1 + cellN L xs (3) % 12); omega)) mbJ4_append_bf812 wm6_133 rfl wm7_14 rfl (by decide) (kR rfl) (kR rfl) rfl dL_law_73 (room _ _ (Nat.le_trans (Nat.le_of_eq (Nat.add_assoc c9 9 1)) (Nat.add_le_add_left (by decide) c9)) (Nat.le_trans (Nat.le_of_eq (Nat.add_assoc s9 7104 1000)) (Nat.add_le_add_left (by decide) s9))) ?_
  intro I ad ct hTH _ _
  have C := hTH.C
  have hS1 := hTH.S hS
  refine r_wid (c' := c9 + 10) (s' := s9 + 8104) (Nat.le_of_eq (Nat.add_assoc c9 9 1)) (Nat.le_of_eq (Nat.add_assoc s9 7104 1000)) ?_
  show gU (wM w0 I ad) X (F0, c9 + 10, s9 + 8104) ct 76 [(1, .int (nI (lwS L xs))), (0, .ref bS)] [.ref b]
  replace hl : (stN 27 ++ digs (lwS L xs) ++ [32] ++ digs (1 + cellN L xs (1) % 6) ++ [32] ++ digs (cellN L xs (2) % 5) ++ [32] ++ digs (1 + cellN L xs (3) % 12)).length ≤ 17 := by rw [List.length_append]; have := @digs_le (1 + cellN L xs (3) % 12); omega
  refine r_bipush C (v := 32) rfl dL_law_76 ?_
  refine r_st (st' := [.int (nI (32)), .ref b]) rfl ?_
  refine th_app (by decide) hS hY hTH (T' := stN 27 ++ digs (lwS L xs) ++ [32] ++ digs (1 + cellN L xs (1) % 6) ++ [32] ++ digs (cellN L xs (2) % 5) ++ [32] ++ digs (1 + cellN L xs (3) % 12) ++ [32]) (d' := 5) [.int (nI (32))] (fun iV iW L9 h1 h2 h3 h4 h5 h6 h7 => c_sbC h1 h2 h3 h4 h5 h6 h7 (c := 32) (by decide) (by omega)) mbJ4_append_cf468 wm6_25 rfl wm6_23 rfl (by decide) (kR rfl) (kR rfl) rfl dL_law_78 (room _ _ (Nat.le_trans (Nat.le_of_eq (Nat.add_assoc c9 10 1)) (Nat.add_le_add_left (by decide) c9)) (Nat.le_trans (Nat.le_of_eq (Nat.add_assoc s9 8104 1000)) (Nat.add_le_add_left (by decide) s9))) ?_
  intro I ad ct hTH _ _
  have C := hTH.C
  have hS1 := hTH.S hS
  refine r_wid (c' := c9 + 11) (s' := s9 + 9104) (Nat.le_of_eq (Nat.add_assoc c9 10 1)) (Nat.le_of_eq (Nat.add_assoc s9 8104 1000)) ?_
  show gU (wM w0 I ad) X (F0, c9 + 11, s9 + 9104) ct 81 [(1, .int (nI (lwS L xs))), (0, .ref bS)] [.ref b]
  replace hl : (stN 27 ++ digs (lwS L xs) ++ [32] ++ digs (1 + cellN L xs (1) % 6) ++ [32] ++ digs (cellN L xs (2) % 5) ++ [32] ++ digs (1 + cellN L xs (3) % 12) ++ [32]).length ≤ 18 := by rw [List.length_append]; show _ + 1 ≤ _; omega
  refine r_iconst C (v := 1) rfl dL_law_81 ?_
  refine r_aload_n C (k := 1) rfl rfl dL_law_82 ?_
  refine r_iconst C (v := 4) rfl dL_law_83 ?_
  refine r_st (st' := [.int (nI 4), .ref bS, .int 1, .ref b]) rfl ?_
  refine r_callS C (d' := 1) [.ref bS, .int (nI (4))] (c_cell (w := wM w0 I ad) hX (i := 4) (by omega)) myL_cell wm3_49 rfl (kR rfl) (by decide) (kR rfl) rfl dL_law_84 ?_ (room _ _ (Nat.add_le_add_left (by decide) c9) (Nat.add_le_add_left (by decide) s9))
  refine r_iconst C (v := 5) rfl dL_law_87 ?_
  refine r_irem C (by decide) dL_law_88 ?_
  refine r_st (st' := [.int (nI (cellN L xs (4) % 5)), .int 1, .ref b]) (by rw [show nI (cellN L xs (4)) - nI (cellN L xs (4)) / 5 * 5 = nI (cellN L xs (4) % 5) from pk_rem (d := 5) (a := cellN L xs (4)) (by have := @cellN_lt L xs; first | exact Nat.lt_trans cellN_lt (by decide) | omega) (by decide) (by decide)] <;> rfl) ?_
  refine r_iadd C dL_law_89 ?_
  refine r_st (st' := [.int (nI (1 + cellN L xs (4) % 5)), .ref b]) (by rw [show (1 : Int32) + nI (cellN L xs (4) % 5) = nI (1 + cellN L xs (4) % 5) from nI_add 1 _] <;> rfl) ?_
  refine th_app (by decide) hS hY hTH (T' := stN 27 ++ digs (lwS L xs) ++ [32] ++ digs (1 + cellN L xs (1) % 6) ++ [32] ++ digs (cellN L xs (2) % 5) ++ [32] ++ digs (1 + cellN L xs (3) % 12) ++ [32] ++ digs (1 + cellN L xs (4) % 5)) (d' := 5) [.int (nI (1 + cellN L xs (4) % 5))] (fun iV iW L9 h1 h2 h3 h4 h5 h6 h7 => c_sbI h1 h2 h3 h4 h5 h6 h7 (x := 1 + cellN L xs (4) % 5) (by omega) (by have := @digs_le (1 + cellN L xs (4) % 5); omega)) mbJ4_append_bf812 wm6_133 rfl wm7_14 rfl (by decide) (kR rfl) (kR rfl) rfl dL_law_90 (room _ _ (Nat.le_trans (Nat.le_of_eq (Nat.add_assoc c9 11 1)) (Nat.add_le_add_left (by decide) c9)) (Nat.le_trans (Nat.le_of_eq (Nat.add_assoc s9 9104 1000)) (Nat.add_le_add_left (by decide) s9))) ?_
  intro I ad ct hTH _ _
  have C := hTH.C
  have hS1 := hTH.S hS
  refine r_wid (c' := c9 + 12) (s' := s9 + 10104) (Nat.le_of_eq (Nat.add_assoc c9 11 1)) (Nat.le_of_eq (Nat.add_assoc s9 9104 1000)) ?_
  show gU (wM w0 I ad) X (F0, c9 + 12, s9 + 10104) ct 93 [(1, .int (nI (lwS L xs))), (0, .ref bS)] [.ref b]
  replace hl : (stN 27 ++ digs (lwS L xs) ++ [32] ++ digs (1 + cellN L xs (1) % 6) ++ [32] ++ digs (cellN L xs (2) % 5) ++ [32] ++ digs (1 + cellN L xs (3) % 12) ++ [32] ++ digs (1 + cellN L xs (4) % 5)).length ≤ 20 := by rw [List.length_append]; have := @digs_le (1 + cellN L xs (4) % 5); omega
  refine r_ldcwS C ((hS1.s C).imp fun _ _ _ h => h.2.2.1 28 (by decide)) dL_law_93 ?_
  refine th_app (by decide) hS hY hTH (T' := stN 27 ++ digs (lwS L xs) ++ [32] ++ digs (1 + cellN L xs (1) % 6) ++ [32] ++ digs (cellN L xs (2) % 5) ++ [32] ++ digs (1 + cellN L xs (3) % 12) ++ [32] ++ digs (1 + cellN L xs (4) % 5) ++ stN 28) (d' := 5) [.ref (sAd (wM w0 I ad) 28)] (fun iV iW L9 h1 h2 h3 h4 h5 h6 h7 => c_sbS h1 h2 h3 h4 h5 h6 h7 (i := 28) (by decide) rfl (by have h9 : (sTx 28).length = 3 := rfl; omega)) mbJ4_append_15ec4 wm6_168 rfl wm7_13 rfl (by decide) (kR rfl) (kR rfl) rfl dL_law_96 (room _ _ (Nat.le_trans (Nat.le_of_eq (Nat.add_assoc c9 12 1)) (Nat.add_le_add_left (by decide) c9)) (Nat.le_trans (Nat.le_of_eq (Nat.add_assoc s9 10104 1000)) (Nat.add_le_add_left (by decide) s9))) ?_
  intro I ad ct hTH _ _
  have C := hTH.C
  have hS1 := hTH.S hS
  refine r_wid (c' := c9 + 13) (s' := s9 + 11104) (Nat.le_of_eq (Nat.add_assoc c9 12 1)) (Nat.le_of_eq (Nat.add_assoc s9 10104 1000)) ?_
  show gU (wM w0 I ad) X (F0, c9 + 13, s9 + 11104) ct 99 [(1, .int (nI (lwS L xs))), (0, .ref bS)] [.ref b]
  replace hl : (stN 27 ++ digs (lwS L xs) ++ [32] ++ digs (1 + cellN L xs (1) % 6) ++ [32] ++ digs (cellN L xs (2) % 5) ++ [32] ++ digs (1 + cellN L xs (3) % 12) ++ [32] ++ digs (1 + cellN L xs (4) % 5) ++ stN 28).length ≤ 23 := by rw [List.length_append, stN_len]; have h9 : (sTx 28).length = 3 := rfl; omega
  refine r_astore_n C (lo' := [(2, .ref b), (1, .int (nI (lwS L xs))), (0, .ref bS)]) rfl (by decide) rfl dL_law_99 ?_
  refine r_bipush C (v := 40) rfl dL_law_100 ?_
  refine r_newZ C hY (32, 0, 0, 0) (fun z => absurd (hTH.2 _ z).2 (by decide)) (by decide) (N := 40) rfl (by decide) dL_law_102 (room _ _ (Nat.le_trans (Nat.le_of_eq (Nat.add_assoc c9 13 1)) (Nat.add_le_add_left (by decide) c9)) (Nat.le_trans (Nat.le_of_eq (Nat.add_assoc s9 11104 40)) (Nat.add_le_add_left (by decide) s9))) fun aH hag3 hbh3 C3 => ?_
  have hT2 := th_row (e := .inl (wZ w0, 40, .inl (fun _ => 0))) hTH (by decide) rfl hag3 hbh3 C3
  have q0 : adU (wM w0 I ad) (32, 0, 0, 0) aH (32, 0, 0, 0) = aH := if_pos rfl
  have hnh : ¬ wOk (wM w0 I ad) (32, 1, 0, 0) := fun z => absurd (hTH.2 _ z).2 (by decide)
  rw [wM_M] at C3 ⊢
  generalize adU (wM w0 I ad) (32, 0, 0, 0) aH = ad2 at hT2 q0 C3 ⊢
  have C := C3
  refine r_wid (c' := c9 + 14) (s' := s9 + 11144) (Nat.le_of_eq (Nat.add_assoc c9 13 1)) (Nat.le_of_eq (Nat.add_assoc s9 11104 40)) ?_
  show gU (wM w0 _ ad2) X (F0, c9 + 14, s9 + 11144) _ 104 [(2, .ref b), (1, .int (nI (lwS L xs))), (0, .ref bS)] [.ref aH]
  refine r_astore_n C (lo' := [(3, .ref aH), (2, .ref b), (1, .int (nI (lwS L xs))), (0, .ref bS)]) rfl (by decide) rfl dL_law_104 ?_
  refine r_bipush C (v := 40) rfl dL_law_105 ?_
  refine r_newZ C hY (32, 1, 0, 0) (fun z => z.elim (fun z => hnh (Or.inl z)) (fun z => z.elim (fun z => hnh (Or.inr z)) (fun z => by cases z))) (by decide) (N := 40) rfl (by decide) dL_law_107 (room _ _ (Nat.le_trans (Nat.le_of_eq (Nat.add_assoc c9 14 1)) (Nat.add_le_add_left (by decide) c9)) (Nat.le_trans (Nat.le_of_eq (Nat.add_assoc s9 11144 40)) (Nat.add_le_add_left (by decide) s9))) fun aN hag3 hbh3 C3 => ?_
  have hT3 := th_row (e := .inl (wZ w0, 40, .inl (fun _ => 0))) hT2 (by decide) rfl hag3 hbh3 C3
  have q1 : adU (wM w0 (fun k => I k ∨ one (32, 0, 0, 0) k) ad2) (32, 1, 0, 0) aN (32, 1, 0, 0) = aN := if_pos rfl
  have q2 : adU (wM w0 (fun k => I k ∨ one (32, 0, 0, 0) k) ad2) (32, 1, 0, 0) aN (32, 0, 0, 0) = aH := (if_neg (by decide)).trans q0
  rw [wM_M] at C3 ⊢
  generalize adU (wM w0 (fun k => I k ∨ one (32, 0, 0, 0) k) ad2) (32, 1, 0, 0) aN = ad4 at hT3 q1 q2 C3 ⊢
  have hTL : TL w0 X b (lwT0 L xs) _ aH aN (fun _ => 0) (fun _ => 0) _ ad4 _ := ⟨hT3, ⟨Or.inr (Or.inl (Or.inr rfl)), q2, (upE_n (by decide)).trans upE_s⟩, ⟨Or.inr (Or.inr rfl), q1, upE_s⟩⟩
  have C := C3
  refine r_wid (c' := c9 + 15) (s' := s9 + 11184) (Nat.le_of_eq (Nat.add_assoc c9 14 1)) (Nat.le_of_eq (Nat.add_assoc s9 11144 40)) ?_
  show gU (wM w0 _ ad4) X (F0, c9 + 15, s9 + 11184) _ 109 [(3, .ref aH), (2, .ref b), (1, .int (nI (lwS L xs))), (0, .ref bS)] [.ref aN]
  refine r_astore C (lo' := [(4, .ref aN), (3, .ref aH), (2, .ref b), (1, .int (nI (lwS L xs))), (0, .ref bS)]) (by decide) rfl dL_law_109 ?_
  refine r_iconst C (v := 0) rfl dL_law_111 ?_
  refine r_istore C (lo' := [(5, .int 0), (4, .ref aN), (3, .ref aH), (2, .ref b), (1, .int (nI (lwS L xs))), (0, .ref bS)]) (by decide) rfl dL_law_112 ?_
  refine r_lo [5, 4, 3, 2, 1, 0] (lo' := [(0, .ref bS), (1, .int (nI (lwS L xs))), (2, .ref b), (3, .ref aH), (4, .ref aN), (5, .int (nI 0))]) rfl ?_
  exact kk b aH aN _ _ ad4 _ _ _ (Nat.le_refl _) (Nat.le_refl _) hTL
theorem r_balZA {w : WP} {X : CX} {cc : ByteArray} {own : String} {ret : Option FieldType} {d nL : Nat} {Q : QT} {ct : CT} {pc : Nat} {lo : List (Nat × Value)} {st : List Value} (C : gC w X cc own ret d nL) (i : ID) (hi : wOk w i) {a : Nat} (ha : wAd w i = a) {n : Nat} {f : Nat → Int32} (hct : ct i = .inl (wZ w, n, .inl f)) {j v : Int32} (hin : vp_in j n) (hv : f j.toNatClampNeg = v) (hd : decode cc pc = .ok (.baload, 1)) (kk : gU w X Q ct (pc + 1) lo (.int v :: st)) : gU w X Q ct pc lo (.int j :: .ref a :: st) := by
  subst ha
  subst hv
  exact r_balZ C i hi hct hin hd kk
theorem r_basZA {w : WP} {X : CX} {cc : ByteArray} {own : String} {ret : Option FieldType} {d nL : Nat} {Q : QT} {ct : CT} {pc : Nat} {lo : List (Nat × Value)} {st : List Value} (C : gC w X cc own ret d nL) (i : ID) (hi : wFr w i) {a : Nat} (ha : wAd w i = a) {n : Nat} {f : Nat → Int32} (hct : ct i = .inl (wZ w, n, .inl f)) {j x y : Int32} (hy : vp_nar .boolean x = y) (hin : vp_in j n) (hd : decode cc pc = .ok (.bastore, 1)) (kk : gU w X Q (upE ct i (.inl (wZ w, n, .inl (upd f j.toNatClampNeg y)))) (pc + 1) lo st) : gU w X Q ct pc lo (.int x :: .int j :: .ref a :: st) := by
  subst ha
  exact r_basZ C i hi hct hy hin hd (fun _ _ => rfl) kk
theorem TL.up {w0 : WP} {X : CX} {b : Nat} {T : List Nat} {n : Nat} {I : ID → Prop} {ad : ID → Nat} {ct : CT} {z0 : ID} {e : va_E} (h : TH w0 X 32 b T n I ad ct) (h0 : z0.1 = 32) : TH w0 X 32 b T n I ad (upE ct z0 e) := by
  obtain ⟨⟨a1, a2, a3, a4, a5, a6, a7, iC, L, a8, b1, b2, b3, b4, ⟨f, b5, b6⟩, b7⟩, hz⟩ := h
  have n1 : ((31, 0, 0, 0) : ID) ≠ z0 := fun e => by rw [← e] at h0; exact absurd h0 (by decide)
  have n2 : iC ≠ z0 := fun e => by rw [← e, a8] at h0; exact absurd h0 (by decide)
  exact ⟨⟨a1, a2, a3, a4, a5, a6, a7, iC, L, a8, b1, b2, b3, (upE_n n1).trans b4, ⟨f, (upE_n n2).trans b5, b6⟩, b7⟩, hz⟩
theorem TL.row3 {w0 : WP} {X : CX} {b : Nat} {T : List Nat} {n aH aN : Nat} {f1 f2 g : Nat → Int32} {I : ID → Prop} {ad : ID → Nat} {ct : CT} (h : TL w0 X b T n aH aN f1 f2 I ad ct) : TL w0 X b T n aH aN g f2 I ad (upE ct (32, 0, 0, 0) (.inl (wZ w0, 40, .inl g))) := by
  obtain ⟨h0, ⟨a1, a2, a3⟩, ⟨b1, b2, b3⟩⟩ := h
  exact ⟨TL.up h0 rfl, ⟨a1, a2, upE_s⟩, ⟨b1, b2, (upE_n (by decide)).trans b3⟩⟩
theorem TL.row4 {w0 : WP} {X : CX} {b : Nat} {T : List Nat} {n aH aN : Nat} {f1 f2 g : Nat → Int32} {I : ID → Prop} {ad : ID → Nat} {ct : CT} (h : TL w0 X b T n aH aN f1 f2 I ad ct) : TL w0 X b T n aH aN f1 g I ad (upE ct (32, 1, 0, 0) (.inl (wZ w0, 40, .inl g))) := by
  obtain ⟨h0, ⟨a1, a2, a3⟩, ⟨b1, b2, b3⟩⟩ := h
  exact ⟨TL.up h0 rfl, ⟨a1, a2, (upE_n (by decide)).trans a3⟩, ⟨b1, b2, upE_s⟩⟩
theorem la_tw {w0 : WP} (hS : gS w0) (hY : gY w0) {bS L : Nat} {xs : Nat → Int32} (hX : gSc w0 bS L xs) {X : CX} {F0 : State → Prop} {b aH aN : Nat} {f1 f2 : Nat → Int32} {cE sE : Nat} (hroom : ∀ c n, c ≤ cE → n ≤ sE → qOk X (F0, c, n)) {cX sX : Nat} (hcX : cX ≤ cE) (hsX : sX ≤ sE) (kk : ∀ n I ad ct c s, c ≤ cX → s ≤ sX → TL w0 X b (lwTws L xs (cellN L xs 5 % 5)).1 n aH aN (lwTws L xs (cellN L xs 5 % 5)).2 f2 I ad ct → gU (wM w0 I ad) X (F0, c, s) ct 240 [(0, .ref bS), (1, .int (nI (lwS L xs))), (2, .ref b), (3, .ref aH), (4, .ref aN)] []) : ∀ m k n I ad ct c9 s9, k + m = cellN L xs 5 % 5 → TL w0 X b (lwTws L xs k).1 n aH aN (lwTws L xs k).2 f2 I ad ct → c9 + 9 * m ≤ cX → s9 + 9000 * m ≤ sX → gU (wM w0 I ad) X (F0, c9, s9) ct 114 [(0, .ref bS), (1, .int (nI (lwS L xs))), (2, .ref b), (3, .ref aH), (4, .ref aN), (5, .int (nI k))] [] := by
  intro m
  induction m with
  | zero =>
    intro k n I ad ct c9 s9 hk hTL hc hs
    have room : ∀ c n, c ≤ c9 + 0 → n ≤ s9 + 0 → qOk X (F0, c, n) := fun c n g1 g2 => hroom c n (by omega) (by omega)
    have C := hTL.1.C
    obtain rfl : k = cellN L xs 5 % 5 := hk
    refine r_iload C (k := 5) rfl dL_law_114 ?_
    refine r_aload_n C (k := 0) rfl rfl dL_law_116 ?_
    refine r_iconst C (v := 5) rfl dL_law_117 ?_
    refine r_st (st' := [.int (nI 5), .ref bS, .int (nI (cellN L xs 5 % 5))]) rfl ?_
    refine r_callS C (d' := 1) [.ref bS, .int (nI (5))] (c_cell (w := wM w0 I ad) hX (i := 5) (by omega)) myL_cell wm3_49 rfl (kR rfl) (by decide) (kR rfl) rfl dL_law_118 ?_ (room _ _ (Nat.le_add_right _ _) (Nat.le_add_right _ _))
    refine r_iconst C (v := 5) rfl dL_law_121 ?_
    refine r_irem C (by decide) dL_law_122 ?_
    refine r_st (st' := [.int (nI (cellN L xs (5) % 5)), .int (nI (cellN L xs 5 % 5))]) (by rw [show nI (cellN L xs (5)) - nI (cellN L xs (5)) / 5 * 5 = nI (cellN L xs (5) % 5) from pk_rem (d := 5) (a := cellN L xs (5)) (by have := @cellN_lt L xs; first | exact Nat.lt_trans cellN_lt (by decide) | omega) (by decide) (by decide)] <;> rfl) ?_
    refine r_icmp_ge C (tgt := 240) rfl dL_law_123 (fun _ => ?_) (fun h => absurd (show nI (cellN L xs (5) % 5) ≤ nI (cellN L xs 5 % 5) from Int32.le_refl _) h)
    refine r_lo [0, 1, 2, 3, 4] (lo' := [(0, .ref bS), (1, .int (nI (lwS L xs))), (2, .ref b), (3, .ref aH), (4, .ref aN)]) rfl ?_
    exact kk n I ad ct _ _ (by omega) (by omega) hTL
  | succ m ih =>
    intro k n I ad ct c9 s9 hk hTL hc hs
    have room : ∀ c n, c ≤ c9 + 9 → n ≤ s9 + 9000 → qOk X (F0, c, n) := fun c n g1 g2 => hroom c n (by omega) (by omega)
    have C := hTL.1.C
    refine r_iload C (k := 5) rfl dL_law_114 ?_
    refine r_aload_n C (k := 0) rfl rfl dL_law_116 ?_
    refine r_iconst C (v := 5) rfl dL_law_117 ?_
    refine r_st (st' := [.int (nI 5), .ref bS, .int (nI k)]) rfl ?_
    refine r_callS C (d' := 1) [.ref bS, .int (nI (5))] (c_cell (w := wM w0 I ad) hX (i := 5) (by omega)) myL_cell wm3_49 rfl (kR rfl) (by decide) (kR rfl) rfl dL_law_118 ?_ (room _ _ (Nat.le_add_right _ _) (Nat.le_add_right _ _))
    refine r_iconst C (v := 5) rfl dL_law_121 ?_
    refine r_irem C (by decide) dL_law_122 ?_
    refine r_st (st' := [.int (nI (cellN L xs (5) % 5)), .int (nI k)]) (by rw [show nI (cellN L xs (5)) - nI (cellN L xs (5)) / 5 * 5 = nI (cellN L xs (5) % 5) from pk_rem (d := 5) (a := cellN L xs (5)) (by have := @cellN_lt L xs; first | exact Nat.lt_trans cellN_lt (by decide) | omega) (by decide) (by decide)] <;> rfl) ?_
    refine r_icmp_ge C (tgt := 240) rfl dL_law_123 (fun h => absurd ((nI_leI (by omega) (by omega)).mp h) (by omega)) (fun _ => ?_)
    have hl : (lwTws L xs k).1.length ≤ 100 := by have := lwTws_len L xs k; omega
    refine r_aload_n C (k := 0) rfl rfl dL_law_126 ?_
    refine r_bipush C (v := 6) rfl dL_law_127 ?_
    refine r_iload C (k := 5) rfl dL_law_129 ?_
    refine r_iadd C dL_law_131 ?_
    refine r_st (st' := [.int (nI (6 + k)), .ref bS]) (by rw [show (6 : Int32) + nI (k) = nI (6 + k) from nI_add 6 _] <;> rfl) ?_
    refine r_callS C (d' := 1) [.ref bS, .int (nI (6 + k))] (c_cell (w := wM w0 I ad) hX (i := 6 + k) (by omega)) myL_cell wm3_49 rfl (kR rfl) (by decide) (kR rfl) rfl dL_law_132 ?_ (room _ _ (Nat.le_add_right _ _) (Nat.le_add_right _ _))
    refine r_iload_n C (k := 1) rfl rfl dL_law_135 ?_
    refine r_irem C (fun z => by have h8 := lwS_ge L xs; have h9 := lwS_lt L xs; have h7 := (nI_eq (b := 0) (by omega) (by decide)).mp z; omega) dL_law_136 ?_
    refine r_st (st' := [.int (nI (cellN L xs (6 + k) % lwS L xs))]) (by rw [show nI (cellN L xs (6 + k)) - nI (cellN L xs (6 + k)) / nI (lwS L xs) * nI (lwS L xs) = nI (cellN L xs (6 + k) % lwS L xs) from pk_rem (d := lwS L xs) (a := cellN L xs (6 + k)) (Nat.lt_trans cellN_lt (by decide)) (by have := lwS_ge L xs; omega) (by have := lwS_lt L xs; omega)] <;> rfl) ?_
    obtain ⟨sl, hsl⟩ : ∃ sl, sl = cellN L xs (6 + k) % lwS L xs := ⟨_, rfl⟩
    rw [← hsl]
    have hs22 : sl < 22 := by rw [hsl]; exact Nat.lt_trans (Nat.mod_lt _ (by have := lwS_ge L xs; omega)) (lwS_lt L xs)
    refine r_istore C (lo' := [(6, .int (nI sl)), (0, .ref bS), (1, .int (nI (lwS L xs))), (2, .ref b), (3, .ref aH), (4, .ref aN), (5, .int (nI k))]) (by decide) rfl dL_law_137 ?_
    refine r_aload_n C (k := 4) rfl rfl dL_law_139 ?_
    refine r_iload C (k := 0) rfl dL_law_140 ?_
    refine r_balZA C (32, 0, 0, 0) ((gD_C C).2.1 _ hTL.2.1.1) hTL.2.1.2.1 hTL.2.1.2.2 (vp_in_nI (by omega) (by decide)) (v := (lwTws L xs k).2 sl) (by rw [nI_clamp (by omega)]) dL_law_142 ?_
    refine r_if_ne C (tgt := 229) rfl dL_law_143 (fun h0 => ?_) (fun h0 => ?_)
    · refine r_aload_n C (k := 4) rfl rfl dL_law_229 ?_
      refine r_iload C (k := 0) rfl dL_law_230 ?_
      refine r_iconst C (v := 1) rfl dL_law_232 ?_
      refine r_basZA C (32, 0, 0, 0) hTL.2.1.1 hTL.2.1.2.1 hTL.2.1.2.2 (y := 1) rfl (vp_in_nI (by omega) (by decide)) dL_law_233 ?_
      have e9 : lwTws L xs (k + 1) = ((lwTws L xs k).1, upd (lwTws L xs k).2 sl 1) := by
        show lwTw L xs k _ = _
        unfold lwTw
        rw [← hsl, if_neg h0]
      replace hTL : TL w0 X b (lwTws L xs (k + 1)).1 (n) aH aN (lwTws L xs (k + 1)).2 f2 I ad (upE ct (32, 0, 0, 0) (.inl (wZ w0, 40, .inl (upd (lwTws L xs k).2 (nI sl).toNatClampNeg 1)))) := by
        rw [e9, nI_clamp (by omega)]
        exact hTL.row3
      refine r_iinc C (k := 6) (v := nI (k + 1)) (lo' := [(5, .int (nI (k + 1)))] ++ [(6, .int (nI sl)), (0, .ref bS), (1, .int (nI (lwS L xs))), (2, .ref b), (3, .ref aH), (4, .ref aN)]) rfl (by exact nI_add k 1) (by decide) rfl dL_law_234 ?_
      refine r_goto C (tgt := 114) rfl dL_law_237 ?_
      refine r_lo [2, 3, 4, 5, 6, 0] (lo' := [(0, .ref bS), (1, .int (nI (lwS L xs))), (2, .ref b), (3, .ref aH), (4, .ref aN), (5, .int (nI (k + 1)))]) rfl ?_
      clear hl
      exact ih (k + 1) _ I ad _ _ _ (by omega) hTL (by omega) (by omega)
    · have hS1 := hTL.1.S hS
      refine r_aload_n C (k := 3) rfl rfl dL_law_146 ?_
      refine r_ldcwS C ((hS1.s C).imp fun _ _ _ h => h.2.2.1 29 (by decide)) dL_law_147 ?_
      refine tl_app hS hY hTL (T' := (lwTws L xs k).1 ++ stN 29) (d' := 5) [.ref (sAd (wM w0 I ad) 29)] (fun iV iW L9 h1 h2 h3 h4 h5 h6 h7 => c_sbS h1 h2 h3 h4 h5 h6 h7 (i := 29) (by decide) rfl (by have h9 : (sTx 29).length = 5 := rfl; omega)) mbJ4_append_15ec4 wm6_168 rfl wm7_13 rfl (by decide) (kR rfl) (kR rfl) rfl dL_law_150 (room _ _ (Nat.add_le_add_left (by decide) c9) (Nat.add_le_add_left (by decide) s9)) ?_
      intro I ad ct hTL
      have C := hTL.1.C
      have hS1 := hTL.1.S hS
      show gU (wM w0 I ad) X (F0, c9 + 1, s9 + 1000) ct 153 [(6, .int (nI sl)), (0, .ref bS), (1, .int (nI (lwS L xs))), (2, .ref b), (3, .ref aH), (4, .ref aN), (5, .int (nI k))] [.ref b]
      replace hl : ((lwTws L xs k).1 ++ stN 29).length ≤ 105 := by rw [List.length_append, stN_len]; have h9 : (sTx 29).length = 5 := rfl; omega
      refine r_iload C (k := 0) rfl dL_law_153 ?_
      refine tl_app hS hY hTL (T' := (lwTws L xs k).1 ++ stN 29 ++ digs (sl)) (d' := 5) [.int (nI (sl))] (fun iV iW L9 h1 h2 h3 h4 h5 h6 h7 => c_sbI h1 h2 h3 h4 h5 h6 h7 (x := sl) (by omega) (by have := @digs_le (sl); omega)) mbJ4_append_bf812 wm6_133 rfl wm7_14 rfl (by decide) (kR rfl) (kR rfl) rfl dL_law_155 (room _ _ (Nat.le_trans (Nat.le_of_eq (Nat.add_assoc c9 1 1)) (Nat.add_le_add_left (by decide) c9)) (Nat.le_trans (Nat.le_of_eq (Nat.add_assoc s9 1000 1000)) (Nat.add_le_add_left (by decide) s9))) ?_
      intro I ad ct hTL
      have C := hTL.1.C
      have hS1 := hTL.1.S hS
      refine r_wid (c' := c9 + 2) (s' := s9 + 2000) (Nat.le_of_eq (Nat.add_assoc c9 1 1)) (Nat.le_of_eq (Nat.add_assoc s9 1000 1000)) ?_
      show gU (wM w0 I ad) X (F0, c9 + 2, s9 + 2000) ct 158 [(6, .int (nI sl)), (0, .ref bS), (1, .int (nI (lwS L xs))), (2, .ref b), (3, .ref aH), (4, .ref aN), (5, .int (nI k))] [.ref b]
      replace hl : ((lwTws L xs k).1 ++ stN 29 ++ digs (sl)).length ≤ 107 := by rw [List.length_append]; have := @digs_le (sl); omega
      refine r_bipush C (v := 32) rfl dL_law_158 ?_
      refine r_st (st' := [.int (nI (32)), .ref b]) rfl ?_
      refine tl_app hS hY hTL (T' := (lwTws L xs k).1 ++ stN 29 ++ digs (sl) ++ [32]) (d' := 5) [.int (nI (32))] (fun iV iW L9 h1 h2 h3 h4 h5 h6 h7 => c_sbC h1 h2 h3 h4 h5 h6 h7 (c := 32) (by decide) (by omega)) mbJ4_append_cf468 wm6_25 rfl wm6_23 rfl (by decide) (kR rfl) (kR rfl) rfl dL_law_160 (room _ _ (Nat.le_trans (Nat.le_of_eq (Nat.add_assoc c9 2 1)) (Nat.add_le_add_left (by decide) c9)) (Nat.le_trans (Nat.le_of_eq (Nat.add_assoc s9 2000 1000)) (Nat.add_le_add_left (by decide) s9))) ?_
      intro I ad ct hTL
      have C := hTL.1.C
      have hS1 := hTL.1.S hS
      refine r_wid (c' := c9 + 3) (s' := s9 + 3000) (Nat.le_of_eq (Nat.add_assoc c9 2 1)) (Nat.le_of_eq (Nat.add_assoc s9 2000 1000)) ?_
      show gU (wM w0 I ad) X (F0, c9 + 3, s9 + 3000) ct 163 [(6, .int (nI sl)), (0, .ref bS), (1, .int (nI (lwS L xs))), (2, .ref b), (3, .ref aH), (4, .ref aN), (5, .int (nI k))] [.ref b]
      replace hl : ((lwTws L xs k).1 ++ stN 29 ++ digs (sl) ++ [32]).length ≤ 108 := by rw [List.length_append]; show _ + 1 ≤ _; omega
      refine r_bipush C (v := 97) rfl dL_law_163 ?_
      refine r_aload_n C (k := 1) rfl rfl dL_law_165 ?_
      refine r_bipush C (v := 12) rfl dL_law_166 ?_
      refine r_iload C (k := 6) rfl dL_law_168 ?_
      refine r_iadd C dL_law_170 ?_
      refine r_st (st' := [.int (nI (12 + k)), .ref bS, .int 97, .ref b]) (by rw [show (12 : Int32) + nI (k) = nI (12 + k) from nI_add 12 _] <;> rfl) ?_
      refine r_callS C (d' := 1) [.ref bS, .int (nI (12 + k))] (c_cell (w := wM w0 I ad) hX (i := 12 + k) (by omega)) myL_cell wm3_49 rfl (kR rfl) (by decide) (kR rfl) rfl dL_law_171 ?_ (room _ _ (Nat.add_le_add_left (by decide) c9) (Nat.add_le_add_left (by decide) s9))
      refine r_bipush C (v := 26) rfl dL_law_174 ?_
      refine r_irem C (by decide) dL_law_176 ?_
      refine r_st (st' := [.int (nI (cellN L xs (12 + k) % 26)), .int 97, .ref b]) (by rw [show nI (cellN L xs (12 + k)) - nI (cellN L xs (12 + k)) / 26 * 26 = nI (cellN L xs (12 + k) % 26) from pk_rem (d := 26) (a := cellN L xs (12 + k)) (by have := @cellN_lt L xs; first | exact Nat.lt_trans cellN_lt (by decide) | omega) (by decide) (by decide)] <;> rfl) ?_
      refine r_iadd C dL_law_177 ?_
      refine r_st (st' := [.int (nI (97 + cellN L xs (12 + k) % 26)), .ref b]) (by rw [show (97 : Int32) + nI (cellN L xs (12 + k) % 26) = nI (97 + cellN L xs (12 + k) % 26) from nI_add 97 _] <;> rfl) ?_
      refine r_i2c C (v := nI (97 + cellN L xs (12 + k) % 26)) (chr_2 ⟨97 + cellN L xs (12 + k) % 26, by omega⟩) dL_law_178 ?_
      refine tl_app hS hY hTL (T' := (lwTws L xs k).1 ++ stN 29 ++ digs (sl) ++ [32] ++ [97 + cellN L xs (12 + k) % 26]) (d' := 5) [.int (nI (97 + cellN L xs (12 + k) % 26))] (fun iV iW L9 h1 h2 h3 h4 h5 h6 h7 => c_sbC h1 h2 h3 h4 h5 h6 h7 (c := 97 + cellN L xs (12 + k) % 26) (by omega) (by omega)) mbJ4_append_cf468 wm6_25 rfl wm6_23 rfl (by decide) (kR rfl) (kR rfl) rfl dL_law_179 (room _ _ (Nat.le_trans (Nat.le_of_eq (Nat.add_assoc c9 3 1)) (Nat.add_le_add_left (by decide) c9)) (Nat.le_trans (Nat.le_of_eq (Nat.add_assoc s9 3000 1000)) (Nat.add_le_add_left (by decide) s9))) ?_
      intro I ad ct hTL
      have C := hTL.1.C
      have hS1 := hTL.1.S hS
      refine r_wid (c' := c9 + 4) (s' := s9 + 4000) (Nat.le_of_eq (Nat.add_assoc c9 3 1)) (Nat.le_of_eq (Nat.add_assoc s9 3000 1000)) ?_
      show gU (wM w0 I ad) X (F0, c9 + 4, s9 + 4000) ct 182 [(6, .int (nI sl)), (0, .ref bS), (1, .int (nI (lwS L xs))), (2, .ref b), (3, .ref aH), (4, .ref aN), (5, .int (nI k))] [.ref b]
      replace hl : ((lwTws L xs k).1 ++ stN 29 ++ digs (sl) ++ [32] ++ [97 + cellN L xs (12 + k) % 26]).length ≤ 109 := by rw [List.length_append]; show _ + 1 ≤ _; omega
      refine r_bipush C (v := 32) rfl dL_law_182 ?_
      refine r_st (st' := [.int (nI (32)), .ref b]) rfl ?_
      refine tl_app hS hY hTL (T' := (lwTws L xs k).1 ++ stN 29 ++ digs (sl) ++ [32] ++ [97 + cellN L xs (12 + k) % 26] ++ [32]) (d' := 5) [.int (nI (32))] (fun iV iW L9 h1 h2 h3 h4 h5 h6 h7 => c_sbC h1 h2 h3 h4 h5 h6 h7 (c := 32) (by decide) (by omega)) mbJ4_append_cf468 wm6_25 rfl wm6_23 rfl (by decide) (kR rfl) (kR rfl) rfl dL_law_184 (room _ _ (Nat.le_trans (Nat.le_of_eq (Nat.add_assoc c9 4 1)) (Nat.add_le_add_left (by decide) c9)) (Nat.le_trans (Nat.le_of_eq (Nat.add_assoc s9 4000 1000)) (Nat.add_le_add_left (by decide) s9))) ?_
      intro I ad ct hTL
      have C := hTL.1.C
      have hS1 := hTL.1.S hS
      refine r_wid (c' := c9 + 5) (s' := s9 + 5000) (Nat.le_of_eq (Nat.add_assoc c9 4 1)) (Nat.le_of_eq (Nat.add_assoc s9 4000 1000)) ?_
      show gU (wM w0 I ad) X (F0, c9 + 5, s9 + 5000) ct 187 [(6, .int (nI sl)), (0, .ref bS), (1, .int (nI (lwS L xs))), (2, .ref b), (3, .ref aH), (4, .ref aN), (5, .int (nI k))] [.ref b]
      replace hl : ((lwTws L xs k).1 ++ stN 29 ++ digs (sl) ++ [32] ++ [97 + cellN L xs (12 + k) % 26] ++ [32]).length ≤ 110 := by rw [List.length_append]; show _ + 1 ≤ _; omega
      refine r_aload_n C (k := 1) rfl rfl dL_law_187 ?_
      refine r_bipush C (v := 18) rfl dL_law_188 ?_
      refine r_iload C (k := 6) rfl dL_law_190 ?_
      refine r_iadd C dL_law_192 ?_
      refine r_st (st' := [.int (nI (18 + k)), .ref bS, .ref b]) (by rw [show (18 : Int32) + nI (k) = nI (18 + k) from nI_add 18 _] <;> rfl) ?_
      refine r_callS C (d' := 1) [.ref bS, .int (nI (18 + k))] (c_cell (w := wM w0 I ad) hX (i := 18 + k) (by omega)) myL_cell wm3_49 rfl (kR rfl) (by decide) (kR rfl) rfl dL_law_193 ?_ (room _ _ (Nat.add_le_add_left (by decide) c9) (Nat.add_le_add_left (by decide) s9))
      refine r_iconst C (v := 2) rfl dL_law_196 ?_
      refine r_irem C (by decide) dL_law_197 ?_
      refine r_st (st' := [.int (nI (cellN L xs (18 + k) % 2)), .ref b]) (by rw [show nI (cellN L xs (18 + k)) - nI (cellN L xs (18 + k)) / 2 * 2 = nI (cellN L xs (18 + k) % 2) from pk_rem (d := 2) (a := cellN L xs (18 + k)) (by have := @cellN_lt L xs; first | exact Nat.lt_trans cellN_lt (by decide) | omega) (by decide) (by decide)] <;> rfl) ?_
      refine tl_app hS hY hTL (T' := (lwTws L xs k).1 ++ stN 29 ++ digs (sl) ++ [32] ++ [97 + cellN L xs (12 + k) % 26] ++ [32] ++ digs (cellN L xs (18 + k) % 2)) (d' := 5) [.int (nI (cellN L xs (18 + k) % 2))] (fun iV iW L9 h1 h2 h3 h4 h5 h6 h7 => c_sbI h1 h2 h3 h4 h5 h6 h7 (x := cellN L xs (18 + k) % 2) (by omega) (by have := @digs_le (cellN L xs (18 + k) % 2); omega)) mbJ4_append_bf812 wm6_133 rfl wm7_14 rfl (by decide) (kR rfl) (kR rfl) rfl dL_law_198 (room _ _ (Nat.le_trans (Nat.le_of_eq (Nat.add_assoc c9 5 1)) (Nat.add_le_add_left (by decide) c9)) (Nat.le_trans (Nat.le_of_eq (Nat.add_assoc s9 5000 1000)) (Nat.add_le_add_left (by decide) s9))) ?_
      intro I ad ct hTL
      have C := hTL.1.C
      have hS1 := hTL.1.S hS
      refine r_wid (c' := c9 + 6) (s' := s9 + 6000) (Nat.le_of_eq (Nat.add_assoc c9 5 1)) (Nat.le_of_eq (Nat.add_assoc s9 5000 1000)) ?_
      show gU (wM w0 I ad) X (F0, c9 + 6, s9 + 6000) ct 201 [(6, .int (nI sl)), (0, .ref bS), (1, .int (nI (lwS L xs))), (2, .ref b), (3, .ref aH), (4, .ref aN), (5, .int (nI k))] [.ref b]
      replace hl : ((lwTws L xs k).1 ++ stN 29 ++ digs (sl) ++ [32] ++ [97 + cellN L xs (12 + k) % 26] ++ [32] ++ digs (cellN L xs (18 + k) % 2)).length ≤ 112 := by rw [List.length_append]; have := @digs_le (cellN L xs (18 + k) % 2); omega
      refine r_bipush C (v := 32) rfl dL_law_201 ?_
      refine r_st (st' := [.int (nI (32)), .ref b]) rfl ?_
      refine tl_app hS hY hTL (T' := (lwTws L xs k).1 ++ stN 29 ++ digs (sl) ++ [32] ++ [97 + cellN L xs (12 + k) % 26] ++ [32] ++ digs (cellN L xs (18 + k) % 2) ++ [32]) (d' := 5) [.int (nI (32))] (fun iV iW L9 h1 h2 h3 h4 h5 h6 h7 => c_sbC h1 h2 h3 h4 h5 h6 h7 (c := 32) (by decide) (by omega)) mbJ4_append_cf468 wm6_25 rfl wm6_23 rfl (by decide) (kR rfl) (kR rfl) rfl dL_law_203 (room _ _ (Nat.le_trans (Nat.le_of_eq (Nat.add_assoc c9 6 1)) (Nat.add_le_add_left (by decide) c9)) (Nat.le_trans (Nat.le_of_eq (Nat.add_assoc s9 6000 1000)) (Nat.add_le_add_left (by decide) s9))) ?_
      intro I ad ct hTL
      have C := hTL.1.C
      have hS1 := hTL.1.S hS
      refine r_wid (c' := c9 + 7) (s' := s9 + 7000) (Nat.le_of_eq (Nat.add_assoc c9 6 1)) (Nat.le_of_eq (Nat.add_assoc s9 6000 1000)) ?_
      show gU (wM w0 I ad) X (F0, c9 + 7, s9 + 7000) ct 206 [(6, .int (nI sl)), (0, .ref bS), (1, .int (nI (lwS L xs))), (2, .ref b), (3, .ref aH), (4, .ref aN), (5, .int (nI k))] [.ref b]
      replace hl : ((lwTws L xs k).1 ++ stN 29 ++ digs (sl) ++ [32] ++ [97 + cellN L xs (12 + k) % 26] ++ [32] ++ digs (cellN L xs (18 + k) % 2) ++ [32]).length ≤ 113 := by rw [List.length_append]; show _ + 1 ≤ _; omega
      refine r_iconst C (v := 1) rfl dL_law_206 ?_
      refine r_aload_n C (k := 1) rfl rfl dL_law_207 ?_
      refine r_bipush C (v := 24) rfl dL_law_208 ?_
      refine r_iload C (k := 6) rfl dL_law_210 ?_
      refine r_iadd C dL_law_212 ?_
      refine r_st (st' := [.int (nI (24 + k)), .ref bS, .int 1, .ref b]) (by rw [show (24 : Int32) + nI (k) = nI (24 + k) from nI_add 24 _] <;> rfl) ?_
      refine r_callS C (d' := 1) [.ref bS, .int (nI (24 + k))] (c_cell (w := wM w0 I ad) hX (i := 24 + k) (by omega)) myL_cell wm3_49 rfl (kR rfl) (by decide) (kR rfl) rfl dL_law_213 ?_ (room _ _ (Nat.add_le_add_left (by decide) c9) (Nat.add_le_add_left (by decide) s9))
      refine r_bipush C (v := 15) rfl dL_law_216 ?_
      refine r_irem C (by decide) dL_law_218 ?_
      refine r_st (st' := [.int (nI (cellN L xs (24 + k) % 15)), .int 1, .ref b]) (by rw [show nI (cellN L xs (24 + k)) - nI (cellN L xs (24 + k)) / 15 * 15 = nI (cellN L xs (24 + k) % 15) from pk_rem (d := 15) (a := cellN L xs (24 + k)) (by have := @cellN_lt L xs; first | exact Nat.lt_trans cellN_lt (by decide) | omega) (by decide) (by decide)] <;> rfl) ?_
      refine r_iadd C dL_law_219 ?_
      refine r_st (st' := [.int (nI (1 + cellN L xs (24 + k) % 15)), .ref b]) (by rw [show (1 : Int32) + nI (cellN L xs (24 + k) % 15) = nI (1 + cellN L xs (24 + k) % 15) from nI_add 1 _] <;> rfl) ?_
      refine tl_app hS hY hTL (T' := (lwTws L xs k).1 ++ stN 29 ++ digs (sl) ++ [32] ++ [97 + cellN L xs (12 + k) % 26] ++ [32] ++ digs (cellN L xs (18 + k) % 2) ++ [32] ++ digs (1 + cellN L xs (24 + k) % 15)) (d' := 5) [.int (nI (1 + cellN L xs (24 + k) % 15))] (fun iV iW L9 h1 h2 h3 h4 h5 h6 h7 => c_sbI h1 h2 h3 h4 h5 h6 h7 (x := 1 + cellN L xs (24 + k) % 15) (by omega) (by have := @digs_le (1 + cellN L xs (24 + k) % 15); omega)) mbJ4_append_bf812 wm6_133 rfl wm7_14 rfl (by decide) (kR rfl) (kR rfl) rfl dL_law_220 (room _ _ (Nat.le_trans (Nat.le_of_eq (Nat.add_assoc c9 7 1)) (Nat.add_le_add_left (by decide) c9)) (Nat.le_trans (Nat.le_of_eq (Nat.add_assoc s9 7000 1000)) (Nat.add_le_add_left (by decide) s9))) ?_
      intro I ad ct hTL
      have C := hTL.1.C
      have hS1 := hTL.1.S hS
      refine r_wid (c' := c9 + 8) (s' := s9 + 8000) (Nat.le_of_eq (Nat.add_assoc c9 7 1)) (Nat.le_of_eq (Nat.add_assoc s9 7000 1000)) ?_
      show gU (wM w0 I ad) X (F0, c9 + 8, s9 + 8000) ct 223 [(6, .int (nI sl)), (0, .ref bS), (1, .int (nI (lwS L xs))), (2, .ref b), (3, .ref aH), (4, .ref aN), (5, .int (nI k))] [.ref b]
      replace hl : ((lwTws L xs k).1 ++ stN 29 ++ digs (sl) ++ [32] ++ [97 + cellN L xs (12 + k) % 26] ++ [32] ++ digs (cellN L xs (18 + k) % 2) ++ [32] ++ digs (1 + cellN L xs (24 + k) % 15)).length ≤ 115 := by rw [List.length_append]; have := @digs_le (1 + cellN L xs (24 + k) % 15); omega
      refine r_bipush C (v := 59) rfl dL_law_223 ?_
      refine r_st (st' := [.int (nI (59)), .ref b]) rfl ?_
      refine tl_app hS hY hTL (T' := (lwTws L xs k).1 ++ stN 29 ++ digs (sl) ++ [32] ++ [97 + cellN L xs (12 + k) % 26] ++ [32] ++ digs (cellN L xs (18 + k) % 2) ++ [32] ++ digs (1 + cellN L xs (24 + k) % 15) ++ [59]) (d' := 5) [.int (nI (59))] (fun iV iW L9 h1 h2 h3 h4 h5 h6 h7 => c_sbC h1 h2 h3 h4 h5 h6 h7 (c := 59) (by decide) (by omega)) mbJ4_append_cf468 wm6_25 rfl wm6_23 rfl (by decide) (kR rfl) (kR rfl) rfl dL_law_225 (room _ _ (Nat.le_trans (Nat.le_of_eq (Nat.add_assoc c9 8 1)) (Nat.add_le_add_left (by decide) c9)) (Nat.le_trans (Nat.le_of_eq (Nat.add_assoc s9 8000 1000)) (Nat.add_le_add_left (by decide) s9))) ?_
      intro I ad ct hTL
      have C := hTL.1.C
      have hS1 := hTL.1.S hS
      refine r_wid (c' := c9 + 9) (s' := s9 + 9000) (Nat.le_of_eq (Nat.add_assoc c9 8 1)) (Nat.le_of_eq (Nat.add_assoc s9 8000 1000)) ?_
      show gU (wM w0 I ad) X (F0, c9 + 9, s9 + 9000) ct 228 [(6, .int (nI sl)), (0, .ref bS), (1, .int (nI (lwS L xs))), (2, .ref b), (3, .ref aH), (4, .ref aN), (5, .int (nI k))] [.ref b]
      replace hl : ((lwTws L xs k).1 ++ stN 29 ++ digs (sl) ++ [32] ++ [97 + cellN L xs (12 + k) % 26] ++ [32] ++ digs (cellN L xs (18 + k) % 2) ++ [32] ++ digs (1 + cellN L xs (24 + k) % 15) ++ [59]).length ≤ 116 := by rw [List.length_append]; show _ + 1 ≤ _; omega
      refine r_pop C rfl dL_law_228 ?_
      refine r_aload_n C (k := 4) rfl rfl dL_law_229 ?_
      refine r_iload C (k := 0) rfl dL_law_230 ?_
      refine r_iconst C (v := 1) rfl dL_law_232 ?_
      refine r_basZA C (32, 0, 0, 0) hTL.2.1.1 hTL.2.1.2.1 hTL.2.1.2.2 (y := 1) rfl (vp_in_nI (by omega) (by decide)) dL_law_233 ?_
      have e9 : lwTws L xs (k + 1) = ((lwTws L xs k).1 ++ stN 29 ++ digs (sl) ++ [32] ++ [97 + cellN L xs (12 + k) % 26] ++ [32] ++ digs (cellN L xs (18 + k) % 2) ++ [32] ++ digs (1 + cellN L xs (24 + k) % 15) ++ [59], upd (lwTws L xs k).2 sl 1) := by
        show lwTw L xs k _ = _
        unfold lwTw
        rw [← hsl, if_pos h0]
      replace hTL : TL w0 X b (lwTws L xs (k + 1)).1 (n + 1 + 1 + 1 + 1 + 1 + 1 + 1 + 1 + 1) aH aN (lwTws L xs (k + 1)).2 f2 I ad (upE ct (32, 0, 0, 0) (.inl (wZ w0, 40, .inl (upd (lwTws L xs k).2 (nI sl).toNatClampNeg 1)))) := by
        rw [e9, nI_clamp (by omega)]
        exact hTL.row3
      refine r_iinc C (k := 6) (v := nI (k + 1)) (lo' := [(5, .int (nI (k + 1)))] ++ [(6, .int (nI sl)), (0, .ref bS), (1, .int (nI (lwS L xs))), (2, .ref b), (3, .ref aH), (4, .ref aN)]) rfl (by exact nI_add k 1) (by decide) rfl dL_law_234 ?_
      refine r_goto C (tgt := 114) rfl dL_law_237 ?_
      refine r_lo [2, 3, 4, 5, 6, 0] (lo' := [(0, .ref bS), (1, .int (nI (lwS L xs))), (2, .ref b), (3, .ref aH), (4, .ref aN), (5, .int (nI (k + 1)))]) rfl ?_
      clear hl
      exact ih (k + 1) _ I ad _ _ _ (by omega) hTL (by omega) (by omega)
theorem la_ne {w0 : WP} (hS : gS w0) (hY : gY w0) {bS L : Nat} {xs : Nat → Int32} (hX : gSc w0 bS L xs) {X : CX} {F0 : State → Prop} {b aH aN : Nat} {f1 f2 : Nat → Int32} {cE sE : Nat} (hroom : ∀ c n, c ≤ cE → n ≤ sE → qOk X (F0, c, n)) {cX sX : Nat} (hcX : cX ≤ cE) (hsX : sX ≤ sE) (kk : ∀ n I ad ct c s, c ≤ cX → s ≤ sX → TL w0 X b (lwNes L xs (cellN L xs 30 % 3)).1 n aH aN f1 (lwNes L xs (cellN L xs 30 % 3)).2 I ad ct → gU (wM w0 I ad) X (F0, c, s) ct 329 [(0, .ref bS), (1, .int (nI (lwS L xs))), (2, .ref b), (3, .ref aH), (4, .ref aN)] []) : ∀ m k n I ad ct c9 s9, k + m = cellN L xs 30 % 3 → TL w0 X b (lwNes L xs k).1 n aH aN f1 (lwNes L xs k).2 I ad ct → c9 + 5 * m ≤ cX → s9 + 5000 * m ≤ sX → gU (wM w0 I ad) X (F0, c9, s9) ct 243 [(0, .ref bS), (1, .int (nI (lwS L xs))), (2, .ref b), (3, .ref aH), (4, .ref aN), (5, .int (nI k))] [] := by
  intro m
  induction m with
  | zero =>
    intro k n I ad ct c9 s9 hk hTL hc hs
    have room : ∀ c n, c ≤ c9 + 0 → n ≤ s9 + 0 → qOk X (F0, c, n) := fun c n g1 g2 => hroom c n (by omega) (by omega)
    have C := hTL.1.C
    obtain rfl : k = cellN L xs 30 % 3 := hk
    refine r_iload C (k := 5) rfl dL_law_243 ?_
    refine r_aload_n C (k := 0) rfl rfl dL_law_245 ?_
    refine r_bipush C (v := 30) rfl dL_law_246 ?_
    refine r_st (st' := [.int (nI 30), .ref bS, .int (nI (cellN L xs 30 % 3))]) rfl ?_
    refine r_callS C (d' := 1) [.ref bS, .int (nI (30))] (c_cell (w := wM w0 I ad) hX (i := 30) (by omega)) myL_cell wm3_49 rfl (kR rfl) (by decide) (kR rfl) rfl dL_law_248 ?_ (room _ _ (Nat.le_add_right _ _) (Nat.le_add_right _ _))
    refine r_iconst C (v := 3) rfl dL_law_251 ?_
    refine r_irem C (by decide) dL_law_252 ?_
    refine r_st (st' := [.int (nI (cellN L xs (30) % 3)), .int (nI (cellN L xs 30 % 3))]) (by rw [show nI (cellN L xs (30)) - nI (cellN L xs (30)) / 3 * 3 = nI (cellN L xs (30) % 3) from pk_rem (d := 3) (a := cellN L xs (30)) (by have := @cellN_lt L xs; first | exact Nat.lt_trans cellN_lt (by decide) | omega) (by decide) (by decide)] <;> rfl) ?_
    refine r_icmp_ge C (tgt := 329) rfl dL_law_253 (fun _ => ?_) (fun h => absurd (show nI (cellN L xs (30) % 3) ≤ nI (cellN L xs 30 % 3) from Int32.le_refl _) h)
    refine r_lo [0, 1, 2, 3, 4] (lo' := [(0, .ref bS), (1, .int (nI (lwS L xs))), (2, .ref b), (3, .ref aH), (4, .ref aN)]) rfl ?_
    exact kk n I ad ct _ _ (by omega) (by omega) hTL
  | succ m ih =>
    intro k n I ad ct c9 s9 hk hTL hc hs
    have room : ∀ c n, c ≤ c9 + 5 → n ≤ s9 + 5000 → qOk X (F0, c, n) := fun c n g1 g2 => hroom c n (by omega) (by omega)
    have C := hTL.1.C
    refine r_iload C (k := 5) rfl dL_law_243 ?_
    refine r_aload_n C (k := 0) rfl rfl dL_law_245 ?_
    refine r_bipush C (v := 30) rfl dL_law_246 ?_
    refine r_st (st' := [.int (nI 30), .ref bS, .int (nI k)]) rfl ?_
    refine r_callS C (d' := 1) [.ref bS, .int (nI (30))] (c_cell (w := wM w0 I ad) hX (i := 30) (by omega)) myL_cell wm3_49 rfl (kR rfl) (by decide) (kR rfl) rfl dL_law_248 ?_ (room _ _ (Nat.le_add_right _ _) (Nat.le_add_right _ _))
    refine r_iconst C (v := 3) rfl dL_law_251 ?_
    refine r_irem C (by decide) dL_law_252 ?_
    refine r_st (st' := [.int (nI (cellN L xs (30) % 3)), .int (nI k)]) (by rw [show nI (cellN L xs (30)) - nI (cellN L xs (30)) / 3 * 3 = nI (cellN L xs (30) % 3) from pk_rem (d := 3) (a := cellN L xs (30)) (by have := @cellN_lt L xs; first | exact Nat.lt_trans cellN_lt (by decide) | omega) (by decide) (by decide)] <;> rfl) ?_
    refine r_icmp_ge C (tgt := 329) rfl dL_law_253 (fun h => absurd ((nI_leI (by omega) (by omega)).mp h) (by omega)) (fun _ => ?_)
    have hl : (lwNes L xs k).1.length ≤ 100 := by have := lwNes_len L xs k; omega
    refine r_aload_n C (k := 0) rfl rfl dL_law_256 ?_
    refine r_bipush C (v := 31) rfl dL_law_257 ?_
    refine r_iload C (k := 5) rfl dL_law_259 ?_
    refine r_iadd C dL_law_261 ?_
    refine r_st (st' := [.int (nI (31 + k)), .ref bS]) (by rw [show (31 : Int32) + nI (k) = nI (31 + k) from nI_add 31 _] <;> rfl) ?_
    refine r_callS C (d' := 1) [.ref bS, .int (nI (31 + k))] (c_cell (w := wM w0 I ad) hX (i := 31 + k) (by omega)) myL_cell wm3_49 rfl (kR rfl) (by decide) (kR rfl) rfl dL_law_262 ?_ (room _ _ (Nat.le_add_right _ _) (Nat.le_add_right _ _))
    refine r_iload_n C (k := 1) rfl rfl dL_law_265 ?_
    refine r_irem C (fun z => by have h8 := lwS_ge L xs; have h9 := lwS_lt L xs; have h7 := (nI_eq (b := 0) (by omega) (by decide)).mp z; omega) dL_law_266 ?_
    refine r_st (st' := [.int (nI (cellN L xs (31 + k) % lwS L xs))]) (by rw [show nI (cellN L xs (31 + k)) - nI (cellN L xs (31 + k)) / nI (lwS L xs) * nI (lwS L xs) = nI (cellN L xs (31 + k) % lwS L xs) from pk_rem (d := lwS L xs) (a := cellN L xs (31 + k)) (Nat.lt_trans cellN_lt (by decide)) (by have := lwS_ge L xs; omega) (by have := lwS_lt L xs; omega)] <;> rfl) ?_
    obtain ⟨sl, hsl⟩ : ∃ sl, sl = cellN L xs (31 + k) % lwS L xs := ⟨_, rfl⟩
    rw [← hsl]
    have hs22 : sl < 22 := by rw [hsl]; exact Nat.lt_trans (Nat.mod_lt _ (by have := lwS_ge L xs; omega)) (lwS_lt L xs)
    refine r_istore C (lo' := [(6, .int (nI sl)), (0, .ref bS), (1, .int (nI (lwS L xs))), (2, .ref b), (3, .ref aH), (4, .ref aN), (5, .int (nI k))]) (by decide) rfl dL_law_267 ?_
    refine r_aload C (k := 5) rfl dL_law_269 ?_
    refine r_iload C (k := 0) rfl dL_law_271 ?_
    refine r_balZA C (32, 1, 0, 0) ((gD_C C).2.1 _ hTL.2.2.1) hTL.2.2.2.1 hTL.2.2.2.2 (vp_in_nI (by omega) (by decide)) (v := (lwNes L xs k).2 sl) (by rw [nI_clamp (by omega)]) dL_law_273 ?_
    refine r_if_ne C (tgt := 317) rfl dL_law_274 (fun h0 => ?_) (fun h0 => ?_)
    · refine r_aload C (k := 5) rfl dL_law_317 ?_
      refine r_iload C (k := 0) rfl dL_law_319 ?_
      refine r_iconst C (v := 1) rfl dL_law_321 ?_
      refine r_basZA C (32, 1, 0, 0) hTL.2.2.1 hTL.2.2.2.1 hTL.2.2.2.2 (y := 1) rfl (vp_in_nI (by omega) (by decide)) dL_law_322 ?_
      have e9 : lwNes L xs (k + 1) = ((lwNes L xs k).1, upd (lwNes L xs k).2 sl 1) := by
        show lwNe L xs k _ = _
        unfold lwNe
        rw [← hsl, if_neg h0]
      replace hTL : TL w0 X b (lwNes L xs (k + 1)).1 (n) aH aN f1 (lwNes L xs (k + 1)).2 I ad (upE ct (32, 1, 0, 0) (.inl (wZ w0, 40, .inl (upd (lwNes L xs k).2 (nI sl).toNatClampNeg 1)))) := by
        rw [e9, nI_clamp (by omega)]
        exact hTL.row4
      refine r_iinc C (k := 6) (v := nI (k + 1)) (lo' := [(5, .int (nI (k + 1)))] ++ [(6, .int (nI sl)), (0, .ref bS), (1, .int (nI (lwS L xs))), (2, .ref b), (3, .ref aH), (4, .ref aN)]) rfl (by exact nI_add k 1) (by decide) rfl dL_law_323 ?_
      refine r_goto C (tgt := 243) rfl dL_law_326 ?_
      refine r_lo [2, 3, 4, 5, 6, 0] (lo' := [(0, .ref bS), (1, .int (nI (lwS L xs))), (2, .ref b), (3, .ref aH), (4, .ref aN), (5, .int (nI (k + 1)))]) rfl ?_
      clear hl
      exact ih (k + 1) _ I ad _ _ _ (by omega) hTL (by omega) (by omega)
    · have hS1 := hTL.1.S hS
      refine r_aload_n C (k := 3) rfl rfl dL_law_277 ?_
      refine r_ldcwS C ((hS1.s C).imp fun _ _ _ h => h.2.2.1 30 (by decide)) dL_law_278 ?_
      refine tl_app hS hY hTL (T' := (lwNes L xs k).1 ++ stN 30) (d' := 5) [.ref (sAd (wM w0 I ad) 30)] (fun iV iW L9 h1 h2 h3 h4 h5 h6 h7 => c_sbS h1 h2 h3 h4 h5 h6 h7 (i := 30) (by decide) rfl (by have h9 : (sTx 30).length = 5 := rfl; omega)) mbJ4_append_15ec4 wm6_168 rfl wm7_13 rfl (by decide) (kR rfl) (kR rfl) rfl dL_law_281 (room _ _ (Nat.add_le_add_left (by decide) c9) (Nat.add_le_add_left (by decide) s9)) ?_
      intro I ad ct hTL
      have C := hTL.1.C
      have hS1 := hTL.1.S hS
      show gU (wM w0 I ad) X (F0, c9 + 1, s9 + 1000) ct 284 [(6, .int (nI sl)), (0, .ref bS), (1, .int (nI (lwS L xs))), (2, .ref b), (3, .ref aH), (4, .ref aN), (5, .int (nI k))] [.ref b]
      replace hl : ((lwNes L xs k).1 ++ stN 30).length ≤ 105 := by rw [List.length_append, stN_len]; have h9 : (sTx 30).length = 5 := rfl; omega
      refine r_iload C (k := 0) rfl dL_law_284 ?_
      refine tl_app hS hY hTL (T' := (lwNes L xs k).1 ++ stN 30 ++ digs (sl)) (d' := 5) [.int (nI (sl))] (fun iV iW L9 h1 h2 h3 h4 h5 h6 h7 => c_sbI h1 h2 h3 h4 h5 h6 h7 (x := sl) (by omega) (by have := @digs_le (sl); omega)) mbJ4_append_bf812 wm6_133 rfl wm7_14 rfl (by decide) (kR rfl) (kR rfl) rfl dL_law_286 (room _ _ (Nat.le_trans (Nat.le_of_eq (Nat.add_assoc c9 1 1)) (Nat.add_le_add_left (by decide) c9)) (Nat.le_trans (Nat.le_of_eq (Nat.add_assoc s9 1000 1000)) (Nat.add_le_add_left (by decide) s9))) ?_
      intro I ad ct hTL
      have C := hTL.1.C
      have hS1 := hTL.1.S hS
      refine r_wid (c' := c9 + 2) (s' := s9 + 2000) (Nat.le_of_eq (Nat.add_assoc c9 1 1)) (Nat.le_of_eq (Nat.add_assoc s9 1000 1000)) ?_
      show gU (wM w0 I ad) X (F0, c9 + 2, s9 + 2000) ct 289 [(6, .int (nI sl)), (0, .ref bS), (1, .int (nI (lwS L xs))), (2, .ref b), (3, .ref aH), (4, .ref aN), (5, .int (nI k))] [.ref b]
      replace hl : ((lwNes L xs k).1 ++ stN 30 ++ digs (sl)).length ≤ 107 := by rw [List.length_append]; have := @digs_le (sl); omega
      refine r_bipush C (v := 32) rfl dL_law_289 ?_
      refine r_st (st' := [.int (nI (32)), .ref b]) rfl ?_
      refine tl_app hS hY hTL (T' := (lwNes L xs k).1 ++ stN 30 ++ digs (sl) ++ [32]) (d' := 5) [.int (nI (32))] (fun iV iW L9 h1 h2 h3 h4 h5 h6 h7 => c_sbC h1 h2 h3 h4 h5 h6 h7 (c := 32) (by decide) (by omega)) mbJ4_append_cf468 wm6_25 rfl wm6_23 rfl (by decide) (kR rfl) (kR rfl) rfl dL_law_291 (room _ _ (Nat.le_trans (Nat.le_of_eq (Nat.add_assoc c9 2 1)) (Nat.add_le_add_left (by decide) c9)) (Nat.le_trans (Nat.le_of_eq (Nat.add_assoc s9 2000 1000)) (Nat.add_le_add_left (by decide) s9))) ?_
      intro I ad ct hTL
      have C := hTL.1.C
      have hS1 := hTL.1.S hS
      refine r_wid (c' := c9 + 3) (s' := s9 + 3000) (Nat.le_of_eq (Nat.add_assoc c9 2 1)) (Nat.le_of_eq (Nat.add_assoc s9 2000 1000)) ?_
      show gU (wM w0 I ad) X (F0, c9 + 3, s9 + 3000) ct 294 [(6, .int (nI sl)), (0, .ref bS), (1, .int (nI (lwS L xs))), (2, .ref b), (3, .ref aH), (4, .ref aN), (5, .int (nI k))] [.ref b]
      replace hl : ((lwNes L xs k).1 ++ stN 30 ++ digs (sl) ++ [32]).length ≤ 108 := by rw [List.length_append]; show _ + 1 ≤ _; omega
      refine r_iconst C (v := 1) rfl dL_law_294 ?_
      refine r_aload_n C (k := 1) rfl rfl dL_law_295 ?_
      refine r_bipush C (v := 34) rfl dL_law_296 ?_
      refine r_iload C (k := 6) rfl dL_law_298 ?_
      refine r_iadd C dL_law_300 ?_
      refine r_st (st' := [.int (nI (34 + k)), .ref bS, .int 1, .ref b]) (by rw [show (34 : Int32) + nI (k) = nI (34 + k) from nI_add 34 _] <;> rfl) ?_
      refine r_callS C (d' := 1) [.ref bS, .int (nI (34 + k))] (c_cell (w := wM w0 I ad) hX (i := 34 + k) (by omega)) myL_cell wm3_49 rfl (kR rfl) (by decide) (kR rfl) rfl dL_law_301 ?_ (room _ _ (Nat.add_le_add_left (by decide) c9) (Nat.add_le_add_left (by decide) s9))
      refine r_bipush C (v := 9) rfl dL_law_304 ?_
      refine r_irem C (by decide) dL_law_306 ?_
      refine r_st (st' := [.int (nI (cellN L xs (34 + k) % 9)), .int 1, .ref b]) (by rw [show nI (cellN L xs (34 + k)) - nI (cellN L xs (34 + k)) / 9 * 9 = nI (cellN L xs (34 + k) % 9) from pk_rem (d := 9) (a := cellN L xs (34 + k)) (by have := @cellN_lt L xs; first | exact Nat.lt_trans cellN_lt (by decide) | omega) (by decide) (by decide)] <;> rfl) ?_
      refine r_iadd C dL_law_307 ?_
      refine r_st (st' := [.int (nI (1 + cellN L xs (34 + k) % 9)), .ref b]) (by rw [show (1 : Int32) + nI (cellN L xs (34 + k) % 9) = nI (1 + cellN L xs (34 + k) % 9) from nI_add 1 _] <;> rfl) ?_
      refine tl_app hS hY hTL (T' := (lwNes L xs k).1 ++ stN 30 ++ digs (sl) ++ [32] ++ digs (1 + cellN L xs (34 + k) % 9)) (d' := 5) [.int (nI (1 + cellN L xs (34 + k) % 9))] (fun iV iW L9 h1 h2 h3 h4 h5 h6 h7 => c_sbI h1 h2 h3 h4 h5 h6 h7 (x := 1 + cellN L xs (34 + k) % 9) (by omega) (by have := @digs_le (1 + cellN L xs (34 + k) % 9); omega)) mbJ4_append_bf812 wm6_133 rfl wm7_14 rfl (by decide) (kR rfl) (kR rfl) rfl dL_law_308 (room _ _ (Nat.le_trans (Nat.le_of_eq (Nat.add_assoc c9 3 1)) (Nat.add_le_add_left (by decide) c9)) (Nat.le_trans (Nat.le_of_eq (Nat.add_assoc s9 3000 1000)) (Nat.add_le_add_left (by decide) s9))) ?_
      intro I ad ct hTL
      have C := hTL.1.C
      have hS1 := hTL.1.S hS
      refine r_wid (c' := c9 + 4) (s' := s9 + 4000) (Nat.le_of_eq (Nat.add_assoc c9 3 1)) (Nat.le_of_eq (Nat.add_assoc s9 3000 1000)) ?_
      show gU (wM w0 I ad) X (F0, c9 + 4, s9 + 4000) ct 311 [(6, .int (nI sl)), (0, .ref bS), (1, .int (nI (lwS L xs))), (2, .ref b), (3, .ref aH), (4, .ref aN), (5, .int (nI k))] [.ref b]
      replace hl : ((lwNes L xs k).1 ++ stN 30 ++ digs (sl) ++ [32] ++ digs (1 + cellN L xs (34 + k) % 9)).length ≤ 110 := by rw [List.length_append]; have := @digs_le (1 + cellN L xs (34 + k) % 9); omega
      refine r_bipush C (v := 59) rfl dL_law_311 ?_
      refine r_st (st' := [.int (nI (59)), .ref b]) rfl ?_
      refine tl_app hS hY hTL (T' := (lwNes L xs k).1 ++ stN 30 ++ digs (sl) ++ [32] ++ digs (1 + cellN L xs (34 + k) % 9) ++ [59]) (d' := 5) [.int (nI (59))] (fun iV iW L9 h1 h2 h3 h4 h5 h6 h7 => c_sbC h1 h2 h3 h4 h5 h6 h7 (c := 59) (by decide) (by omega)) mbJ4_append_cf468 wm6_25 rfl wm6_23 rfl (by decide) (kR rfl) (kR rfl) rfl dL_law_313 (room _ _ (Nat.le_trans (Nat.le_of_eq (Nat.add_assoc c9 4 1)) (Nat.add_le_add_left (by decide) c9)) (Nat.le_trans (Nat.le_of_eq (Nat.add_assoc s9 4000 1000)) (Nat.add_le_add_left (by decide) s9))) ?_
      intro I ad ct hTL
      have C := hTL.1.C
      have hS1 := hTL.1.S hS
      refine r_wid (c' := c9 + 5) (s' := s9 + 5000) (Nat.le_of_eq (Nat.add_assoc c9 4 1)) (Nat.le_of_eq (Nat.add_assoc s9 4000 1000)) ?_
      show gU (wM w0 I ad) X (F0, c9 + 5, s9 + 5000) ct 316 [(6, .int (nI sl)), (0, .ref bS), (1, .int (nI (lwS L xs))), (2, .ref b), (3, .ref aH), (4, .ref aN), (5, .int (nI k))] [.ref b]
      replace hl : ((lwNes L xs k).1 ++ stN 30 ++ digs (sl) ++ [32] ++ digs (1 + cellN L xs (34 + k) % 9) ++ [59]).length ≤ 111 := by rw [List.length_append]; show _ + 1 ≤ _; omega
      refine r_pop C rfl dL_law_316 ?_
      refine r_aload C (k := 5) rfl dL_law_317 ?_
      refine r_iload C (k := 0) rfl dL_law_319 ?_
      refine r_iconst C (v := 1) rfl dL_law_321 ?_
      refine r_basZA C (32, 1, 0, 0) hTL.2.2.1 hTL.2.2.2.1 hTL.2.2.2.2 (y := 1) rfl (vp_in_nI (by omega) (by decide)) dL_law_322 ?_
      have e9 : lwNes L xs (k + 1) = ((lwNes L xs k).1 ++ stN 30 ++ digs (sl) ++ [32] ++ digs (1 + cellN L xs (34 + k) % 9) ++ [59], upd (lwNes L xs k).2 sl 1) := by
        show lwNe L xs k _ = _
        unfold lwNe
        rw [← hsl, if_pos h0]
      replace hTL : TL w0 X b (lwNes L xs (k + 1)).1 (n + 1 + 1 + 1 + 1 + 1) aH aN f1 (lwNes L xs (k + 1)).2 I ad (upE ct (32, 1, 0, 0) (.inl (wZ w0, 40, .inl (upd (lwNes L xs k).2 (nI sl).toNatClampNeg 1)))) := by
        rw [e9, nI_clamp (by omega)]
        exact hTL.row4
      refine r_iinc C (k := 6) (v := nI (k + 1)) (lo' := [(5, .int (nI (k + 1)))] ++ [(6, .int (nI sl)), (0, .ref bS), (1, .int (nI (lwS L xs))), (2, .ref b), (3, .ref aH), (4, .ref aN)]) rfl (by exact nI_add k 1) (by decide) rfl dL_law_323 ?_
      refine r_goto C (tgt := 243) rfl dL_law_326 ?_
      refine r_lo [2, 3, 4, 5, 6, 0] (lo' := [(0, .ref bS), (1, .int (nI (lwS L xs))), (2, .ref b), (3, .ref aH), (4, .ref aN), (5, .int (nI (k + 1)))]) rfl ?_
      clear hl
      exact ih (k + 1) _ I ad _ _ _ (by omega) hTL (by omega) (by omega)
