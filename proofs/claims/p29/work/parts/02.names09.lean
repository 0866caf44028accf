theorem dL_acts_18 : decode cL_acts 18 = .ok (.iload_n 1, 1) := by decide +kernel
theorem dL_acts_19 : decode cL_acts 19 = .ok (.bipush 8, 2) := by decide +kernel
theorem dL_acts_21 : decode cL_acts 21 = .ok (.irem, 1) := by decide +kernel
theorem dL_acts_22 : decode cL_acts 22 = .ok (.tableswitch 537 0 6 #[42, 42, 42, 56, 146, 272, 397], 42) := by decide +kernel
theorem dL_acts_64 : decode cL_acts 64 = .ok (.aload_n 0, 1) := by decide +kernel
theorem dL_acts_65 : decode cL_acts 65 = .ok (.iload_n 2, 1) := by decide +kernel
theorem dL_acts_66 : decode cL_acts 66 = .ok (.iload_n 3, 1) := by decide +kernel
theorem dL_acts_67 : decode cL_acts 67 = .ok (.iload_n 1, 1) := by decide +kernel
theorem dL_acts_68 : decode cL_acts 68 = .ok (.bipush 13, 2) := by decide +kernel
theorem dL_acts_70 : decode cL_acts 70 = .ok (.ishr, 1) := by decide +kernel
theorem dL_acts_71 : decode cL_acts 71 = .ok (.bipush 7, 2) := by decide +kernel
theorem dL_acts_73 : decode cL_acts 73 = .ok (.irem, 1) := by decide +kernel
theorem dL_acts_74 : decode cL_acts 74 = .ok (.invokestatic 48, 3) := by decide +kernel
theorem dL_acts_77 : decode cL_acts 77 = .ok (.ireturn, 1) := by decide +kernel
theorem dL_acts_78 : decode cL_acts 78 = .ok (.iload_n 1, 1) := by decide +kernel
theorem dL_acts_79 : decode cL_acts 79 = .ok (.iconst 4, 1) := by decide +kernel
theorem dL_acts_80 : decode cL_acts 80 = .ok (.ishr, 1) := by decide +kernel
theorem dL_acts_81 : decode cL_acts 81 = .ok (.bipush 6, 2) := by decide +kernel
theorem dL_acts_83 : decode cL_acts 83 = .ok (.irem, 1) := by decide +kernel
theorem dL_acts_84 : decode cL_acts 84 = .ok (.istore 4, 2) := by decide +kernel
theorem dL_acts_86 : decode cL_acts 86 = .ok (.aload_n 0, 1) := by decide +kernel
theorem dL_acts_87 : decode cL_acts 87 = .ok (.iload 4, 2) := by decide +kernel
theorem dL_acts_89 : decode cL_acts 89 = .ok (.iconst 4, 1) := by decide +kernel
theorem dL_acts_90 : decode cL_acts 90 = .ok (.invokevirtual 25, 3) := by decide +kernel
theorem dL_acts_93 : decode cL_acts 93 = .ok (.istore 5, 2) := by decide +kernel
theorem dL_acts_95 : decode cL_acts 95 = .ok (.aload_n 0, 1) := by decide +kernel
theorem dL_acts_96 : decode cL_acts 96 = .ok (.iload 4, 2) := by decide +kernel
theorem dL_acts_98 : decode cL_acts 98 = .ok (.invokevirtual 52, 3) := by decide +kernel
theorem dL_acts_101 : decode cL_acts 101 = .ok (.istore 6, 2) := by decide +kernel
theorem dL_acts_103 : decode cL_acts 103 = .ok (.aload_n 0, 1) := by decide +kernel
theorem dL_acts_104 : decode cL_acts 104 = .ok (.iload 4, 2) := by decide +kernel
theorem dL_acts_106 : decode cL_acts 106 = .ok (.iconst 3, 1) := by decide +kernel
theorem dL_acts_107 : decode cL_acts 107 = .ok (.invokevirtual 25, 3) := by decide +kernel
theorem dL_acts_110 : decode cL_acts 110 = .ok (.ifCond .ne 56, 3) := by decide +kernel
theorem dL_acts_113 : decode cL_acts 113 = .ok (.aload_n 0, 1) := by decide +kernel
theorem dL_acts_114 : decode cL_acts 114 = .ok (.iload 4, 2) := by decide +kernel
theorem dL_acts_116 : decode cL_acts 116 = .ok (.iconst 4, 1) := by decide +kernel
theorem dL_acts_117 : decode cL_acts 117 = .ok (.invokevirtual 25, 3) := by decide +kernel
theorem dL_acts_120 : decode cL_acts 120 = .ok (.ifCond .ne 46, 3) := by decide +kernel
theorem dL_acts_123 : decode cL_acts 123 = .ok (.iload 6, 2) := by decide +kernel
theorem dL_acts_125 : decode cL_acts 125 = .ok (.bipush (-5), 2) := by decide +kernel
theorem dL_acts_127 : decode cL_acts 127 = .ok (.if_icmp .ne 11, 3) := by decide +kernel
theorem dL_acts_130 : decode cL_acts 130 = .ok (.iload 5, 2) := by decide +kernel
theorem dL_acts_132 : decode cL_acts 132 = .ok (.ifCond .ne 34, 3) := by decide +kernel
theorem dL_acts_135 : decode cL_acts 135 = .ok (.goto 16, 3) := by decide +kernel
theorem dL_acts_138 : decode cL_acts 138 = .ok (.iload 6, 2) := by decide +kernel
theorem dL_acts_140 : decode cL_acts 140 = .ok (.iload 5, 2) := by decide +kernel
theorem dL_acts_142 : decode cL_acts 142 = .ok (.if_icmp .lt 24, 3) := by decide +kernel
theorem dL_acts_145 : decode cL_acts 145 = .ok (.iload 6, 2) := by decide +kernel
theorem dL_acts_147 : decode cL_acts 147 = .ok (.iconst 1, 1) := by decide +kernel
theorem dL_acts_148 : decode cL_acts 148 = .ok (.if_icmp .le 18, 3) := by decide +kernel
theorem dL_acts_151 : decode cL_acts 151 = .ok (.aload_n 0, 1) := by decide +kernel
theorem dL_acts_152 : decode cL_acts 152 = .ok (.iload 4, 2) := by decide +kernel
theorem dL_acts_154 : decode cL_acts 154 = .ok (.invokevirtual 52, 3) := by decide +kernel
theorem dL_acts_157 : decode cL_acts 157 = .ok (.bipush (-5), 2) := by decide +kernel
theorem dL_acts_159 : decode cL_acts 159 = .ok (.if_icmp .ne 7, 3) := by decide +kernel
theorem dL_acts_162 : decode cL_acts 162 = .ok (.iconst 1, 1) := by decide +kernel
theorem dL_acts_163 : decode cL_acts 163 = .ok (.goto 4, 3) := by decide +kernel
theorem dL_acts_166 : decode cL_acts 166 = .ok (.iconst 0, 1) := by decide +kernel
theorem dL_acts_167 : decode cL_acts 167 = .ok (.ireturn, 1) := by decide +kernel
theorem dL_acts_168 : decode cL_acts 168 = .ok (.iload_n 1, 1) := by decide +kernel
theorem dL_acts_169 : decode cL_acts 169 = .ok (.bipush 9, 2) := by decide +kernel
theorem dL_acts_171 : decode cL_acts 171 = .ok (.ishr, 1) := by decide +kernel
theorem dL_acts_172 : decode cL_acts 172 = .ok (.aload_n 0, 1) := by decide +kernel
theorem dL_acts_173 : decode cL_acts 173 = .ok (.iconst 0, 1) := by decide +kernel
theorem dL_acts_174 : decode cL_acts 174 = .ok (.invokevirtual 21, 3) := by decide +kernel
theorem dL_acts_177 : decode cL_acts 177 = .ok (.irem, 1) := by decide +kernel
theorem dL_acts_178 : decode cL_acts 178 = .ok (.istore 7, 2) := by decide +kernel
theorem dL_acts_180 : decode cL_acts 180 = .ok (.aload_n 0, 1) := by decide +kernel
theorem dL_acts_181 : decode cL_acts 181 = .ok (.iload_n 2, 1) := by decide +kernel
theorem dL_acts_182 : decode cL_acts 182 = .ok (.iconst 5, 1) := by decide +kernel
theorem dL_acts_183 : decode cL_acts 183 = .ok (.invokevirtual 18, 3) := by decide +kernel
theorem dL_acts_186 : decode cL_acts 186 = .ok (.ifCond .lt 17, 3) := by decide +kernel
theorem dL_acts_189 : decode cL_acts 189 = .ok (.aload_n 0, 1) := by decide +kernel
theorem dL_acts_190 : decode cL_acts 190 = .ok (.iload 7, 2) := by decide +kernel
theorem dL_acts_192 : decode cL_acts 192 = .ok (.iconst 5, 1) := by decide +kernel
theorem dL_acts_193 : decode cL_acts 193 = .ok (.invokevirtual 18, 3) := by decide +kernel
theorem dL_acts_196 : decode cL_acts 196 = .ok (.ifCond .lt 7, 3) := by decide +kernel
theorem dL_acts_199 : decode cL_acts 199 = .ok (.iconst 1, 1) := by decide +kernel
theorem dL_acts_200 : decode cL_acts 200 = .ok (.goto 4, 3) := by decide +kernel
theorem dL_acts_203 : decode cL_acts 203 = .ok (.iconst 0, 1) := by decide +kernel
theorem dL_acts_204 : decode cL_acts 204 = .ok (.istore 8, 2) := by decide +kernel
theorem dL_acts_206 : decode cL_acts 206 = .ok (.aload_n 0, 1) := by decide +kernel
theorem dL_acts_207 : decode cL_acts 207 = .ok (.iload_n 2, 1) := by decide +kernel
theorem dL_acts_208 : decode cL_acts 208 = .ok (.bipush 8, 2) := by decide +kernel
theorem dL_acts_210 : decode cL_acts 210 = .ok (.invokevirtual 18, 3) := by decide +kernel
theorem dL_acts_213 : decode cL_acts 213 = .ok (.istore 9, 2) := by decide +kernel
theorem dL_acts_215 : decode cL_acts 215 = .ok (.aload_n 0, 1) := by decide +kernel
theorem dL_acts_216 : decode cL_acts 216 = .ok (.iload_n 2, 1) := by decide +kernel
theorem dL_acts_217 : decode cL_acts 217 = .ok (.iload 7, 2) := by decide +kernel
theorem dL_acts_219 : decode cL_acts 219 = .ok (.invokevirtual 55, 3) := by decide +kernel
theorem dL_acts_222 : decode cL_acts 222 = .ok (.istore 10, 2) := by decide +kernel
theorem dL_acts_224 : decode cL_acts 224 = .ok (.iload_n 2, 1) := by decide +kernel
theorem dL_acts_225 : decode cL_acts 225 = .ok (.iload 7, 2) := by decide +kernel
theorem dL_acts_227 : decode cL_acts 227 = .ok (.if_icmp .ne 18, 3) := by decide +kernel
theorem dL_acts_230 : decode cL_acts 230 = .ok (.iload 10, 2) := by decide +kernel
theorem dL_acts_232 : decode cL_acts 232 = .ok (.bipush (-2), 2) := by decide +kernel
theorem dL_acts_234 : decode cL_acts 234 = .ok (.if_icmp .ne 7, 3) := by decide +kernel
theorem dL_acts_237 : decode cL_acts 237 = .ok (.iconst 1, 1) := by decide +kernel
theorem dL_acts_238 : decode cL_acts 238 = .ok (.goto 55, 3) := by decide +kernel
theorem dL_acts_241 : decode cL_acts 241 = .ok (.iconst 0, 1) := by decide +kernel
theorem dL_acts_242 : decode cL_acts 242 = .ok (.goto 51, 3) := by decide +kernel
theorem dL_acts_245 : decode cL_acts 245 = .ok (.iload 8, 2) := by decide +kernel
theorem dL_acts_247 : decode cL_acts 247 = .ok (.ifCond .ne 18, 3) := by decide +kernel
theorem dL_acts_250 : decode cL_acts 250 = .ok (.iload 10, 2) := by decide +kernel
theorem dL_acts_252 : decode cL_acts 252 = .ok (.bipush (-4), 2) := by decide +kernel
theorem dL_acts_254 : decode cL_acts 254 = .ok (.if_icmp .ne 7, 3) := by decide +kernel
theorem dL_acts_257 : decode cL_acts 257 = .ok (.iconst 1, 1) := by decide +kernel
theorem dL_acts_258 : decode cL_acts 258 = .ok (.goto 35, 3) := by decide +kernel
theorem dL_acts_261 : decode cL_acts 261 = .ok (.iconst 0, 1) := by decide +kernel
theorem dL_acts_262 : decode cL_acts 262 = .ok (.goto 31, 3) := by decide +kernel
theorem dL_acts_265 : decode cL_acts 265 = .ok (.iload 10, 2) := by decide +kernel
theorem dL_acts_267 : decode cL_acts 267 = .ok (.aload_n 0, 1) := by decide +kernel
theorem dL_acts_268 : decode cL_acts 268 = .ok (.iconst 3, 1) := by decide +kernel
theorem dL_acts_269 : decode cL_acts 269 = .ok (.invokevirtual 21, 3) := by decide +kernel
theorem dL_acts_272 : decode cL_acts 272 = .ok (.if_icmp .ne 20, 3) := by decide +kernel
theorem dL_acts_275 : decode cL_acts 275 = .ok (.aload_n 0, 1) := by decide +kernel
theorem dL_acts_276 : decode cL_acts 276 = .ok (.iload 7, 2) := by decide +kernel
theorem dL_acts_278 : decode cL_acts 278 = .ok (.bipush 8, 2) := by decide +kernel
theorem dL_acts_280 : decode cL_acts 280 = .ok (.invokevirtual 18, 3) := by decide +kernel
theorem dL_acts_283 : decode cL_acts 283 = .ok (.iload 9, 2) := by decide +kernel
theorem dL_acts_285 : decode cL_acts 285 = .ok (.if_icmp .ne 7, 3) := by decide +kernel
theorem dL_acts_288 : decode cL_acts 288 = .ok (.iconst 1, 1) := by decide +kernel
theorem dL_acts_289 : decode cL_acts 289 = .ok (.goto 4, 3) := by decide +kernel
theorem dL_acts_292 : decode cL_acts 292 = .ok (.iconst 0, 1) := by decide +kernel
theorem dL_acts_293 : decode cL_acts 293 = .ok (.ireturn, 1) := by decide +kernel
theorem dL_acts_294 : decode cL_acts 294 = .ok (.aload_n 0, 1) := by decide +kernel
theorem dL_acts_295 : decode cL_acts 295 = .ok (.iload_n 2, 1) := by decide +kernel
theorem dL_acts_296 : decode cL_acts 296 = .ok (.invokevirtual 58, 3) := by decide +kernel
theorem dL_acts_299 : decode cL_acts 299 = .ok (.istore 11, 2) := by decide +kernel
theorem dL_acts_301 : decode cL_acts 301 = .ok (.aload_n 0, 1) := by decide +kernel
theorem dL_acts_302 : decode cL_acts 302 = .ok (.iload_n 2, 1) := by decide +kernel
theorem dL_acts_303 : decode cL_acts 303 = .ok (.iload 11, 2) := by decide +kernel
theorem dL_acts_305 : decode cL_acts 305 = .ok (.bipush 10, 2) := by decide +kernel
theorem dL_acts_307 : decode cL_acts 307 = .ok (.idiv, 1) := by decide +kernel
theorem dL_acts_308 : decode cL_acts 308 = .ok (.iload 11, 2) := by decide +kernel
theorem dL_acts_310 : decode cL_acts 310 = .ok (.bipush 10, 2) := by decide +kernel
theorem dL_acts_312 : decode cL_acts 312 = .ok (.irem, 1) := by decide +kernel
theorem dL_acts_313 : decode cL_acts 313 = .ok (.invokevirtual 41, 3) := by decide +kernel
theorem dL_acts_316 : decode cL_acts 316 = .ok (.istore 12, 2) := by decide +kernel
theorem dL_acts_318 : decode cL_acts 318 = .ok (.iload 12, 2) := by decide +kernel
theorem dL_acts_320 : decode cL_acts 320 = .ok (.aload_n 0, 1) := by decide +kernel
theorem dL_acts_321 : decode cL_acts 321 = .ok (.iconst 3, 1) := by decide +kernel
theorem dL_acts_322 : decode cL_acts 322 = .ok (.invokevirtual 21, 3) := by decide +kernel
theorem dL_acts_325 : decode cL_acts 325 = .ok (.aload_n 0, 1) := by decide +kernel
theorem dL_acts_326 : decode cL_acts 326 = .ok (.iload_n 2, 1) := by decide +kernel
theorem dL_acts_327 : decode cL_acts 327 = .ok (.iconst 5, 1) := by decide +kernel
theorem dL_acts_328 : decode cL_acts 328 = .ok (.invokevirtual 18, 3) := by decide +kernel
theorem dL_acts_331 : decode cL_acts 331 = .ok (.ifCond .ge 8, 3) := by decide +kernel
theorem dL_acts_334 : decode cL_acts 334 = .ok (.bipush 40, 2) := by decide +kernel
theorem dL_acts_336 : decode cL_acts 336 = .ok (.goto 4, 3) := by decide +kernel
theorem dL_acts_339 : decode cL_acts 339 = .ok (.iconst 0, 1) := by decide +kernel
theorem dL_acts_340 : decode cL_acts 340 = .ok (.iadd, 1) := by decide +kernel
theorem dL_acts_341 : decode cL_acts 341 = .ok (.if_icmp .gt 76, 3) := by decide +kernel
theorem dL_acts_344 : decode cL_acts 344 = .ok (.iload 12, 2) := by decide +kernel
theorem dL_acts_346 : decode cL_acts 346 = .ok (.aload_n 0, 1) := by decide +kernel
theorem dL_acts_347 : decode cL_acts 347 = .ok (.iload_n 2, 1) := by decide +kernel
theorem dL_acts_348 : decode cL_acts 348 = .ok (.iload_n 3, 1) := by decide +kernel
theorem dL_acts_349 : decode cL_acts 349 = .ok (.aload_n 0, 1) := by decide +kernel
theorem dL_acts_350 : decode cL_acts 350 = .ok (.iload_n 3, 1) := by decide +kernel
theorem dL_acts_351 : decode cL_acts 351 = .ok (.iconst 0, 1) := by decide +kernel
theorem dL_acts_352 : decode cL_acts 352 = .ok (.invokevirtual 9, 3) := by decide +kernel
theorem dL_acts_355 : decode cL_acts 355 = .ok (.ifCond .ne 7, 3) := by decide +kernel
theorem dL_acts_358 : decode cL_acts 358 = .ok (.iconst 0, 1) := by decide +kernel
theorem dL_acts_359 : decode cL_acts 359 = .ok (.goto 30, 3) := by decide +kernel
theorem dL_acts_362 : decode cL_acts 362 = .ok (.aload_n 0, 1) := by decide +kernel
theorem dL_acts_363 : decode cL_acts 363 = .ok (.iload_n 2, 1) := by decide +kernel
theorem dL_acts_364 : decode cL_acts 364 = .ok (.iconst 5, 1) := by decide +kernel
theorem dL_acts_365 : decode cL_acts 365 = .ok (.invokevirtual 18, 3) := by decide +kernel
theorem dL_acts_368 : decode cL_acts 368 = .ok (.iload_n 3, 1) := by decide +kernel
theorem dL_acts_369 : decode cL_acts 369 = .ok (.if_icmp .ne 14, 3) := by decide +kernel
theorem dL_acts_372 : decode cL_acts 372 = .ok (.aload_n 0, 1) := by decide +kernel
theorem dL_acts_373 : decode cL_acts 373 = .ok (.iload_n 3, 1) := by decide +kernel
theorem dL_acts_374 : decode cL_acts 374 = .ok (.iconst 0, 1) := by decide +kernel
theorem dL_acts_375 : decode cL_acts 375 = .ok (.invokevirtual 9, 3) := by decide +kernel
theorem dL_acts_378 : decode cL_acts 378 = .ok (.iconst 1, 1) := by decide +kernel
theorem dL_acts_379 : decode cL_acts 379 = .ok (.isub, 1) := by decide +kernel
theorem dL_acts_380 : decode cL_acts 380 = .ok (.goto 9, 3) := by decide +kernel
theorem dL_acts_383 : decode cL_acts 383 = .ok (.aload_n 0, 1) := by decide +kernel
theorem dL_acts_384 : decode cL_acts 384 = .ok (.iload_n 3, 1) := by decide +kernel
theorem dL_acts_385 : decode cL_acts 385 = .ok (.iconst 0, 1) := by decide +kernel
theorem dL_acts_386 : decode cL_acts 386 = .ok (.invokevirtual 9, 3) := by decide +kernel
theorem dL_acts_389 : decode cL_acts 389 = .ok (.invokevirtual 41, 3) := by decide +kernel
theorem dL_acts_392 : decode cL_acts 392 = .ok (.aload_n 0, 1) := by decide +kernel
theorem dL_acts_393 : decode cL_acts 393 = .ok (.iload_n 3, 1) := by decide +kernel
theorem dL_acts_394 : decode cL_acts 394 = .ok (.iconst 0, 1) := by decide +kernel
theorem dL_acts_395 : decode cL_acts 395 = .ok (.invokevirtual 9, 3) := by decide +kernel
theorem dL_acts_398 : decode cL_acts 398 = .ok (.bipush 6, 2) := by decide +kernel
theorem dL_acts_400 : decode cL_acts 400 = .ok (.if_icmp .ne 8, 3) := by decide +kernel
theorem dL_acts_403 : decode cL_acts 403 = .ok (.bipush 100, 2) := by decide +kernel
theorem dL_acts_405 : decode cL_acts 405 = .ok (.goto 4, 3) := by decide +kernel
theorem dL_acts_408 : decode cL_acts 408 = .ok (.iconst 0, 1) := by decide +kernel
theorem dL_acts_409 : decode cL_acts 409 = .ok (.iadd, 1) := by decide +kernel
theorem dL_acts_410 : decode cL_acts 410 = .ok (.if_icmp .gt 7, 3) := by decide +kernel
theorem dL_acts_413 : decode cL_acts 413 = .ok (.iconst 1, 1) := by decide +kernel
theorem dL_acts_414 : decode cL_acts 414 = .ok (.goto 4, 3) := by decide +kernel
theorem dL_acts_417 : decode cL_acts 417 = .ok (.iconst 0, 1) := by decide +kernel
theorem dL_acts_418 : decode cL_acts 418 = .ok (.ireturn, 1) := by decide +kernel
theorem dL_acts_419 : decode cL_acts 419 = .ok (.aload_n 0, 1) := by decide +kernel
theorem dL_acts_420 : decode cL_acts 420 = .ok (.iload_n 2, 1) := by decide +kernel
theorem dL_acts_421 : decode cL_acts 421 = .ok (.iconst 5, 1) := by decide +kernel
theorem dL_acts_422 : decode cL_acts 422 = .ok (.invokevirtual 18, 3) := by decide +kernel
theorem dL_acts_425 : decode cL_acts 425 = .ok (.ifCond .lt 7, 3) := by decide +kernel
theorem dL_acts_428 : decode cL_acts 428 = .ok (.iconst 1, 1) := by decide +kernel
theorem dL_acts_429 : decode cL_acts 429 = .ok (.goto 4, 3) := by decide +kernel
theorem dL_acts_432 : decode cL_acts 432 = .ok (.iconst 0, 1) := by decide +kernel
theorem dL_acts_433 : decode cL_acts 433 = .ok (.istore 13, 2) := by decide +kernel
theorem dL_acts_435 : decode cL_acts 435 = .ok (.aload_n 0, 1) := by decide +kernel
theorem dL_acts_436 : decode cL_acts 436 = .ok (.iconst 1, 1) := by decide +kernel
theorem dL_acts_437 : decode cL_acts 437 = .ok (.invokevirtual 21, 3) := by decide +kernel
theorem dL_acts_440 : decode cL_acts 440 = .ok (.istore 14, 2) := by decide +kernel
theorem dL_acts_442 : decode cL_acts 442 = .ok (.iload_n 1, 1) := by decide +kernel
theorem dL_acts_443 : decode cL_acts 443 = .ok (.bipush 13, 2) := by decide +kernel
theorem dL_acts_445 : decode cL_acts 445 = .ok (.ishr, 1) := by decide +kernel
theorem dL_acts_446 : decode cL_acts 446 = .ok (.iconst 2, 1) := by decide +kernel
theorem dL_acts_447 : decode cL_acts 447 = .ok (.irem, 1) := by decide +kernel
theorem dL_acts_448 : decode cL_acts 448 = .ok (.ifCond .ne 11, 3) := by decide +kernel
theorem dL_acts_451 : decode cL_acts 451 = .ok (.aload_n 0, 1) := by decide +kernel
theorem dL_acts_452 : decode cL_acts 452 = .ok (.iload_n 2, 1) := by decide +kernel
theorem dL_acts_453 : decode cL_acts 453 = .ok (.invokevirtual 61, 3) := by decide +kernel
theorem dL_acts_456 : decode cL_acts 456 = .ok (.goto 5, 3) := by decide +kernel
theorem dL_acts_459 : decode cL_acts 459 = .ok (.bipush (-9), 2) := by decide +kernel
theorem dL_acts_461 : decode cL_acts 461 = .ok (.istore 15, 2) := by decide +kernel
theorem dL_acts_463 : decode cL_acts 463 = .ok (.iload 15, 2) := by decide +kernel
theorem dL_acts_465 : decode cL_acts 465 = .ok (.bipush (-9), 2) := by decide +kernel
theorem dL_acts_467 : decode cL_acts 467 = .ok (.if_icmp .ne 28, 3) := by decide +kernel
theorem dL_acts_470 : decode cL_acts 470 = .ok (.aload_n 0, 1) := by decide +kernel
theorem dL_acts_471 : decode cL_acts 471 = .ok (.iload_n 2, 1) := by decide +kernel
theorem dL_acts_472 : decode cL_acts 472 = .ok (.iconst 3, 1) := by decide +kernel
theorem dL_acts_473 : decode cL_acts 473 = .ok (.iconst 1, 1) := by decide +kernel
theorem dL_acts_474 : decode cL_acts 474 = .ok (.aload_n 0, 1) := by decide +kernel
theorem dL_acts_475 : decode cL_acts 475 = .ok (.iload_n 2, 1) := by decide +kernel
theorem dL_acts_476 : decode cL_acts 476 = .ok (.iconst 4, 1) := by decide +kernel
theorem dL_acts_477 : decode cL_acts 477 = .ok (.invokevirtual 18, 3) := by decide +kernel
theorem dL_acts_480 : decode cL_acts 480 = .ok (.isub, 1) := by decide +kernel
theorem dL_acts_481 : decode cL_acts 481 = .ok (.invokevirtual 64, 3) := by decide +kernel
theorem dL_acts_484 : decode cL_acts 484 = .ok (.ifCond .lt 7, 3) := by decide +kernel
theorem dL_acts_487 : decode cL_acts 487 = .ok (.iconst 1, 1) := by decide +kernel
theorem dL_acts_488 : decode cL_acts 488 = .ok (.goto 70, 3) := by decide +kernel
theorem dL_acts_491 : decode cL_acts 491 = .ok (.iconst 0, 1) := by decide +kernel
theorem dL_acts_492 : decode cL_acts 492 = .ok (.goto 66, 3) := by decide +kernel
theorem dL_acts_495 : decode cL_acts 495 = .ok (.iload 15, 2) := by decide +kernel
theorem dL_acts_497 : decode cL_acts 497 = .ok (.iload 13, 2) := by decide +kernel
theorem dL_acts_499 : decode cL_acts 499 = .ok (.ifCond .eq 17, 3) := by decide +kernel
theorem dL_acts_502 : decode cL_acts 502 = .ok (.aload_n 0, 1) := by decide +kernel
theorem dL_acts_503 : decode cL_acts 503 = .ok (.aload_n 0, 1) := by decide +kernel
theorem dL_acts_504 : decode cL_acts 504 = .ok (.iload_n 2, 1) := by decide +kernel
theorem dL_acts_505 : decode cL_acts 505 = .ok (.iconst 0, 1) := by decide +kernel
theorem dL_acts_506 : decode cL_acts 506 = .ok (.invokevirtual 18, 3) := by decide +kernel
theorem dL_acts_509 : decode cL_acts 509 = .ok (.iconst 3, 1) := by decide +kernel
theorem dL_acts_510 : decode cL_acts 510 = .ok (.invokevirtual 25, 3) := by decide +kernel
theorem dL_acts_513 : decode cL_acts 513 = .ok (.goto 5, 3) := by decide +kernel
theorem dL_acts_516 : decode cL_acts 516 = .ok (.bipush (-5), 2) := by decide +kernel
theorem dL_acts_518 : decode cL_acts 518 = .ok (.if_icmp .ne 39, 3) := by decide +kernel
theorem dL_acts_521 : decode cL_acts 521 = .ok (.aload_n 0, 1) := by decide +kernel
theorem dL_acts_522 : decode cL_acts 522 = .ok (.iconst 1, 1) := by decide +kernel
theorem dL_acts_523 : decode cL_acts 523 = .ok (.invokevirtual 21, 3) := by decide +kernel
theorem dL_acts_526 : decode cL_acts 526 = .ok (.iload 14, 2) := by decide +kernel
theorem dL_acts_528 : decode cL_acts 528 = .ok (.iload 13, 2) := by decide +kernel
theorem dL_acts_530 : decode cL_acts 530 = .ok (.ifCond .eq 7, 3) := by decide +kernel
theorem dL_acts_533 : decode cL_acts 533 = .ok (.iconst 1, 1) := by decide +kernel
theorem dL_acts_534 : decode cL_acts 534 = .ok (.goto 4, 3) := by decide +kernel
theorem dL_acts_537 : decode cL_acts 537 = .ok (.iconst 0, 1) := by decide +kernel
theorem dL_acts_538 : decode cL_acts 538 = .ok (.isub, 1) := by decide +kernel
theorem dL_acts_539 : decode cL_acts 539 = .ok (.if_icmp .ne 18, 3) := by decide +kernel
theorem dL_acts_542 : decode cL_acts 542 = .ok (.aload_n 0, 1) := by decide +kernel
theorem dL_acts_543 : decode cL_acts 543 = .ok (.iload_n 2, 1) := by decide +kernel
theorem dL_acts_544 : decode cL_acts 544 = .ok (.iconst 5, 1) := by decide +kernel
theorem dL_acts_545 : decode cL_acts 545 = .ok (.invokevirtual 18, 3) := by decide +kernel
theorem dL_acts_548 : decode cL_acts 548 = .ok (.bipush (-5), 2) := by decide +kernel
theorem dL_acts_550 : decode cL_acts 550 = .ok (.if_icmp .ne 7, 3) := by decide +kernel
theorem dL_acts_553 : decode cL_acts 553 = .ok (.iconst 1, 1) := by decide +kernel
theorem dL_acts_554 : decode cL_acts 554 = .ok (.goto 4, 3) := by decide +kernel
theorem dL_acts_557 : decode cL_acts 557 = .ok (.iconst 0, 1) := by decide +kernel
theorem dL_acts_558 : decode cL_acts 558 = .ok (.ireturn, 1) := by decide +kernel
theorem dL_acts_559 : decode cL_acts 559 = .ok (.aload_n 0, 1) := by decide +kernel
theorem dL_acts_560 : decode cL_acts 560 = .ok (.iload_n 2, 1) := by decide +kernel
theorem dL_acts_561 : decode cL_acts 561 = .ok (.iconst 1, 1) := by decide +kernel
theorem dL_acts_562 : decode cL_acts 562 = .ok (.invokevirtual 18, 3) := by decide +kernel
theorem dL_acts_565 : decode cL_acts 565 = .ok (.istore 16, 2) := by decide +kernel
theorem dL_acts_567 : decode cL_acts 567 = .ok (.iload_n 1, 1) := by decide +kernel
theorem dL_acts_568 : decode cL_acts 568 = .ok (.bipush 9, 2) := by decide +kernel
theorem dL_acts_570 : decode cL_acts 570 = .ok (.ishr, 1) := by decide +kernel
theorem dL_acts_571 : decode cL_acts 571 = .ok (.sipush 10000, 3) := by decide +kernel
theorem dL_acts_574 : decode cL_acts 574 = .ok (.irem, 1) := by decide +kernel
theorem dL_acts_575 : decode cL_acts 575 = .ok (.istore 17, 2) := by decide +kernel
theorem dL_acts_577 : decode cL_acts 577 = .ok (.aload_n 0, 1) := by decide +kernel
theorem dL_acts_578 : decode cL_acts 578 = .ok (.iload_n 2, 1) := by decide +kernel
theorem dL_acts_579 : decode cL_acts 579 = .ok (.iconst 0, 1) := by decide +kernel
theorem dL_acts_580 : decode cL_acts 580 = .ok (.iload 17, 2) := by decide +kernel
theorem dL_acts_582 : decode cL_acts 582 = .ok (.invokevirtual 64, 3) := by decide +kernel
theorem dL_acts_585 : decode cL_acts 585 = .ok (.iload 16, 2) := by decide +kernel
theorem dL_acts_587 : decode cL_acts 587 = .ok (.iload 17, 2) := by decide +kernel
theorem dL_acts_589 : decode cL_acts 589 = .ok (.if_icmp .ne 8, 3) := by decide +kernel
theorem dL_acts_592 : decode cL_acts 592 = .ok (.bipush (-5), 2) := by decide +kernel
theorem dL_acts_594 : decode cL_acts 594 = .ok (.goto 5, 3) := by decide +kernel
theorem dL_acts_597 : decode cL_acts 597 = .ok (.iload 16, 2) := by decide +kernel
theorem dL_acts_599 : decode cL_acts 599 = .ok (.if_icmp .ne 18, 3) := by decide +kernel
theorem dL_acts_602 : decode cL_acts 602 = .ok (.aload_n 0, 1) := by decide +kernel
theorem dL_acts_603 : decode cL_acts 603 = .ok (.iload_n 2, 1) := by decide +kernel
theorem dL_acts_604 : decode cL_acts 604 = .ok (.iconst 1, 1) := by decide +kernel
theorem dL_acts_605 : decode cL_acts 605 = .ok (.invokevirtual 18, 3) := by decide +kernel
theorem dL_acts_608 : decode cL_acts 608 = .ok (.iload 17, 2) := by decide +kernel
theorem dL_acts_610 : decode cL_acts 610 = .ok (.if_icmp .ne 7, 3) := by decide +kernel
theorem dL_acts_613 : decode cL_acts 613 = .ok (.iconst 1, 1) := by decide +kernel
theorem dL_acts_614 : decode cL_acts 614 = .ok (.goto 4, 3) := by decide +kernel
theorem dL_acts_617 : decode cL_acts 617 = .ok (.iconst 0, 1) := by decide +kernel
theorem dL_acts_618 : decode cL_acts 618 = .ok (.ireturn, 1) := by decide +kernel
abbrev vwCl : List vw_C := [(RX0, TX0, 5), (RX1, TX1, 2), (RX2, TX2, 3), (RX3, TX3, 10), (RX4, TX4, 3), (RX5, TX5, 7), (RX6, TX6, 2), (RX7, TX7, 1), (RX8, TX8, 9)]
