theorem dL_isAll_0 : decode cL_isAll 0 = .ok (.iconst 0, 1) := by decide +kernel
theorem dL_isAll_1 : decode cL_isAll 1 = .ok (.istore_n 1, 1) := by decide +kernel
theorem dL_isAll_2 : decode cL_isAll 2 = .ok (.iconst 0, 1) := by decide +kernel
theorem dL_isAll_3 : decode cL_isAll 3 = .ok (.istore_n 2, 1) := by decide +kernel
theorem dL_isAll_4 : decode cL_isAll 4 = .ok (.iconst 0, 1) := by decide +kernel
theorem dL_isAll_5 : decode cL_isAll 5 = .ok (.istore_n 3, 1) := by decide +kernel
theorem dL_isAll_6 : decode cL_isAll 6 = .ok (.iconst 0, 1) := by decide +kernel
theorem dL_isAll_7 : decode cL_isAll 7 = .ok (.istore 4, 2) := by decide +kernel
theorem dL_isAll_9 : decode cL_isAll 9 = .ok (.iconst 1, 1) := by decide +kernel
theorem dL_isAll_10 : decode cL_isAll 10 = .ok (.istore 5, 2) := by decide +kernel
theorem dL_isAll_12 : decode cL_isAll 12 = .ok (.iconst 0, 1) := by decide +kernel
theorem dL_isAll_13 : decode cL_isAll 13 = .ok (.istore 6, 2) := by decide +kernel
theorem dL_isAll_15 : decode cL_isAll 15 = .ok (.iload 6, 2) := by decide +kernel
theorem dL_isAll_17 : decode cL_isAll 17 = .ok (.bipush 16, 2) := by decide +kernel
theorem dL_isAll_19 : decode cL_isAll 19 = .ok (.if_icmp .ge 338, 3) := by decide +kernel
theorem dL_isAll_22 : decode cL_isAll 22 = .ok (.iload 5, 2) := by decide +kernel
theorem dL_isAll_24 : decode cL_isAll 24 = .ok (.ifCond .eq 333, 3) := by decide +kernel
theorem dL_isAll_27 : decode cL_isAll 27 = .ok (.aload_n 0, 1) := by decide +kernel
theorem dL_isAll_28 : decode cL_isAll 28 = .ok (.iload 6, 2) := by decide +kernel
theorem dL_isAll_30 : decode cL_isAll 30 = .ok (.iconst 0, 1) := by decide +kernel
theorem dL_isAll_31 : decode cL_isAll 31 = .ok (.invokevirtual 9, 3) := by decide +kernel
theorem dL_isAll_34 : decode cL_isAll 34 = .ok (.istore 7, 2) := by decide +kernel
theorem dL_isAll_36 : decode cL_isAll 36 = .ok (.iconst 0, 1) := by decide +kernel
theorem dL_isAll_37 : decode cL_isAll 37 = .ok (.istore 8, 2) := by decide +kernel
theorem dL_isAll_39 : decode cL_isAll 39 = .ok (.iconst 0, 1) := by decide +kernel
theorem dL_isAll_40 : decode cL_isAll 40 = .ok (.istore 9, 2) := by decide +kernel
theorem dL_isAll_42 : decode cL_isAll 42 = .ok (.iconst 0, 1) := by decide +kernel
theorem dL_isAll_43 : decode cL_isAll 43 = .ok (.istore 10, 2) := by decide +kernel
theorem dL_isAll_45 : decode cL_isAll 45 = .ok (.iload 10, 2) := by decide +kernel
theorem dL_isAll_47 : decode cL_isAll 47 = .ok (.iload 7, 2) := by decide +kernel
theorem dL_isAll_49 : decode cL_isAll 49 = .ok (.if_icmp .ge 122, 3) := by decide +kernel
theorem dL_isAll_52 : decode cL_isAll 52 = .ok (.iload 5, 2) := by decide +kernel
theorem dL_isAll_54 : decode cL_isAll 54 = .ok (.ifCond .eq 117, 3) := by decide +kernel
theorem dL_isAll_57 : decode cL_isAll 57 = .ok (.aload_n 0, 1) := by decide +kernel
theorem dL_isAll_58 : decode cL_isAll 58 = .ok (.iload 6, 2) := by decide +kernel
theorem dL_isAll_60 : decode cL_isAll 60 = .ok (.iload 10, 2) := by decide +kernel
theorem dL_isAll_62 : decode cL_isAll 62 = .ok (.invokevirtual 15, 3) := by decide +kernel
theorem dL_isAll_65 : decode cL_isAll 65 = .ok (.istore 11, 2) := by decide +kernel
theorem dL_isAll_67 : decode cL_isAll 67 = .ok (.aload_n 0, 1) := by decide +kernel
theorem dL_isAll_68 : decode cL_isAll 68 = .ok (.iload 11, 2) := by decide +kernel
theorem dL_isAll_70 : decode cL_isAll 70 = .ok (.iconst 5, 1) := by decide +kernel
theorem dL_isAll_71 : decode cL_isAll 71 = .ok (.invokevirtual 18, 3) := by decide +kernel
theorem dL_isAll_74 : decode cL_isAll 74 = .ok (.iload 6, 2) := by decide +kernel
theorem dL_isAll_76 : decode cL_isAll 76 = .ok (.if_icmp .ne 56, 3) := by decide +kernel
theorem dL_isAll_79 : decode cL_isAll 79 = .ok (.aload_n 0, 1) := by decide +kernel
theorem dL_isAll_80 : decode cL_isAll 80 = .ok (.iload 11, 2) := by decide +kernel
theorem dL_isAll_82 : decode cL_isAll 82 = .ok (.bipush 6, 2) := by decide +kernel
theorem dL_isAll_84 : decode cL_isAll 84 = .ok (.invokevirtual 18, 3) := by decide +kernel
theorem dL_isAll_87 : decode cL_isAll 87 = .ok (.iload 10, 2) := by decide +kernel
theorem dL_isAll_89 : decode cL_isAll 89 = .ok (.if_icmp .ne 43, 3) := by decide +kernel
theorem dL_isAll_92 : decode cL_isAll 92 = .ok (.aload_n 0, 1) := by decide +kernel
theorem dL_isAll_93 : decode cL_isAll 93 = .ok (.iload 11, 2) := by decide +kernel
theorem dL_isAll_95 : decode cL_isAll 95 = .ok (.bipush 8, 2) := by decide +kernel
theorem dL_isAll_97 : decode cL_isAll 97 = .ok (.invokevirtual 18, 3) := by decide +kernel
theorem dL_isAll_100 : decode cL_isAll 100 = .ok (.iload_n 1, 1) := by decide +kernel
theorem dL_isAll_101 : decode cL_isAll 101 = .ok (.if_icmp .ne 31, 3) := by decide +kernel
theorem dL_isAll_104 : decode cL_isAll 104 = .ok (.aload_n 0, 1) := by decide +kernel
theorem dL_isAll_105 : decode cL_isAll 105 = .ok (.iload 11, 2) := by decide +kernel
theorem dL_isAll_107 : decode cL_isAll 107 = .ok (.bipush 7, 2) := by decide +kernel
theorem dL_isAll_109 : decode cL_isAll 109 = .ok (.invokevirtual 18, 3) := by decide +kernel
theorem dL_isAll_112 : decode cL_isAll 112 = .ok (.ifCond .eq 16, 3) := by decide +kernel
theorem dL_isAll_115 : decode cL_isAll 115 = .ok (.aload_n 0, 1) := by decide +kernel
theorem dL_isAll_116 : decode cL_isAll 116 = .ok (.iload_n 3, 1) := by decide +kernel
theorem dL_isAll_117 : decode cL_isAll 117 = .ok (.iload 9, 2) := by decide +kernel
theorem dL_isAll_119 : decode cL_isAll 119 = .ok (.iadd, 1) := by decide +kernel
theorem dL_isAll_120 : decode cL_isAll 120 = .ok (.invokevirtual 28, 3) := by decide +kernel
theorem dL_isAll_123 : decode cL_isAll 123 = .ok (.iload 11, 2) := by decide +kernel
theorem dL_isAll_125 : decode cL_isAll 125 = .ok (.if_icmp .ne 7, 3) := by decide +kernel
theorem dL_isAll_128 : decode cL_isAll 128 = .ok (.iconst 1, 1) := by decide +kernel
theorem dL_isAll_129 : decode cL_isAll 129 = .ok (.goto 4, 3) := by decide +kernel
theorem dL_isAll_132 : decode cL_isAll 132 = .ok (.iconst 0, 1) := by decide +kernel
theorem dL_isAll_133 : decode cL_isAll 133 = .ok (.istore 5, 2) := by decide +kernel
theorem dL_isAll_135 : decode cL_isAll 135 = .ok (.iinc 1 1, 3) := by decide +kernel
theorem dL_isAll_138 : decode cL_isAll 138 = .ok (.iload 8, 2) := by decide +kernel
theorem dL_isAll_140 : decode cL_isAll 140 = .ok (.iconst 1, 1) := by decide +kernel
theorem dL_isAll_141 : decode cL_isAll 141 = .ok (.aload_n 0, 1) := by decide +kernel
theorem dL_isAll_142 : decode cL_isAll 142 = .ok (.iload 11, 2) := by decide +kernel
theorem dL_isAll_144 : decode cL_isAll 144 = .ok (.iconst 0, 1) := by decide +kernel
theorem dL_isAll_145 : decode cL_isAll 145 = .ok (.invokevirtual 18, 3) := by decide +kernel
theorem dL_isAll_148 : decode cL_isAll 148 = .ok (.ishl, 1) := by decide +kernel
theorem dL_isAll_149 : decode cL_isAll 149 = .ok (.ior, 1) := by decide +kernel
theorem dL_isAll_150 : decode cL_isAll 150 = .ok (.istore 8, 2) := by decide +kernel
theorem dL_isAll_152 : decode cL_isAll 152 = .ok (.iload 9, 2) := by decide +kernel
theorem dL_isAll_154 : decode cL_isAll 154 = .ok (.aload_n 0, 1) := by decide +kernel
theorem dL_isAll_155 : decode cL_isAll 155 = .ok (.iload 11, 2) := by decide +kernel
theorem dL_isAll_157 : decode cL_isAll 157 = .ok (.bipush 7, 2) := by decide +kernel
theorem dL_isAll_159 : decode cL_isAll 159 = .ok (.invokevirtual 18, 3) := by decide +kernel
theorem dL_isAll_162 : decode cL_isAll 162 = .ok (.iadd, 1) := by decide +kernel
theorem dL_isAll_163 : decode cL_isAll 163 = .ok (.istore 9, 2) := by decide +kernel
theorem dL_isAll_165 : decode cL_isAll 165 = .ok (.iinc 10 1, 3) := by decide +kernel
theorem dL_isAll_168 : decode cL_isAll 168 = .ok (.goto (-123), 3) := by decide +kernel
theorem dL_isAll_171 : decode cL_isAll 171 = .ok (.iload_n 3, 1) := by decide +kernel
theorem dL_isAll_172 : decode cL_isAll 172 = .ok (.iload 9, 2) := by decide +kernel
theorem dL_isAll_174 : decode cL_isAll 174 = .ok (.iadd, 1) := by decide +kernel
theorem dL_isAll_175 : decode cL_isAll 175 = .ok (.istore_n 3, 1) := by decide +kernel
theorem dL_isAll_176 : decode cL_isAll 176 = .ok (.iload_n 2, 1) := by decide +kernel
theorem dL_isAll_177 : decode cL_isAll 177 = .ok (.aload_n 0, 1) := by decide +kernel
theorem dL_isAll_178 : decode cL_isAll 178 = .ok (.iload 6, 2) := by decide +kernel
theorem dL_isAll_180 : decode cL_isAll 180 = .ok (.iconst 1, 1) := by decide +kernel
theorem dL_isAll_181 : decode cL_isAll 181 = .ok (.invokevirtual 9, 3) := by decide +kernel
theorem dL_isAll_184 : decode cL_isAll 184 = .ok (.iadd, 1) := by decide +kernel
theorem dL_isAll_185 : decode cL_isAll 185 = .ok (.istore_n 2, 1) := by decide +kernel
theorem dL_isAll_186 : decode cL_isAll 186 = .ok (.iload 4, 2) := by decide +kernel
theorem dL_isAll_188 : decode cL_isAll 188 = .ok (.iload 7, 2) := by decide +kernel
theorem dL_isAll_190 : decode cL_isAll 190 = .ok (.ifCond .le 7, 3) := by decide +kernel
theorem dL_isAll_193 : decode cL_isAll 193 = .ok (.iconst 1, 1) := by decide +kernel
theorem dL_isAll_194 : decode cL_isAll 194 = .ok (.goto 4, 3) := by decide +kernel
theorem dL_isAll_197 : decode cL_isAll 197 = .ok (.iconst 0, 1) := by decide +kernel
theorem dL_isAll_198 : decode cL_isAll 198 = .ok (.iadd, 1) := by decide +kernel
theorem dL_isAll_199 : decode cL_isAll 199 = .ok (.istore 4, 2) := by decide +kernel
theorem dL_isAll_201 : decode cL_isAll 201 = .ok (.iload 5, 2) := by decide +kernel
theorem dL_isAll_203 : decode cL_isAll 203 = .ok (.ifCond .eq 145, 3) := by decide +kernel
theorem dL_isAll_206 : decode cL_isAll 206 = .ok (.iload 7, 2) := by decide +kernel
theorem dL_isAll_208 : decode cL_isAll 208 = .ok (.bipush 6, 2) := by decide +kernel
theorem dL_isAll_210 : decode cL_isAll 210 = .ok (.if_icmp .gt 138, 3) := by decide +kernel
theorem dL_isAll_213 : decode cL_isAll 213 = .ok (.aload_n 0, 1) := by decide +kernel
theorem dL_isAll_214 : decode cL_isAll 214 = .ok (.iload 6, 2) := by decide +kernel
theorem dL_isAll_216 : decode cL_isAll 216 = .ok (.iload 7, 2) := by decide +kernel
theorem dL_isAll_218 : decode cL_isAll 218 = .ok (.invokevirtual 15, 3) := by decide +kernel
theorem dL_isAll_221 : decode cL_isAll 221 = .ok (.bipush (-5), 2) := by decide +kernel
theorem dL_isAll_223 : decode cL_isAll 223 = .ok (.if_icmp .ne 125, 3) := by decide +kernel
theorem dL_isAll_226 : decode cL_isAll 226 = .ok (.iload 8, 2) := by decide +kernel
theorem dL_isAll_228 : decode cL_isAll 228 = .ok (.aload_n 0, 1) := by decide +kernel
theorem dL_isAll_229 : decode cL_isAll 229 = .ok (.iload 6, 2) := by decide +kernel
theorem dL_isAll_231 : decode cL_isAll 231 = .ok (.iconst 2, 1) := by decide +kernel
theorem dL_isAll_232 : decode cL_isAll 232 = .ok (.invokevirtual 9, 3) := by decide +kernel
theorem dL_isAll_235 : decode cL_isAll 235 = .ok (.if_icmp .ne 113, 3) := by decide +kernel
theorem dL_isAll_238 : decode cL_isAll 238 = .ok (.iload 9, 2) := by decide +kernel
theorem dL_isAll_240 : decode cL_isAll 240 = .ok (.aload_n 0, 1) := by decide +kernel
theorem dL_isAll_241 : decode cL_isAll 241 = .ok (.iload 6, 2) := by decide +kernel
theorem dL_isAll_243 : decode cL_isAll 243 = .ok (.iconst 5, 1) := by decide +kernel
theorem dL_isAll_244 : decode cL_isAll 244 = .ok (.invokevirtual 9, 3) := by decide +kernel
theorem dL_isAll_247 : decode cL_isAll 247 = .ok (.if_icmp .ne 101, 3) := by decide +kernel
theorem dL_isAll_250 : decode cL_isAll 250 = .ok (.aload_n 0, 1) := by decide +kernel
theorem dL_isAll_251 : decode cL_isAll 251 = .ok (.iload 6, 2) := by decide +kernel
theorem dL_isAll_253 : decode cL_isAll 253 = .ok (.invokevirtual 31, 3) := by decide +kernel
theorem dL_isAll_256 : decode cL_isAll 256 = .ok (.fconst 0, 1) := by decide +kernel
theorem dL_isAll_257 : decode cL_isAll 257 = .ok (.fcmp .g, 1) := by decide +kernel
theorem dL_isAll_258 : decode cL_isAll 258 = .ok (.ifCond .ge 7, 3) := by decide +kernel
theorem dL_isAll_261 : decode cL_isAll 261 = .ok (.iconst 1, 1) := by decide +kernel
theorem dL_isAll_262 : decode cL_isAll 262 = .ok (.goto 4, 3) := by decide +kernel
theorem dL_isAll_265 : decode cL_isAll 265 = .ok (.iconst 0, 1) := by decide +kernel
theorem dL_isAll_266 : decode cL_isAll 266 = .ok (.iload 7, 2) := by decide +kernel
theorem dL_isAll_268 : decode cL_isAll 268 = .ok (.ifCond .ne 7, 3) := by decide +kernel
theorem dL_isAll_271 : decode cL_isAll 271 = .ok (.iconst 1, 1) := by decide +kernel
theorem dL_isAll_272 : decode cL_isAll 272 = .ok (.goto 4, 3) := by decide +kernel
theorem dL_isAll_275 : decode cL_isAll 275 = .ok (.iconst 0, 1) := by decide +kernel
theorem dL_isAll_276 : decode cL_isAll 276 = .ok (.if_icmp .ne 72, 3) := by decide +kernel
theorem dL_isAll_279 : decode cL_isAll 279 = .ok (.aload_n 0, 1) := by decide +kernel
theorem dL_isAll_280 : decode cL_isAll 280 = .ok (.iload 6, 2) := by decide +kernel
theorem dL_isAll_282 : decode cL_isAll 282 = .ok (.bipush 6, 2) := by decide +kernel
theorem dL_isAll_284 : decode cL_isAll 284 = .ok (.invokevirtual 9, 3) := by decide +kernel
theorem dL_isAll_287 : decode cL_isAll 287 = .ok (.ifCond .ne 7, 3) := by decide +kernel
theorem dL_isAll_290 : decode cL_isAll 290 = .ok (.iconst 1, 1) := by decide +kernel
theorem dL_isAll_291 : decode cL_isAll 291 = .ok (.goto 4, 3) := by decide +kernel
theorem dL_isAll_294 : decode cL_isAll 294 = .ok (.iconst 0, 1) := by decide +kernel
theorem dL_isAll_295 : decode cL_isAll 295 = .ok (.iload 7, 2) := by decide +kernel
theorem dL_isAll_297 : decode cL_isAll 297 = .ok (.ifCond .ne 7, 3) := by decide +kernel
theorem dL_isAll_300 : decode cL_isAll 300 = .ok (.iconst 1, 1) := by decide +kernel
theorem dL_isAll_301 : decode cL_isAll 301 = .ok (.goto 4, 3) := by decide +kernel
theorem dL_isAll_304 : decode cL_isAll 304 = .ok (.iconst 0, 1) := by decide +kernel
theorem dL_isAll_305 : decode cL_isAll 305 = .ok (.if_icmp .ne 43, 3) := by decide +kernel
theorem dL_isAll_308 : decode cL_isAll 308 = .ok (.aload_n 0, 1) := by decide +kernel
theorem dL_isAll_309 : decode cL_isAll 309 = .ok (.iload 6, 2) := by decide +kernel
theorem dL_isAll_311 : decode cL_isAll 311 = .ok (.iconst 4, 1) := by decide +kernel
theorem dL_isAll_312 : decode cL_isAll 312 = .ok (.invokevirtual 9, 3) := by decide +kernel
theorem dL_isAll_315 : decode cL_isAll 315 = .ok (.iconst 1, 1) := by decide +kernel
theorem dL_isAll_316 : decode cL_isAll 316 = .ok (.if_icmp .ne 7, 3) := by decide +kernel
theorem dL_isAll_319 : decode cL_isAll 319 = .ok (.iconst 1, 1) := by decide +kernel
theorem dL_isAll_320 : decode cL_isAll 320 = .ok (.goto 4, 3) := by decide +kernel
theorem dL_isAll_323 : decode cL_isAll 323 = .ok (.iconst 0, 1) := by decide +kernel
theorem dL_isAll_324 : decode cL_isAll 324 = .ok (.aload_n 0, 1) := by decide +kernel
theorem dL_isAll_325 : decode cL_isAll 325 = .ok (.iload 6, 2) := by decide +kernel
theorem dL_isAll_327 : decode cL_isAll 327 = .ok (.bipush 6, 2) := by decide +kernel
theorem dL_isAll_329 : decode cL_isAll 329 = .ok (.invokevirtual 9, 3) := by decide +kernel
theorem dL_isAll_332 : decode cL_isAll 332 = .ok (.iconst 1, 1) := by decide +kernel
theorem dL_isAll_333 : decode cL_isAll 333 = .ok (.if_icmp .le 7, 3) := by decide +kernel
theorem dL_isAll_336 : decode cL_isAll 336 = .ok (.iconst 1, 1) := by decide +kernel
theorem dL_isAll_337 : decode cL_isAll 337 = .ok (.goto 4, 3) := by decide +kernel
theorem dL_isAll_340 : decode cL_isAll 340 = .ok (.iconst 0, 1) := by decide +kernel
theorem dL_isAll_341 : decode cL_isAll 341 = .ok (.if_icmp .ne 7, 3) := by decide +kernel
theorem dL_isAll_344 : decode cL_isAll 344 = .ok (.iconst 1, 1) := by decide +kernel
theorem dL_isAll_345 : decode cL_isAll 345 = .ok (.goto 4, 3) := by decide +kernel
theorem dL_isAll_348 : decode cL_isAll 348 = .ok (.iconst 0, 1) := by decide +kernel
theorem dL_isAll_349 : decode cL_isAll 349 = .ok (.istore 5, 2) := by decide +kernel
theorem dL_isAll_351 : decode cL_isAll 351 = .ok (.iinc 6 1, 3) := by decide +kernel
theorem dL_isAll_354 : decode cL_isAll 354 = .ok (.goto (-339), 3) := by decide +kernel
theorem dL_isAll_357 : decode cL_isAll 357 = .ok (.iconst 0, 1) := by decide +kernel
theorem dL_isAll_358 : decode cL_isAll 358 = .ok (.istore 6, 2) := by decide +kernel
theorem dL_isAll_360 : decode cL_isAll 360 = .ok (.iconst 0, 1) := by decide +kernel
theorem dL_isAll_361 : decode cL_isAll 361 = .ok (.istore 7, 2) := by decide +kernel
theorem dL_isAll_363 : decode cL_isAll 363 = .ok (.iconst 0, 1) := by decide +kernel
theorem dL_isAll_364 : decode cL_isAll 364 = .ok (.istore 8, 2) := by decide +kernel
theorem dL_isAll_366 : decode cL_isAll 366 = .ok (.iload 8, 2) := by decide +kernel
theorem dL_isAll_368 : decode cL_isAll 368 = .ok (.bipush 6, 2) := by decide +kernel
theorem dL_isAll_370 : decode cL_isAll 370 = .ok (.if_icmp .ge 54, 3) := by decide +kernel
theorem dL_isAll_373 : decode cL_isAll 373 = .ok (.iload 5, 2) := by decide +kernel
theorem dL_isAll_375 : decode cL_isAll 375 = .ok (.ifCond .eq 49, 3) := by decide +kernel
theorem dL_isAll_378 : decode cL_isAll 378 = .ok (.aload_n 0, 1) := by decide +kernel
theorem dL_isAll_379 : decode cL_isAll 379 = .ok (.iload 8, 2) := by decide +kernel
theorem dL_isAll_381 : decode cL_isAll 381 = .ok (.invokestatic 35, 3) := by decide +kernel
theorem dL_isAll_384 : decode cL_isAll 384 = .ok (.istore 5, 2) := by decide +kernel
theorem dL_isAll_386 : decode cL_isAll 386 = .ok (.iload 6, 2) := by decide +kernel
theorem dL_isAll_388 : decode cL_isAll 388 = .ok (.aload_n 0, 1) := by decide +kernel
theorem dL_isAll_389 : decode cL_isAll 389 = .ok (.iload 8, 2) := by decide +kernel
theorem dL_isAll_391 : decode cL_isAll 391 = .ok (.iconst 3, 1) := by decide +kernel
theorem dL_isAll_392 : decode cL_isAll 392 = .ok (.invokevirtual 25, 3) := by decide +kernel
theorem dL_isAll_395 : decode cL_isAll 395 = .ok (.ifCond .ne 7, 3) := by decide +kernel
theorem dL_isAll_398 : decode cL_isAll 398 = .ok (.iconst 1, 1) := by decide +kernel
theorem dL_isAll_399 : decode cL_isAll 399 = .ok (.goto 4, 3) := by decide +kernel
theorem dL_isAll_402 : decode cL_isAll 402 = .ok (.iconst 0, 1) := by decide +kernel
theorem dL_isAll_403 : decode cL_isAll 403 = .ok (.iadd, 1) := by decide +kernel
theorem dL_isAll_404 : decode cL_isAll 404 = .ok (.istore 6, 2) := by decide +kernel
theorem dL_isAll_406 : decode cL_isAll 406 = .ok (.iload 7, 2) := by decide +kernel
theorem dL_isAll_408 : decode cL_isAll 408 = .ok (.aload_n 0, 1) := by decide +kernel
theorem dL_isAll_409 : decode cL_isAll 409 = .ok (.iload 8, 2) := by decide +kernel
theorem dL_isAll_411 : decode cL_isAll 411 = .ok (.iconst 1, 1) := by decide +kernel
theorem dL_isAll_412 : decode cL_isAll 412 = .ok (.invokevirtual 25, 3) := by decide +kernel
theorem dL_isAll_415 : decode cL_isAll 415 = .ok (.iadd, 1) := by decide +kernel
theorem dL_isAll_416 : decode cL_isAll 416 = .ok (.istore 7, 2) := by decide +kernel
theorem dL_isAll_418 : decode cL_isAll 418 = .ok (.iinc 8 1, 3) := by decide +kernel
theorem dL_isAll_421 : decode cL_isAll 421 = .ok (.goto (-55), 3) := by decide +kernel
theorem dL_isAll_424 : decode cL_isAll 424 = .ok (.iload 5, 2) := by decide +kernel
theorem dL_isAll_426 : decode cL_isAll 426 = .ok (.ifCond .eq 78, 3) := by decide +kernel
theorem dL_isAll_429 : decode cL_isAll 429 = .ok (.iload_n 1, 1) := by decide +kernel
theorem dL_isAll_430 : decode cL_isAll 430 = .ok (.aload_n 0, 1) := by decide +kernel
theorem dL_isAll_431 : decode cL_isAll 431 = .ok (.iconst 1, 1) := by decide +kernel
theorem dL_isAll_432 : decode cL_isAll 432 = .ok (.invokevirtual 21, 3) := by decide +kernel
theorem dL_isAll_435 : decode cL_isAll 435 = .ok (.if_icmp .ne 69, 3) := by decide +kernel
theorem dL_isAll_438 : decode cL_isAll 438 = .ok (.iload 4, 2) := by decide +kernel
theorem dL_isAll_440 : decode cL_isAll 440 = .ok (.aload_n 0, 1) := by decide +kernel
theorem dL_isAll_441 : decode cL_isAll 441 = .ok (.iconst 2, 1) := by decide +kernel
theorem dL_isAll_442 : decode cL_isAll 442 = .ok (.invokevirtual 21, 3) := by decide +kernel
theorem dL_isAll_445 : decode cL_isAll 445 = .ok (.if_icmp .ne 59, 3) := by decide +kernel
theorem dL_isAll_448 : decode cL_isAll 448 = .ok (.iload_n 3, 1) := by decide +kernel
theorem dL_isAll_449 : decode cL_isAll 449 = .ok (.aload_n 0, 1) := by decide +kernel
theorem dL_isAll_450 : decode cL_isAll 450 = .ok (.iconst 3, 1) := by decide +kernel
theorem dL_isAll_451 : decode cL_isAll 451 = .ok (.invokevirtual 21, 3) := by decide +kernel
theorem dL_isAll_454 : decode cL_isAll 454 = .ok (.if_icmp .ne 50, 3) := by decide +kernel
theorem dL_isAll_457 : decode cL_isAll 457 = .ok (.iload_n 2, 1) := by decide +kernel
theorem dL_isAll_458 : decode cL_isAll 458 = .ok (.aload_n 0, 1) := by decide +kernel
theorem dL_isAll_459 : decode cL_isAll 459 = .ok (.bipush 7, 2) := by decide +kernel
theorem dL_isAll_461 : decode cL_isAll 461 = .ok (.invokevirtual 21, 3) := by decide +kernel
theorem dL_isAll_464 : decode cL_isAll 464 = .ok (.if_icmp .ne 40, 3) := by decide +kernel
theorem dL_isAll_467 : decode cL_isAll 467 = .ok (.iload 6, 2) := by decide +kernel
theorem dL_isAll_469 : decode cL_isAll 469 = .ok (.aload_n 0, 1) := by decide +kernel
theorem dL_isAll_470 : decode cL_isAll 470 = .ok (.bipush 9, 2) := by decide +kernel
theorem dL_isAll_472 : decode cL_isAll 472 = .ok (.invokevirtual 21, 3) := by decide +kernel
theorem dL_isAll_475 : decode cL_isAll 475 = .ok (.if_icmp .ne 29, 3) := by decide +kernel
theorem dL_isAll_478 : decode cL_isAll 478 = .ok (.iload_n 1, 1) := by decide +kernel
theorem dL_isAll_479 : decode cL_isAll 479 = .ok (.iload 7, 2) := by decide +kernel
theorem dL_isAll_481 : decode cL_isAll 481 = .ok (.iadd, 1) := by decide +kernel
theorem dL_isAll_482 : decode cL_isAll 482 = .ok (.aload_n 0, 1) := by decide +kernel
theorem dL_isAll_483 : decode cL_isAll 483 = .ok (.iconst 0, 1) := by decide +kernel
theorem dL_isAll_484 : decode cL_isAll 484 = .ok (.invokevirtual 21, 3) := by decide +kernel
theorem dL_isAll_487 : decode cL_isAll 487 = .ok (.if_icmp .ne 17, 3) := by decide +kernel
theorem dL_isAll_490 : decode cL_isAll 490 = .ok (.aload_n 0, 1) := by decide +kernel
theorem dL_isAll_491 : decode cL_isAll 491 = .ok (.iload_n 3, 1) := by decide +kernel
theorem dL_isAll_492 : decode cL_isAll 492 = .ok (.invokevirtual 28, 3) := by decide +kernel
theorem dL_isAll_495 : decode cL_isAll 495 = .ok (.bipush (-5), 2) := by decide +kernel
theorem dL_isAll_497 : decode cL_isAll 497 = .ok (.if_icmp .ne 7, 3) := by decide +kernel
theorem dL_isAll_500 : decode cL_isAll 500 = .ok (.iconst 1, 1) := by decide +kernel
theorem dL_isAll_501 : decode cL_isAll 501 = .ok (.goto 4, 3) := by decide +kernel
theorem dL_isAll_504 : decode cL_isAll 504 = .ok (.iconst 0, 1) := by decide +kernel
theorem dL_isAll_505 : decode cL_isAll 505 = .ok (.ireturn, 1) := by decide +kernel
set_option maxRecDepth 20000 in
theorem ggL_pins_X8_card : GoodIn wsL_pins wsX8_card := goodIn_r _ [5, 6, 7, 8, 9, 10, 11, 12, 13, 14, 15, 16, 17, 18, 19, 20, 21, 22, 23, 24, 25, 26, 27, 28, 29, 30, 31, 32, 33, 34, 35, 36, 37, 38, 39, 40, 41, 42, 43, 44, 45, 46, 47, 48, 49, 50, 51, 52, 53, 54, 55, 56, 57, 58, 59, 60, 4, 61, 62, 63, 64, 65, 66, 67, 68, 69, 70, 71, 72, 73, 74, 75, 76, 77, 78, 79, 80, 81, 82, 83, 84, 85, 86, 87, 88, 89, 90, 91, 92, 93, 94, 95, 96, 97, 98, 99, 100, 101, 102, 103, 372, 373, 374, 375, 376, 377, 378, 379, 380, 381, 382, 383, 384, 385, 386, 387, 388, 389, 390, 391, 392, 393, 394, 395, 396] (by decide +kernel) (by decide +kernel)
set_option maxRecDepth 20000 in
theorem gL_pins_X8_card : GoodIn wsL_pins (wsV RL 18 RX8 yX8_card wsX8_card) := goodIn_app (goodIn_of _ (by decide +kernel)) ggL_pins_X8_card
set_option maxRecDepth 20000 in
theorem ggL_pins_X8_would_p0 : GoodIn wsL_pins [.code yX8_would cX8_would 6 (some .int)] := goodIn_r _ [107] (by decide +kernel) (by decide +kernel)
set_option maxRecDepth 20000 in
theorem ggL_pins_X8_would_p1 : GoodIn wsL_pins wsX8_would_r1 := goodIn_r _ [108, 7, 109, 110, 111, 4, 112, 6, 8, 9, 10, 11, 12, 13, 113, 114, 115, 116, 117, 118, 47, 119, 120, 121] (by decide +kernel) (by decide +kernel)
set_option maxRecDepth 20000 in
theorem ggL_pins_X8_would_p2 : GoodIn wsL_pins wsX8_would_r2 := goodIn_r _ [122, 123, 124, 125, 126, 45, 46, 48, 49, 127, 128, 129, 130, 131, 132, 133, 134, 135, 136, 137, 138, 139, 140, 141] (by decide +kernel) (by decide +kernel)
set_option maxRecDepth 20000 in
theorem ggL_pins_X8_would_p3 : GoodIn wsL_pins wsX8_would_r3 := goodIn_r _ [142, 143, 144, 145, 146, 147, 148, 149, 150, 151, 152, 153, 154, 155, 23, 24, 25, 26, 27, 28, 29, 30, 31, 32] (by decide +kernel) (by decide +kernel)
set_option maxRecDepth 20000 in
theorem ggL_pins_X8_would_p4 : GoodIn wsL_pins wsX8_would_r4 := goodIn_r _ [33, 34, 35, 36, 37, 38, 39, 40, 41, 42, 43, 44, 50, 51, 52, 53, 54, 55, 56, 57, 58, 59, 15, 16] (by decide +kernel) (by decide +kernel)
set_option maxRecDepth 20000 in
theorem ggL_pins_X8_would_p5 : GoodIn wsL_pins wsX8_would_r5 := goodIn_r _ [17, 18, 19, 20, 21, 22, 60, 61, 62, 63, 64, 65, 66, 67, 68, 69, 70, 71, 72, 73, 74, 14, 156, 157] (by decide +kernel) (by decide +kernel)
set_option maxRecDepth 20000 in
theorem ggL_pins_X8_would_p6 : GoodIn wsL_pins wsX8_would_r6 := goodIn_r _ [158, 159, 160, 161, 162, 163, 164, 165, 166, 167, 168, 169, 170, 171, 172, 173, 174, 175, 176, 177, 178, 80, 81, 82] (by decide +kernel) (by decide +kernel)
set_option maxRecDepth 20000 in
theorem ggL_pins_X8_would_p7 : GoodIn wsL_pins wsX8_would_r7 := goodIn_r _ [83, 84, 85, 86, 179, 180, 181, 182, 183, 184, 185, 186, 187, 188, 189, 190, 191, 192, 193, 194, 195, 196, 197, 88] (by decide +kernel) (by decide +kernel)
set_option maxRecDepth 20000 in
theorem ggL_pins_X8_would_p8 : GoodIn wsL_pins wsX8_would_r8 := goodIn_r _ [89, 90, 198, 199, 200, 201, 202, 203, 96, 97, 98, 204, 205, 206, 207, 208, 100, 101, 102, 209, 210, 211, 212, 213] (by decide +kernel) (by decide +kernel)
set_option maxRecDepth 20000 in
theorem ggL_pins_X8_would_p9 : GoodIn wsL_pins wsX8_would_r9 := goodIn_r _ [214, 215, 216, 217, 218, 219, 220, 221, 222, 223, 224] (by decide +kernel) (by decide +kernel)
set_option maxRecDepth 20000 in
theorem ggL_pins_X8_would_p10 : GoodIn wsL_pins wsX80 := goodIn_r _ [372, 373, 374, 375, 376, 377, 378, 379, 380] (by decide +kernel) (by decide +kernel)
set_option maxRecDepth 20000 in
theorem ggL_pins_X8_would_p11 : GoodIn wsL_pins wsX40 := goodIn_r _ [381, 382, 383] (by decide +kernel) (by decide +kernel)
set_option maxRecDepth 20000 in
theorem ggL_pins_X8_would_p12 : GoodIn wsL_pins wsX10 := goodIn_r _ [384, 385] (by decide +kernel) (by decide +kernel)
set_option maxRecDepth 20000 in
theorem ggL_pins_X8_would_p13 : GoodIn wsL_pins wsX70 := goodIn_r _ [396] (by decide +kernel) (by decide +kernel)
set_option maxRecDepth 20000 in
theorem ggL_pins_X8_would_p14 : GoodIn wsL_pins wsX30 := goodIn_r _ [386, 387, 388, 389, 390, 391, 392, 393, 394, 395] (by decide +kernel) (by decide +kernel)
set_option maxRecDepth 20000 in
theorem ggL_pins_X8_would_p15 : GoodIn wsL_pins wsX50 := goodIn_r _ [397, 398, 399, 400, 401, 402, 403] (by decide +kernel) (by decide +kernel)
set_option maxRecDepth 20000 in
theorem ggL_pins_X8_would : GoodIn wsL_pins wsX8_would := by
  unfold GoodIn wsX8_would
  exact List.forall_mem_cons.mpr ⟨ggL_pins_X8_would_p0 _ (List.mem_singleton.mpr rfl), List.forall_mem_append.mpr ⟨List.forall_mem_append.mpr ⟨List.forall_mem_append.mpr ⟨List.forall_mem_append.mpr ⟨List.forall_mem_append.mpr ⟨List.forall_mem_append.mpr ⟨List.forall_mem_append.mpr ⟨ggL_pins_X8_would_p1, List.forall_mem_append.mpr ⟨ggL_pins_X8_would_p2, List.forall_mem_append.mpr ⟨ggL_pins_X8_would_p3, List.forall_mem_append.mpr ⟨ggL_pins_X8_would_p4, List.forall_mem_append.mpr ⟨ggL_pins_X8_would_p5, List.forall_mem_append.mpr ⟨ggL_pins_X8_would_p6, List.forall_mem_append.mpr ⟨ggL_pins_X8_would_p7, List.forall_mem_append.mpr ⟨ggL_pins_X8_would_p8, ggL_pins_X8_would_p9⟩⟩⟩⟩⟩⟩⟩⟩, ggL_pins_X8_would_p10⟩, ggL_pins_X8_would_p11⟩, ggL_pins_X8_would_p12⟩, ggL_pins_X8_would_p13⟩, ggL_pins_X8_would_p14⟩, ggL_pins_X8_would_p15⟩⟩
set_option maxRecDepth 20000 in
theorem gL_pins_X8_would : GoodIn wsL_pins (wsV RL 41 RX8 yX8_would wsX8_would) := goodIn_app (goodIn_of _ (by decide +kernel)) ggL_pins_X8_would
set_option maxRecDepth 20000 in
theorem ggL_pins_X8_pin_p0 : GoodIn wsL_pins [.code yX8_pin cX8_pin 5 (some .int)] := goodIn_r _ [228] (by decide +kernel) (by decide +kernel)
set_option maxRecDepth 20000 in
theorem ggL_pins_X8_pin_p1 : GoodIn wsL_pins wsX8_pin_r1 := goodIn_r _ [6, 229, 109, 110, 111, 4, 112, 8, 9, 10, 11, 12, 13, 113, 114, 115, 116, 117, 118, 47, 119, 120, 121, 122] (by decide +kernel) (by decide +kernel)
set_option maxRecDepth 20000 in
theorem ggL_pins_X8_pin_p2 : GoodIn wsL_pins wsX8_pin_r2 := goodIn_r _ [123, 124, 125, 126, 45, 46, 48, 49, 127, 128, 129, 130, 131, 132, 133, 134, 230, 187, 231, 232, 233, 234, 235, 236] (by decide +kernel) (by decide +kernel)
set_option maxRecDepth 20000 in
theorem ggL_pins_X8_pin_p3 : GoodIn wsL_pins wsX8_pin_r3 := goodIn_r _ [237, 238, 239, 240, 241, 242, 243, 244, 245, 41, 246, 247, 248, 43, 249, 145, 146, 147, 250, 251, 252, 253, 18, 254] (by decide +kernel) (by decide +kernel)
set_option maxRecDepth 20000 in
theorem ggL_pins_X8_pin_p4 : GoodIn wsL_pins wsX8_pin_r4 := goodIn_r _ [255, 141, 142, 143, 144, 148, 149, 150, 151, 152, 153, 154, 155, 256, 257, 258, 259, 14, 15, 16, 17, 19, 20, 21] (by decide +kernel) (by decide +kernel)
set_option maxRecDepth 20000 in
theorem ggL_pins_X8_pin_p5 : GoodIn wsL_pins wsX8_pin_r5 := goodIn_r _ [22, 260, 261, 262, 263, 7, 23, 24, 25, 26, 27, 28, 29, 30, 31, 32, 33, 34, 35, 36, 37, 38, 39, 40] (by decide +kernel) (by decide +kernel)
set_option maxRecDepth 20000 in
theorem ggL_pins_X8_pin_p6 : GoodIn wsL_pins wsX8_pin_r6 := goodIn_r _ [42, 44, 50, 51, 52, 53, 54, 55, 56, 57, 58, 59, 60, 61, 62, 63, 64, 65, 66, 67, 68, 69, 70, 71] (by decide +kernel) (by decide +kernel)
set_option maxRecDepth 20000 in
theorem ggL_pins_X8_pin_p7 : GoodIn wsL_pins wsX8_pin_r7 := goodIn_r _ [72, 73, 74, 192, 193, 194, 195, 196, 171, 172, 173, 197, 88, 89, 90, 83, 84, 85, 86, 198, 199, 200, 201, 202] (by decide +kernel) (by decide +kernel)
set_option maxRecDepth 20000 in
theorem ggL_pins_X8_pin_p8 : GoodIn wsL_pins wsX8_pin_r8 := goodIn_r _ [175, 176, 177, 203, 96, 97, 98, 204, 205, 206, 207, 208, 100, 101, 102, 209, 210, 211, 212] (by decide +kernel) (by decide +kernel)
set_option maxRecDepth 20000 in
theorem ggL_pins_X8_pin_p9 : GoodIn wsL_pins wsX80 := goodIn_r _ [372, 373, 374, 375, 376, 377, 378, 379, 380] (by decide +kernel) (by decide +kernel)
set_option maxRecDepth 20000 in
theorem ggL_pins_X8_pin_p10 : GoodIn wsL_pins wsX40 := goodIn_r _ [381, 382, 383] (by decide +kernel) (by decide +kernel)
set_option maxRecDepth 20000 in
theorem ggL_pins_X8_pin_p11 : GoodIn wsL_pins wsX10 := goodIn_r _ [384, 385] (by decide +kernel) (by decide +kernel)
set_option maxRecDepth 20000 in
theorem ggL_pins_X8_pin_p12 : GoodIn wsL_pins wsX70 := goodIn_r _ [396] (by decide +kernel) (by decide +kernel)
set_option maxRecDepth 20000 in
theorem ggL_pins_X8_pin_p13 : GoodIn wsL_pins wsX20 := goodIn_r _ [404, 405, 406] (by decide +kernel) (by decide +kernel)
set_option maxRecDepth 20000 in
theorem ggL_pins_X8_pin_p14 : GoodIn wsL_pins wsX30 := goodIn_r _ [386, 387, 388, 389, 390, 391, 392, 393, 394, 395] (by decide +kernel) (by decide +kernel)
set_option maxRecDepth 20000 in
theorem ggL_pins_X8_pin : GoodIn wsL_pins wsX8_pin := by
  unfold GoodIn wsX8_pin
  exact List.forall_mem_cons.mpr ⟨ggL_pins_X8_pin_p0 _ (List.mem_singleton.mpr rfl), List.forall_mem_append.mpr ⟨List.forall_mem_append.mpr ⟨List.forall_mem_append.mpr ⟨List.forall_mem_append.mpr ⟨List.forall_mem_append.mpr ⟨List.forall_mem_append.mpr ⟨List.forall_mem_append.mpr ⟨ggL_pins_X8_pin_p1, List.forall_mem_append.mpr ⟨ggL_pins_X8_pin_p2, List.forall_mem_append.mpr ⟨ggL_pins_X8_pin_p3, List.forall_mem_append.mpr ⟨ggL_pins_X8_pin_p4, List.forall_mem_append.mpr ⟨ggL_pins_X8_pin_p5, List.forall_mem_append.mpr ⟨ggL_pins_X8_pin_p6, List.forall_mem_append.mpr ⟨ggL_pins_X8_pin_p7, ggL_pins_X8_pin_p8⟩⟩⟩⟩⟩⟩⟩, ggL_pins_X8_pin_p9⟩, ggL_pins_X8_pin_p10⟩, ggL_pins_X8_pin_p11⟩, ggL_pins_X8_pin_p12⟩, ggL_pins_X8_pin_p13⟩, ggL_pins_X8_pin_p14⟩⟩
set_option maxRecDepth 20000 in
theorem gL_pins_X8_pin : GoodIn wsL_pins (wsV RL 45 RX8 yX8_pin wsX8_pin) := goodIn_app (goodIn_of _ (by decide +kernel)) ggL_pins_X8_pin
set_option maxRecDepth 20000 in
theorem ggL_pins_X8_scene_p0 : GoodIn wsL_pins [.code yX8_scene cX8_scene 3 (some .int)] := goodIn_r _ [267] (by decide +kernel) (by decide +kernel)
set_option maxRecDepth 20000 in
theorem ggL_pins_X8_scene_p1 : GoodIn wsL_pins wsX8_scene_r1 := goodIn_r _ [7, 6, 268, 113, 114, 4, 115, 23, 24, 25, 26, 27, 28, 29, 30, 31, 32, 33, 34, 35, 36, 11, 37, 13] (by decide +kernel) (by decide +kernel)
set_option maxRecDepth 20000 in
theorem ggL_pins_X8_scene_p2 : GoodIn wsL_pins wsX8_scene_r2 := goodIn_r _ [38, 39, 40, 41, 42, 43, 44, 45, 46, 47, 48, 49, 50, 9, 10, 12, 51, 52, 53, 54, 55, 56, 57, 58] (by decide +kernel) (by decide +kernel)
set_option maxRecDepth 20000 in
theorem ggL_pins_X8_scene_p3 : GoodIn wsL_pins wsX8_scene_r3 := goodIn_r _ [59, 15, 16, 17, 18, 19, 20, 21, 22, 60, 61, 62, 63, 64, 65, 66, 67, 68, 69, 70, 71, 72, 73, 74] (by decide +kernel) (by decide +kernel)
set_option maxRecDepth 20000 in
theorem ggL_pins_X8_scene_p4 : GoodIn wsL_pins wsX8_scene_r4 := goodIn_r _ [269, 270, 271, 272, 273, 274, 275, 276, 277, 278, 279, 117, 118, 119, 120, 121, 122, 123, 124, 125, 126, 280, 281, 282] (by decide +kernel) (by decide +kernel)
set_option maxRecDepth 20000 in
theorem ggL_pins_X8_scene_p5 : GoodIn wsL_pins wsX8_scene_r5 := goodIn_r _ [283, 284, 285, 286, 287, 288, 289, 290, 291, 292, 116, 192, 193, 194, 195, 196, 171, 172, 173, 197, 88, 89, 90, 83] (by decide +kernel) (by decide +kernel)
set_option maxRecDepth 20000 in
theorem ggL_pins_X8_scene_p6 : GoodIn wsL_pins wsX8_scene_r6 := goodIn_r _ [84, 85, 86, 198, 199, 200, 201, 202, 175, 176, 177, 203, 96, 97, 98, 204, 205, 206, 207, 208, 100, 101, 102, 209] (by decide +kernel) (by decide +kernel)
set_option maxRecDepth 20000 in
theorem ggL_pins_X8_scene_p7 : GoodIn wsL_pins wsX8_scene_r7 := goodIn_r _ [210, 211, 212, 293, 294, 295, 296, 297, 298, 299, 300, 301, 302, 303, 304, 305, 306, 307, 308, 309, 310] (by decide +kernel) (by decide +kernel)
set_option maxRecDepth 20000 in
theorem ggL_pins_X8_scene_p8 : GoodIn wsL_pins wsX80 := goodIn_r _ [372, 373, 374, 375, 376, 377, 378, 379, 380] (by decide +kernel) (by decide +kernel)
set_option maxRecDepth 20000 in
theorem ggL_pins_X8_scene_p9 : GoodIn wsL_pins wsX40 := goodIn_r _ [381, 382, 383] (by decide +kernel) (by decide +kernel)
set_option maxRecDepth 20000 in
theorem ggL_pins_X8_scene_p10 : GoodIn wsL_pins wsX30 := goodIn_r _ [386, 387, 388, 389, 390, 391, 392, 393, 394, 395] (by decide +kernel) (by decide +kernel)
set_option maxRecDepth 20000 in
theorem ggL_pins_X8_scene_p11 : GoodIn wsL_pins wsX10 := goodIn_r _ [384, 385] (by decide +kernel) (by decide +kernel)
set_option maxRecDepth 20000 in
theorem ggL_pins_X8_scene_p12 : GoodIn wsL_pins wsX70 := goodIn_r _ [396] (by decide +kernel) (by decide +kernel)
set_option maxRecDepth 20000 in
theorem ggL_pins_X8_scene_p13 : GoodIn wsL_pins wsX60 := goodIn_r _ [407, 408] (by decide +kernel) (by decide +kernel)
set_option maxRecDepth 20000 in
theorem ggL_pins_X8_scene : GoodIn wsL_pins wsX8_scene := by
  unfold GoodIn wsX8_scene
  exact List.forall_mem_cons.mpr ⟨ggL_pins_X8_scene_p0 _ (List.mem_singleton.mpr rfl), List.forall_mem_append.mpr ⟨List.forall_mem_append.mpr ⟨List.forall_mem_append.mpr ⟨List.forall_mem_append.mpr ⟨List.forall_mem_append.mpr ⟨List.forall_mem_append.mpr ⟨List.forall_mem_append.mpr ⟨ggL_pins_X8_scene_p1, List.forall_mem_append.mpr ⟨ggL_pins_X8_scene_p2, List.forall_mem_append.mpr ⟨ggL_pins_X8_scene_p3, List.forall_mem_append.mpr ⟨ggL_pins_X8_scene_p4, List.forall_mem_append.mpr ⟨ggL_pins_X8_scene_p5, List.forall_mem_append.mpr ⟨ggL_pins_X8_scene_p6, ggL_pins_X8_scene_p7⟩⟩⟩⟩⟩⟩, ggL_pins_X8_scene_p8⟩, ggL_pins_X8_scene_p9⟩, ggL_pins_X8_scene_p10⟩, ggL_pins_X8_scene_p11⟩, ggL_pins_X8_scene_p12⟩, ggL_pins_X8_scene_p13⟩⟩
set_option maxRecDepth 20000 in
theorem gL_pins_X8_scene : GoodIn wsL_pins (wsV RL 9 RX8 yX8_scene wsX8_scene) := goodIn_app (goodIn_of _ (by decide +kernel)) ggL_pins_X8_scene
set_option maxRecDepth 20000 in
theorem ggL_pins_X8_thread_p0 : GoodIn wsL_pins [.code yX8_thread cX8_thread 3 (some .int)] := goodIn_r _ [314] (by decide +kernel) (by decide +kernel)
set_option maxRecDepth 20000 in
theorem ggL_pins_X8_thread_p1 : GoodIn wsL_pins wsX8_thread_r1 := goodIn_r _ [7, 6, 139, 315, 60, 4, 61, 23, 24, 25, 26, 27, 28, 29, 30, 31, 32, 33, 34, 35, 36, 11, 37, 13] (by decide +kernel) (by decide +kernel)
set_option maxRecDepth 20000 in
theorem ggL_pins_X8_thread_p2 : GoodIn wsL_pins wsX8_thread_r2 := goodIn_r _ [38, 39, 40, 41, 42, 43, 44, 45, 46, 47, 48, 49, 50, 9, 10, 12, 51, 52, 53, 54, 55, 56, 57, 58] (by decide +kernel) (by decide +kernel)
set_option maxRecDepth 20000 in
theorem ggL_pins_X8_thread_p3 : GoodIn wsL_pins wsX8_thread_r3 := goodIn_r _ [59, 15, 16, 17, 18, 19, 20, 21, 22, 62, 63, 64, 65, 66, 67, 68, 69, 70, 71, 72, 73, 74, 192, 193] (by decide +kernel) (by decide +kernel)
set_option maxRecDepth 20000 in
theorem ggL_pins_X8_thread_p4 : GoodIn wsL_pins wsX8_thread_r4 := goodIn_r _ [194, 195, 196, 171, 172, 173, 197, 88, 89, 90, 83, 84, 85, 86, 198, 199, 200, 201, 202, 175, 176, 177, 203, 96] (by decide +kernel) (by decide +kernel)
set_option maxRecDepth 20000 in
theorem ggL_pins_X8_thread_p5 : GoodIn wsL_pins wsX8_thread_r5 := goodIn_r _ [97, 98, 204, 205, 206, 207, 208, 100, 101, 102, 209, 210, 211, 212, 316, 317, 318, 319, 156, 157, 158, 159, 160, 161] (by decide +kernel) (by decide +kernel)
set_option maxRecDepth 20000 in
theorem ggL_pins_X8_thread_p6 : GoodIn wsL_pins wsX8_thread_r6 := goodIn_r _ [162, 163, 164, 165, 166, 167, 168, 169, 170, 174, 178, 80, 81, 82, 179, 180, 181, 182, 183, 184, 185, 186, 320, 321] (by decide +kernel) (by decide +kernel)
set_option maxRecDepth 20000 in
theorem ggL_pins_X8_thread_p7 : GoodIn wsL_pins wsX8_thread_r7 := goodIn_r _ [322, 323, 324, 325, 326, 327, 328] (by decide +kernel) (by decide +kernel)
set_option maxRecDepth 20000 in
theorem ggL_pins_X8_thread_p8 : GoodIn wsL_pins wsX80 := goodIn_r _ [372, 373, 374, 375, 376, 377, 378, 379, 380] (by decide +kernel) (by decide +kernel)
set_option maxRecDepth 20000 in
theorem ggL_pins_X8_thread_p9 : GoodIn wsL_pins wsX40 := goodIn_r _ [381, 382, 383] (by decide +kernel) (by decide +kernel)
set_option maxRecDepth 20000 in
theorem ggL_pins_X8_thread_p10 : GoodIn wsL_pins wsX30 := goodIn_r _ [386, 387, 388, 389, 390, 391, 392, 393, 394, 395] (by decide +kernel) (by decide +kernel)
set_option maxRecDepth 20000 in
theorem ggL_pins_X8_thread_p11 : GoodIn wsL_pins wsX10 := goodIn_r _ [384, 385] (by decide +kernel) (by decide +kernel)
set_option maxRecDepth 20000 in
theorem ggL_pins_X8_thread_p12 : GoodIn wsL_pins wsX70 := goodIn_r _ [396] (by decide +kernel) (by decide +kernel)
set_option maxRecDepth 20000 in
theorem ggL_pins_X8_thread_p13 : GoodIn wsL_pins wsX50 := goodIn_r _ [397, 398, 399, 400, 401, 402, 403] (by decide +kernel) (by decide +kernel)
set_option maxRecDepth 20000 in
theorem ggL_pins_X8_thread : GoodIn wsL_pins wsX8_thread := by
  unfold GoodIn wsX8_thread
  exact List.forall_mem_cons.mpr ⟨ggL_pins_X8_thread_p0 _ (List.mem_singleton.mpr rfl), List.forall_mem_append.mpr ⟨List.forall_mem_append.mpr ⟨List.forall_mem_append.mpr ⟨List.forall_mem_append.mpr ⟨List.forall_mem_append.mpr ⟨List.forall_mem_append.mpr ⟨List.forall_mem_append.mpr ⟨ggL_pins_X8_thread_p1, List.forall_mem_append.mpr ⟨ggL_pins_X8_thread_p2, List.forall_mem_append.mpr ⟨ggL_pins_X8_thread_p3, List.forall_mem_append.mpr ⟨ggL_pins_X8_thread_p4, List.forall_mem_append.mpr ⟨ggL_pins_X8_thread_p5, List.forall_mem_append.mpr ⟨ggL_pins_X8_thread_p6, ggL_pins_X8_thread_p7⟩⟩⟩⟩⟩⟩, ggL_pins_X8_thread_p8⟩, ggL_pins_X8_thread_p9⟩, ggL_pins_X8_thread_p10⟩, ggL_pins_X8_thread_p11⟩, ggL_pins_X8_thread_p12⟩, ggL_pins_X8_thread_p13⟩⟩
set_option maxRecDepth 20000 in
theorem gL_pins_X8_thread : GoodIn wsL_pins (wsV RL 25 RX8 yX8_thread wsX8_thread) := goodIn_app (goodIn_of _ (by decide +kernel)) ggL_pins_X8_thread
set_option maxRecDepth 20000 in
theorem ggL_pins_X8_count_p0 : GoodIn wsL_pins [.code yX8_count cX8_count 2 (some .int)] := goodIn_r _ [332] (by decide +kernel) (by decide +kernel)
set_option maxRecDepth 20000 in
theorem ggL_pins_X8_count_p1 : GoodIn wsL_pins wsX8_count_r1 := goodIn_r _ [6, 7, 268, 229, 333, 334, 39, 40, 41, 42, 43, 23, 24, 25, 26, 27, 28, 29, 30, 31, 32, 33, 34, 35] (by decide +kernel) (by decide +kernel)
set_option maxRecDepth 20000 in
theorem ggL_pins_X8_count_p2 : GoodIn wsL_pins wsX8_count_r2 := goodIn_r _ [36, 11, 37, 13, 38, 44, 45, 46, 47, 48, 49, 50, 9, 10, 12, 51, 52, 53, 54, 55, 56, 57, 58, 59] (by decide +kernel) (by decide +kernel)
set_option maxRecDepth 20000 in
theorem ggL_pins_X8_count_p3 : GoodIn wsL_pins wsX8_count_r3 := goodIn_r _ [15, 16, 17, 18, 19, 20, 21, 22, 60, 4, 61, 62, 63, 64, 65, 66, 67, 68, 69, 70, 71, 72, 73, 74] (by decide +kernel) (by decide +kernel)
set_option maxRecDepth 20000 in
theorem ggL_pins_X8_count_p4 : GoodIn wsL_pins wsX8_count_r4 := goodIn_r _ [335, 336, 337, 338, 339, 340, 341, 342, 343, 189, 190, 191, 126, 344, 345, 346, 347, 301, 117, 118, 119, 120, 121, 122] (by decide +kernel) (by decide +kernel)
set_option maxRecDepth 20000 in
theorem ggL_pins_X8_count_p5 : GoodIn wsL_pins wsX8_count_r5 := goodIn_r _ [123, 114, 115, 124, 125, 192, 193, 194, 195, 196, 171, 172, 173, 197, 88, 89, 90, 83, 84, 85, 86, 198, 199, 200] (by decide +kernel) (by decide +kernel)
set_option maxRecDepth 20000 in
theorem ggL_pins_X8_count_p6 : GoodIn wsL_pins wsX8_count_r6 := goodIn_r _ [201, 202, 175, 176, 177, 203, 96, 97, 98, 204, 205, 206, 207, 208, 100, 101, 102, 209, 210, 211, 212, 348, 349, 350] (by decide +kernel) (by decide +kernel)
set_option maxRecDepth 20000 in
theorem ggL_pins_X8_count_p7 : GoodIn wsL_pins wsX8_count_r7 := goodIn_r _ [351, 352, 298, 299, 300, 302, 303, 304, 305, 269, 270, 271, 272, 273, 274, 275, 276, 277, 278, 279, 280, 281, 282, 283] (by decide +kernel) (by decide +kernel)
set_option maxRecDepth 20000 in
theorem ggL_pins_X8_count_p8 : GoodIn wsL_pins wsX8_count_r8 := goodIn_r _ [284, 285, 286, 287, 288, 289, 290, 291, 292, 353, 354, 355, 356, 357, 326, 327, 328, 358, 359, 360, 361, 362, 363, 364] (by decide +kernel) (by decide +kernel)
set_option maxRecDepth 20000 in
theorem ggL_pins_X8_count_p9 : GoodIn wsL_pins wsX8_count_r9 := goodIn_r _ [234, 365, 236, 366, 367, 368, 369, 370, 371] (by decide +kernel) (by decide +kernel)
set_option maxRecDepth 20000 in
theorem ggL_pins_X8_count_p10 : GoodIn wsL_pins wsX80 := goodIn_r _ [372, 373, 374, 375, 376, 377, 378, 379, 380] (by decide +kernel) (by decide +kernel)
set_option maxRecDepth 20000 in
theorem ggL_pins_X8_count_p11 : GoodIn wsL_pins wsX40 := goodIn_r _ [381, 382, 383] (by decide +kernel) (by decide +kernel)
set_option maxRecDepth 20000 in
theorem ggL_pins_X8_count_p12 : GoodIn wsL_pins wsX30 := goodIn_r _ [386, 387, 388, 389, 390, 391, 392, 393, 394, 395] (by decide +kernel) (by decide +kernel)
set_option maxRecDepth 20000 in
theorem ggL_pins_X8_count_p13 : GoodIn wsL_pins wsX10 := goodIn_r _ [384, 385] (by decide +kernel) (by decide +kernel)
set_option maxRecDepth 20000 in
theorem ggL_pins_X8_count_p14 : GoodIn wsL_pins wsX70 := goodIn_r _ [396] (by decide +kernel) (by decide +kernel)
set_option maxRecDepth 20000 in
theorem ggL_pins_X8_count_p15 : GoodIn wsL_pins wsX60 := goodIn_r _ [407, 408] (by decide +kernel) (by decide +kernel)
set_option maxRecDepth 20000 in
theorem ggL_pins_X8_count_p16 : GoodIn wsL_pins wsX20 := goodIn_r _ [404, 405, 406] (by decide +kernel) (by decide +kernel)
set_option maxRecDepth 20000 in
theorem ggL_pins_X8_count_p17 : GoodIn wsL_pins wsX00 := goodIn_r _ [409, 410, 411, 412, 413] (by decide +kernel) (by decide +kernel)
set_option maxRecDepth 20000 in
theorem ggL_pins_X8_count : GoodIn wsL_pins wsX8_count := by
  unfold GoodIn wsX8_count
  exact List.forall_mem_cons.mpr ⟨ggL_pins_X8_count_p0 _ (List.mem_singleton.mpr rfl), List.forall_mem_append.mpr ⟨List.forall_mem_append.mpr ⟨List.forall_mem_append.mpr ⟨List.forall_mem_append.mpr ⟨List.forall_mem_append.mpr ⟨List.forall_mem_append.mpr ⟨List.forall_mem_append.mpr ⟨List.forall_mem_append.mpr ⟨List.forall_mem_append.mpr ⟨ggL_pins_X8_count_p1, List.forall_mem_append.mpr ⟨ggL_pins_X8_count_p2, List.forall_mem_append.mpr ⟨ggL_pins_X8_count_p3, List.forall_mem_append.mpr ⟨ggL_pins_X8_count_p4, List.forall_mem_append.mpr ⟨ggL_pins_X8_count_p5, List.forall_mem_append.mpr ⟨ggL_pins_X8_count_p6, List.forall_mem_append.mpr ⟨ggL_pins_X8_count_p7, List.forall_mem_append.mpr ⟨ggL_pins_X8_count_p8, ggL_pins_X8_count_p9⟩⟩⟩⟩⟩⟩⟩⟩, ggL_pins_X8_count_p10⟩, ggL_pins_X8_count_p11⟩, ggL_pins_X8_count_p12⟩, ggL_pins_X8_count_p13⟩, ggL_pins_X8_count_p14⟩, ggL_pins_X8_count_p15⟩, ggL_pins_X8_count_p16⟩, ggL_pins_X8_count_p17⟩⟩
set_option maxRecDepth 20000 in
theorem gL_pins_X8_count : GoodIn wsL_pins (wsV RL 21 RX8 yX8_count wsX8_count) := goodIn_app (goodIn_of _ (by decide +kernel)) ggL_pins_X8_count
