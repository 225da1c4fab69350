/-! The law: holds. -/
theorem wd_921 : Cond.constantDouble RL 235 (4517329193108106637) ∈ tG := tG_s4 201 rfl rfl
theorem dL_holds_0 : decode cL_holds 0 = .ok (.aload_n 0, 1) := by decide +kernel
theorem dL_holds_1 : decode cL_holds 1 = .ok (.aload_n 1, 1) := by decide +kernel
theorem dL_holds_2 : decode cL_holds 2 = .ok (.iconst 0, 1) := by decide +kernel
theorem dL_holds_3 : decode cL_holds 3 = .ok (.invokevirtual 196, 3) := by decide +kernel
theorem dL_holds_6 : decode cL_holds 6 = .ok (.ifCond .ne 5, 3) := by decide +kernel
theorem dL_holds_9 : decode cL_holds 9 = .ok (.iconst 0, 1) := by decide +kernel
theorem dL_holds_10 : decode cL_holds 10 = .ok (.ireturn, 1) := by decide +kernel
theorem dL_holds_11 : decode cL_holds 11 = .ok (.iconst 0, 1) := by decide +kernel
theorem dL_holds_12 : decode cL_holds 12 = .ok (.istore_n 2, 1) := by decide +kernel
theorem dL_holds_13 : decode cL_holds 13 = .ok (.aload_n 0, 1) := by decide +kernel
theorem dL_holds_14 : decode cL_holds 14 = .ok (.getfield 10, 3) := by decide +kernel
theorem dL_holds_17 : decode cL_holds 17 = .ok (.bipush 6, 2) := by decide +kernel
theorem dL_holds_19 : decode cL_holds 19 = .ok (.invokevirtual 188, 3) := by decide +kernel
theorem dL_holds_22 : decode cL_holds 22 = .ok (.istore_n 3, 1) := by decide +kernel
theorem dL_holds_23 : decode cL_holds 23 = .ok (.iconst 0, 1) := by decide +kernel
theorem dL_holds_24 : decode cL_holds 24 = .ok (.istore 4, 2) := by decide +kernel
theorem dL_holds_26 : decode cL_holds 26 = .ok (.iconst 0, 1) := by decide +kernel
theorem dL_holds_27 : decode cL_holds 27 = .ok (.istore 5, 2) := by decide +kernel
theorem dL_holds_29 : decode cL_holds 29 = .ok (.iconst 0, 1) := by decide +kernel
theorem dL_holds_30 : decode cL_holds 30 = .ok (.istore 6, 2) := by decide +kernel
theorem dL_holds_32 : decode cL_holds 32 = .ok (.iconst 0, 1) := by decide +kernel
theorem dL_holds_33 : decode cL_holds 33 = .ok (.istore 7, 2) := by decide +kernel
theorem dL_holds_35 : decode cL_holds 35 = .ok (.iconst 3, 1) := by decide +kernel
theorem dL_holds_36 : decode cL_holds 36 = .ok (.newarray .int, 2) := by decide +kernel
theorem dL_holds_38 : decode cL_holds 38 = .ok (.astore 8, 2) := by decide +kernel
theorem dL_holds_40 : decode cL_holds 40 = .ok (.iconst 0, 1) := by decide +kernel
theorem dL_holds_41 : decode cL_holds 41 = .ok (.istore 9, 2) := by decide +kernel
theorem dL_holds_43 : decode cL_holds 43 = .ok (.iload 9, 2) := by decide +kernel
theorem dL_holds_45 : decode cL_holds 45 = .ok (.aload_n 0, 1) := by decide +kernel
theorem dL_holds_46 : decode cL_holds 46 = .ok (.getfield 128, 3) := by decide +kernel
theorem dL_holds_49 : decode cL_holds 49 = .ok (.if_icmp .ge 577, 3) := by decide +kernel
theorem dL_holds_52 : decode cL_holds 52 = .ok (.aload_n 0, 1) := by decide +kernel
theorem dL_holds_53 : decode cL_holds 53 = .ok (.getfield 10, 3) := by decide +kernel
theorem dL_holds_56 : decode cL_holds 56 = .ok (.iload 9, 2) := by decide +kernel
theorem dL_holds_58 : decode cL_holds 58 = .ok (.iconst 2, 1) := by decide +kernel
theorem dL_holds_59 : decode cL_holds 59 = .ok (.invokevirtual 179, 3) := by decide +kernel
theorem dL_holds_62 : decode cL_holds 62 = .ok (.istore 10, 2) := by decide +kernel
theorem dL_holds_64 : decode cL_holds 64 = .ok (.aload_n 0, 1) := by decide +kernel
theorem dL_holds_65 : decode cL_holds 65 = .ok (.getfield 10, 3) := by decide +kernel
theorem dL_holds_68 : decode cL_holds 68 = .ok (.iload 9, 2) := by decide +kernel
theorem dL_holds_70 : decode cL_holds 70 = .ok (.iconst 3, 1) := by decide +kernel
theorem dL_holds_71 : decode cL_holds 71 = .ok (.invokevirtual 179, 3) := by decide +kernel
theorem dL_holds_74 : decode cL_holds 74 = .ok (.istore 11, 2) := by decide +kernel
theorem dL_holds_76 : decode cL_holds 76 = .ok (.iload_n 2, 1) := by decide +kernel
theorem dL_holds_77 : decode cL_holds 77 = .ok (.aload_n 0, 1) := by decide +kernel
theorem dL_holds_78 : decode cL_holds 78 = .ok (.getfield 10, 3) := by decide +kernel
theorem dL_holds_81 : decode cL_holds 81 = .ok (.iload 9, 2) := by decide +kernel
theorem dL_holds_83 : decode cL_holds 83 = .ok (.iconst 4, 1) := by decide +kernel
theorem dL_holds_84 : decode cL_holds 84 = .ok (.invokevirtual 179, 3) := by decide +kernel
theorem dL_holds_87 : decode cL_holds 87 = .ok (.iadd, 1) := by decide +kernel
theorem dL_holds_88 : decode cL_holds 88 = .ok (.istore_n 2, 1) := by decide +kernel
theorem dL_holds_89 : decode cL_holds 89 = .ok (.aload 8, 2) := by decide +kernel
theorem dL_holds_91 : decode cL_holds 91 = .ok (.aload_n 0, 1) := by decide +kernel
theorem dL_holds_92 : decode cL_holds 92 = .ok (.getfield 10, 3) := by decide +kernel
theorem dL_holds_95 : decode cL_holds 95 = .ok (.iload 9, 2) := by decide +kernel
theorem dL_holds_97 : decode cL_holds 97 = .ok (.iconst 0, 1) := by decide +kernel
theorem dL_holds_98 : decode cL_holds 98 = .ok (.invokevirtual 179, 3) := by decide +kernel
theorem dL_holds_101 : decode cL_holds 101 = .ok (.dup2, 1) := by decide +kernel
theorem dL_holds_102 : decode cL_holds 102 = .ok (.iaload, 1) := by decide +kernel
theorem dL_holds_103 : decode cL_holds 103 = .ok (.iconst 1, 1) := by decide +kernel
theorem dL_holds_104 : decode cL_holds 104 = .ok (.iadd, 1) := by decide +kernel
theorem dL_holds_105 : decode cL_holds 105 = .ok (.iastore, 1) := by decide +kernel
theorem dL_holds_106 : decode cL_holds 106 = .ok (.iload 10, 2) := by decide +kernel
theorem dL_holds_108 : decode cL_holds 108 = .ok (.bipush (-4), 2) := by decide +kernel
theorem dL_holds_110 : decode cL_holds 110 = .ok (.if_icmp .ne 74, 3) := by decide +kernel
theorem dL_holds_113 : decode cL_holds 113 = .ok (.iload 11, 2) := by decide +kernel
theorem dL_holds_115 : decode cL_holds 115 = .ok (.bipush (-4), 2) := by decide +kernel
theorem dL_holds_117 : decode cL_holds 117 = .ok (.if_icmp .ne 109, 3) := by decide +kernel
theorem dL_holds_120 : decode cL_holds 120 = .ok (.aload_n 0, 1) := by decide +kernel
theorem dL_holds_121 : decode cL_holds 121 = .ok (.getfield 10, 3) := by decide +kernel
theorem dL_holds_124 : decode cL_holds 124 = .ok (.iload 9, 2) := by decide +kernel
theorem dL_holds_126 : decode cL_holds 126 = .ok (.invokevirtual 200, 3) := by decide +kernel
theorem dL_holds_129 : decode cL_holds 129 = .ok (.ifCond .ne 97, 3) := by decide +kernel
theorem dL_holds_132 : decode cL_holds 132 = .ok (.aload_n 0, 1) := by decide +kernel
theorem dL_holds_133 : decode cL_holds 133 = .ok (.getfield 10, 3) := by decide +kernel
theorem dL_holds_136 : decode cL_holds 136 = .ok (.iload 9, 2) := by decide +kernel
theorem dL_holds_138 : decode cL_holds 138 = .ok (.invokevirtual 203, 3) := by decide +kernel
theorem dL_holds_141 : decode cL_holds 141 = .ok (.ifCond .le 7, 3) := by decide +kernel
theorem dL_holds_144 : decode cL_holds 144 = .ok (.iconst 1, 1) := by decide +kernel
theorem dL_holds_145 : decode cL_holds 145 = .ok (.goto 20, 3) := by decide +kernel
theorem dL_holds_148 : decode cL_holds 148 = .ok (.aload_n 0, 1) := by decide +kernel
theorem dL_holds_149 : decode cL_holds 149 = .ok (.getfield 10, 3) := by decide +kernel
theorem dL_holds_152 : decode cL_holds 152 = .ok (.iload 9, 2) := by decide +kernel
theorem dL_holds_154 : decode cL_holds 154 = .ok (.invokevirtual 203, 3) := by decide +kernel
theorem dL_holds_157 : decode cL_holds 157 = .ok (.ifCond .ge 7, 3) := by decide +kernel
theorem dL_holds_160 : decode cL_holds 160 = .ok (.iconst (-1), 1) := by decide +kernel
theorem dL_holds_161 : decode cL_holds 161 = .ok (.goto 4, 3) := by decide +kernel
theorem dL_holds_164 : decode cL_holds 164 = .ok (.iconst 0, 1) := by decide +kernel
theorem dL_holds_165 : decode cL_holds 165 = .ok (.invokestatic 182, 3) := by decide +kernel
theorem dL_holds_168 : decode cL_holds 168 = .ok (.aload_n 0, 1) := by decide +kernel
theorem dL_holds_169 : decode cL_holds 169 = .ok (.getfield 10, 3) := by decide +kernel
theorem dL_holds_172 : decode cL_holds 172 = .ok (.iload 9, 2) := by decide +kernel
theorem dL_holds_174 : decode cL_holds 174 = .ok (.iconst 0, 1) := by decide +kernel
theorem dL_holds_175 : decode cL_holds 175 = .ok (.invokevirtual 179, 3) := by decide +kernel
theorem dL_holds_178 : decode cL_holds 178 = .ok (.if_icmp .eq 50, 3) := by decide +kernel
theorem dL_holds_181 : decode cL_holds 181 = .ok (.goto 45, 3) := by decide +kernel
theorem dL_holds_184 : decode cL_holds 184 = .ok (.iload 11, 2) := by decide +kernel
theorem dL_holds_186 : decode cL_holds 186 = .ok (.ifCond .lt 40, 3) := by decide +kernel
theorem dL_holds_189 : decode cL_holds 189 = .ok (.iload 11, 2) := by decide +kernel
theorem dL_holds_191 : decode cL_holds 191 = .ok (.aload_n 0, 1) := by decide +kernel
theorem dL_holds_192 : decode cL_holds 192 = .ok (.getfield 10, 3) := by decide +kernel
theorem dL_holds_195 : decode cL_holds 195 = .ok (.iload 9, 2) := by decide +kernel
theorem dL_holds_197 : decode cL_holds 197 = .ok (.iconst 5, 1) := by decide +kernel
theorem dL_holds_198 : decode cL_holds 198 = .ok (.invokevirtual 176, 3) := by decide +kernel
theorem dL_holds_201 : decode cL_holds 201 = .ok (.bipush 99, 2) := by decide +kernel
theorem dL_holds_203 : decode cL_holds 203 = .ok (.aload_n 0, 1) := by decide +kernel
theorem dL_holds_204 : decode cL_holds 204 = .ok (.getfield 128, 3) := by decide +kernel
theorem dL_holds_207 : decode cL_holds 207 = .ok (.imul, 1) := by decide +kernel
theorem dL_holds_208 : decode cL_holds 208 = .ok (.iadd, 1) := by decide +kernel
theorem dL_holds_209 : decode cL_holds 209 = .ok (.if_icmp .gt 17, 3) := by decide +kernel
theorem dL_holds_212 : decode cL_holds 212 = .ok (.aload_n 0, 1) := by decide +kernel
theorem dL_holds_213 : decode cL_holds 213 = .ok (.getfield 10, 3) := by decide +kernel
theorem dL_holds_216 : decode cL_holds 216 = .ok (.iload 9, 2) := by decide +kernel
theorem dL_holds_218 : decode cL_holds 218 = .ok (.iconst 0, 1) := by decide +kernel
theorem dL_holds_219 : decode cL_holds 219 = .ok (.invokevirtual 176, 3) := by decide +kernel
theorem dL_holds_222 : decode cL_holds 222 = .ok (.iconst 3, 1) := by decide +kernel
theorem dL_holds_223 : decode cL_holds 223 = .ok (.if_icmp .ne 5, 3) := by decide +kernel
theorem dL_holds_226 : decode cL_holds 226 = .ok (.iconst 0, 1) := by decide +kernel
theorem dL_holds_227 : decode cL_holds 227 = .ok (.ireturn, 1) := by decide +kernel
theorem dL_holds_228 : decode cL_holds 228 = .ok (.iload 10, 2) := by decide +kernel
theorem dL_holds_230 : decode cL_holds 230 = .ok (.ifCond .lt 195, 3) := by decide +kernel
theorem dL_holds_233 : decode cL_holds 233 = .ok (.iinc 5 1, 3) := by decide +kernel
theorem dL_holds_236 : decode cL_holds 236 = .ok (.iload 6, 2) := by decide +kernel
theorem dL_holds_238 : decode cL_holds 238 = .ok (.iload 11, 2) := by decide +kernel
theorem dL_holds_240 : decode cL_holds 240 = .ok (.iadd, 1) := by decide +kernel
theorem dL_holds_241 : decode cL_holds 241 = .ok (.istore 6, 2) := by decide +kernel
theorem dL_holds_243 : decode cL_holds 243 = .ok (.iload 4, 2) := by decide +kernel
theorem dL_holds_245 : decode cL_holds 245 = .ok (.iload 10, 2) := by decide +kernel
theorem dL_holds_247 : decode cL_holds 247 = .ok (.bipush 7, 2) := by decide +kernel
theorem dL_holds_249 : decode cL_holds 249 = .ok (.if_icmp .le 8, 3) := by decide +kernel
theorem dL_holds_252 : decode cL_holds 252 = .ok (.iload 11, 2) := by decide +kernel
theorem dL_holds_254 : decode cL_holds 254 = .ok (.goto 4, 3) := by decide +kernel
theorem dL_holds_257 : decode cL_holds 257 = .ok (.iconst 0, 1) := by decide +kernel
theorem dL_holds_258 : decode cL_holds 258 = .ok (.iadd, 1) := by decide +kernel
theorem dL_holds_259 : decode cL_holds 259 = .ok (.istore 4, 2) := by decide +kernel
theorem dL_holds_261 : decode cL_holds 261 = .ok (.iload 10, 2) := by decide +kernel
theorem dL_holds_263 : decode cL_holds 263 = .ok (.bipush 7, 2) := by decide +kernel
theorem dL_holds_265 : decode cL_holds 265 = .ok (.if_icmp .le 69, 3) := by decide +kernel
theorem dL_holds_268 : decode cL_holds 268 = .ok (.aload_n 0, 1) := by decide +kernel
theorem dL_holds_269 : decode cL_holds 269 = .ok (.getfield 10, 3) := by decide +kernel
theorem dL_holds_272 : decode cL_holds 272 = .ok (.iload 9, 2) := by decide +kernel
theorem dL_holds_274 : decode cL_holds 274 = .ok (.invokevirtual 200, 3) := by decide +kernel
theorem dL_holds_277 : decode cL_holds 277 = .ok (.iconst 1, 1) := by decide +kernel
theorem dL_holds_278 : decode cL_holds 278 = .ok (.if_icmp .ne 52, 3) := by decide +kernel
theorem dL_holds_281 : decode cL_holds 281 = .ok (.iload 10, 2) := by decide +kernel
theorem dL_holds_283 : decode cL_holds 283 = .ok (.bipush 8, 2) := by decide +kernel
theorem dL_holds_285 : decode cL_holds 285 = .ok (.isub, 1) := by decide +kernel
theorem dL_holds_286 : decode cL_holds 286 = .ok (.aload_n 0, 1) := by decide +kernel
theorem dL_holds_287 : decode cL_holds 287 = .ok (.getfield 131, 3) := by decide +kernel
theorem dL_holds_290 : decode cL_holds 290 = .ok (.if_icmp .ge 40, 3) := by decide +kernel
theorem dL_holds_293 : decode cL_holds 293 = .ok (.aload_n 0, 1) := by decide +kernel
theorem dL_holds_294 : decode cL_holds 294 = .ok (.getfield 10, 3) := by decide +kernel
theorem dL_holds_297 : decode cL_holds 297 = .ok (.iload 9, 2) := by decide +kernel
theorem dL_holds_299 : decode cL_holds 299 = .ok (.iconst 0, 1) := by decide +kernel
theorem dL_holds_300 : decode cL_holds 300 = .ok (.invokevirtual 179, 3) := by decide +kernel
theorem dL_holds_303 : decode cL_holds 303 = .ok (.aload_n 0, 1) := by decide +kernel
theorem dL_holds_304 : decode cL_holds 304 = .ok (.getfield 24, 3) := by decide +kernel
theorem dL_holds_307 : decode cL_holds 307 = .ok (.iload 10, 2) := by decide +kernel
theorem dL_holds_309 : decode cL_holds 309 = .ok (.bipush 8, 2) := by decide +kernel
theorem dL_holds_311 : decode cL_holds 311 = .ok (.isub, 1) := by decide +kernel
theorem dL_holds_312 : decode cL_holds 312 = .ok (.aaload, 1) := by decide +kernel
theorem dL_holds_313 : decode cL_holds 313 = .ok (.iconst 1, 1) := by decide +kernel
theorem dL_holds_314 : decode cL_holds 314 = .ok (.iaload, 1) := by decide +kernel
theorem dL_holds_315 : decode cL_holds 315 = .ok (.ifCond .le 7, 3) := by decide +kernel
theorem dL_holds_318 : decode cL_holds 318 = .ok (.iconst 1, 1) := by decide +kernel
theorem dL_holds_319 : decode cL_holds 319 = .ok (.goto 4, 3) := by decide +kernel
theorem dL_holds_322 : decode cL_holds 322 = .ok (.iconst 2, 1) := by decide +kernel
theorem dL_holds_323 : decode cL_holds 323 = .ok (.if_icmp .ne 7, 3) := by decide +kernel
theorem dL_holds_326 : decode cL_holds 326 = .ok (.iconst 1, 1) := by decide +kernel
theorem dL_holds_327 : decode cL_holds 327 = .ok (.goto 89, 3) := by decide +kernel
theorem dL_holds_330 : decode cL_holds 330 = .ok (.iconst 0, 1) := by decide +kernel
theorem dL_holds_331 : decode cL_holds 331 = .ok (.goto 85, 3) := by decide +kernel
theorem dL_holds_334 : decode cL_holds 334 = .ok (.aload_n 0, 1) := by decide +kernel
theorem dL_holds_335 : decode cL_holds 335 = .ok (.getfield 10, 3) := by decide +kernel
theorem dL_holds_338 : decode cL_holds 338 = .ok (.iload 10, 2) := by decide +kernel
theorem dL_holds_340 : decode cL_holds 340 = .ok (.bipush 8, 2) := by decide +kernel
theorem dL_holds_342 : decode cL_holds 342 = .ok (.invokevirtual 179, 3) := by decide +kernel
theorem dL_holds_345 : decode cL_holds 345 = .ok (.iload 9, 2) := by decide +kernel
theorem dL_holds_347 : decode cL_holds 347 = .ok (.if_icmp .ne 68, 3) := by decide +kernel
theorem dL_holds_350 : decode cL_holds 350 = .ok (.aload_n 0, 1) := by decide +kernel
theorem dL_holds_351 : decode cL_holds 351 = .ok (.getfield 10, 3) := by decide +kernel
theorem dL_holds_354 : decode cL_holds 354 = .ok (.iload 9, 2) := by decide +kernel
theorem dL_holds_356 : decode cL_holds 356 = .ok (.invokevirtual 200, 3) := by decide +kernel
theorem dL_holds_359 : decode cL_holds 359 = .ok (.aload_n 0, 1) := by decide +kernel
theorem dL_holds_360 : decode cL_holds 360 = .ok (.getfield 10, 3) := by decide +kernel
theorem dL_holds_363 : decode cL_holds 363 = .ok (.iload 10, 2) := by decide +kernel
theorem dL_holds_365 : decode cL_holds 365 = .ok (.invokevirtual 200, 3) := by decide +kernel
theorem dL_holds_368 : decode cL_holds 368 = .ok (.iconst 1, 1) := by decide +kernel
theorem dL_holds_369 : decode cL_holds 369 = .ok (.iadd, 1) := by decide +kernel
theorem dL_holds_370 : decode cL_holds 370 = .ok (.if_icmp .ne 45, 3) := by decide +kernel
theorem dL_holds_373 : decode cL_holds 373 = .ok (.aload_n 0, 1) := by decide +kernel
theorem dL_holds_374 : decode cL_holds 374 = .ok (.getfield 10, 3) := by decide +kernel
theorem dL_holds_377 : decode cL_holds 377 = .ok (.iload 10, 2) := by decide +kernel
theorem dL_holds_379 : decode cL_holds 379 = .ok (.iconst 5, 1) := by decide +kernel
theorem dL_holds_380 : decode cL_holds 380 = .ok (.invokevirtual 179, 3) := by decide +kernel
theorem dL_holds_383 : decode cL_holds 383 = .ok (.iconst 1, 1) := by decide +kernel
theorem dL_holds_384 : decode cL_holds 384 = .ok (.if_icmp .ne 31, 3) := by decide +kernel
theorem dL_holds_387 : decode cL_holds 387 = .ok (.aload_n 0, 1) := by decide +kernel
theorem dL_holds_388 : decode cL_holds 388 = .ok (.getfield 10, 3) := by decide +kernel
theorem dL_holds_391 : decode cL_holds 391 = .ok (.iload 10, 2) := by decide +kernel
theorem dL_holds_393 : decode cL_holds 393 = .ok (.bipush 6, 2) := by decide +kernel
theorem dL_holds_395 : decode cL_holds 395 = .ok (.invokevirtual 179, 3) := by decide +kernel
theorem dL_holds_398 : decode cL_holds 398 = .ok (.aload_n 0, 1) := by decide +kernel
theorem dL_holds_399 : decode cL_holds 399 = .ok (.getfield 10, 3) := by decide +kernel
theorem dL_holds_402 : decode cL_holds 402 = .ok (.iload 9, 2) := by decide +kernel
theorem dL_holds_404 : decode cL_holds 404 = .ok (.iconst 4, 1) := by decide +kernel
theorem dL_holds_405 : decode cL_holds 405 = .ok (.invokevirtual 176, 3) := by decide +kernel
theorem dL_holds_408 : decode cL_holds 408 = .ok (.if_icmp .gt 7, 3) := by decide +kernel
theorem dL_holds_411 : decode cL_holds 411 = .ok (.iconst 1, 1) := by decide +kernel
theorem dL_holds_412 : decode cL_holds 412 = .ok (.goto 4, 3) := by decide +kernel
theorem dL_holds_415 : decode cL_holds 415 = .ok (.iconst 0, 1) := by decide +kernel
theorem dL_holds_416 : decode cL_holds 416 = .ok (.istore 12, 2) := by decide +kernel
theorem dL_holds_418 : decode cL_holds 418 = .ok (.iload 12, 2) := by decide +kernel
theorem dL_holds_420 : decode cL_holds 420 = .ok (.ifCond .ne 5, 3) := by decide +kernel
theorem dL_holds_423 : decode cL_holds 423 = .ok (.iconst 0, 1) := by decide +kernel
theorem dL_holds_424 : decode cL_holds 424 = .ok (.ireturn, 1) := by decide +kernel
theorem dL_holds_425 : decode cL_holds 425 = .ok (.aload_n 0, 1) := by decide +kernel
theorem dL_holds_426 : decode cL_holds 426 = .ok (.getfield 10, 3) := by decide +kernel
theorem dL_holds_429 : decode cL_holds 429 = .ok (.iload 9, 2) := by decide +kernel
theorem dL_holds_431 : decode cL_holds 431 = .ok (.bipush 6, 2) := by decide +kernel
theorem dL_holds_433 : decode cL_holds 433 = .ok (.invokevirtual 179, 3) := by decide +kernel
theorem dL_holds_436 : decode cL_holds 436 = .ok (.istore 12, 2) := by decide +kernel
theorem dL_holds_438 : decode cL_holds 438 = .ok (.iload 7, 2) := by decide +kernel
theorem dL_holds_440 : decode cL_holds 440 = .ok (.aload_n 0, 1) := by decide +kernel
theorem dL_holds_441 : decode cL_holds 441 = .ok (.getfield 10, 3) := by decide +kernel
theorem dL_holds_444 : decode cL_holds 444 = .ok (.iload 9, 2) := by decide +kernel
theorem dL_holds_446 : decode cL_holds 446 = .ok (.iconst 5, 1) := by decide +kernel
theorem dL_holds_447 : decode cL_holds 447 = .ok (.invokevirtual 179, 3) := by decide +kernel
theorem dL_holds_450 : decode cL_holds 450 = .ok (.iadd, 1) := by decide +kernel
theorem dL_holds_451 : decode cL_holds 451 = .ok (.istore 7, 2) := by decide +kernel
theorem dL_holds_453 : decode cL_holds 453 = .ok (.aload_n 0, 1) := by decide +kernel
theorem dL_holds_454 : decode cL_holds 454 = .ok (.getfield 10, 3) := by decide +kernel
theorem dL_holds_457 : decode cL_holds 457 = .ok (.iload 9, 2) := by decide +kernel
theorem dL_holds_459 : decode cL_holds 459 = .ok (.iconst 5, 1) := by decide +kernel
theorem dL_holds_460 : decode cL_holds 460 = .ok (.invokevirtual 179, 3) := by decide +kernel
theorem dL_holds_463 : decode cL_holds 463 = .ok (.iconst 1, 1) := by decide +kernel
theorem dL_holds_464 : decode cL_holds 464 = .ok (.if_icmp .ne 56, 3) := by decide +kernel
theorem dL_holds_467 : decode cL_holds 467 = .ok (.iload 12, 2) := by decide +kernel
theorem dL_holds_469 : decode cL_holds 469 = .ok (.aload_n 0, 1) := by decide +kernel
theorem dL_holds_470 : decode cL_holds 470 = .ok (.getfield 10, 3) := by decide +kernel
theorem dL_holds_473 : decode cL_holds 473 = .ok (.iload 9, 2) := by decide +kernel
theorem dL_holds_475 : decode cL_holds 475 = .ok (.iconst 4, 1) := by decide +kernel
theorem dL_holds_476 : decode cL_holds 476 = .ok (.invokevirtual 176, 3) := by decide +kernel
theorem dL_holds_479 : decode cL_holds 479 = .ok (.if_icmp .le 80, 3) := by decide +kernel
theorem dL_holds_482 : decode cL_holds 482 = .ok (.iload 12, 2) := by decide +kernel
theorem dL_holds_484 : decode cL_holds 484 = .ok (.aload_n 0, 1) := by decide +kernel
theorem dL_holds_485 : decode cL_holds 485 = .ok (.getfield 10, 3) := by decide +kernel
theorem dL_holds_488 : decode cL_holds 488 = .ok (.iconst 3, 1) := by decide +kernel
theorem dL_holds_489 : decode cL_holds 489 = .ok (.invokevirtual 188, 3) := by decide +kernel
theorem dL_holds_492 : decode cL_holds 492 = .ok (.if_icmp .lt 67, 3) := by decide +kernel
theorem dL_holds_495 : decode cL_holds 495 = .ok (.iload 12, 2) := by decide +kernel
theorem dL_holds_497 : decode cL_holds 497 = .ok (.bipush 23, 2) := by decide +kernel
theorem dL_holds_499 : decode cL_holds 499 = .ok (.if_icmp .gt 60, 3) := by decide +kernel
theorem dL_holds_502 : decode cL_holds 502 = .ok (.aload_n 0, 1) := by decide +kernel
theorem dL_holds_503 : decode cL_holds 503 = .ok (.getfield 10, 3) := by decide +kernel
theorem dL_holds_506 : decode cL_holds 506 = .ok (.iload 9, 2) := by decide +kernel
theorem dL_holds_508 : decode cL_holds 508 = .ok (.bipush 7, 2) := by decide +kernel
theorem dL_holds_510 : decode cL_holds 510 = .ok (.invokevirtual 179, 3) := by decide +kernel
theorem dL_holds_513 : decode cL_holds 513 = .ok (.iconst 1, 1) := by decide +kernel
theorem dL_holds_514 : decode cL_holds 514 = .ok (.if_icmp .ge 47, 3) := by decide +kernel
theorem dL_holds_517 : decode cL_holds 517 = .ok (.goto 42, 3) := by decide +kernel
theorem dL_holds_520 : decode cL_holds 520 = .ok (.iload 12, 2) := by decide +kernel
theorem dL_holds_522 : decode cL_holds 522 = .ok (.bipush (-4), 2) := by decide +kernel
theorem dL_holds_524 : decode cL_holds 524 = .ok (.if_icmp .ne 35, 3) := by decide +kernel
theorem dL_holds_527 : decode cL_holds 527 = .ok (.aload_n 0, 1) := by decide +kernel
theorem dL_holds_528 : decode cL_holds 528 = .ok (.getfield 10, 3) := by decide +kernel
theorem dL_holds_531 : decode cL_holds 531 = .ok (.iload 9, 2) := by decide +kernel
theorem dL_holds_533 : decode cL_holds 533 = .ok (.bipush 7, 2) := by decide +kernel
theorem dL_holds_535 : decode cL_holds 535 = .ok (.invokevirtual 179, 3) := by decide +kernel
theorem dL_holds_538 : decode cL_holds 538 = .ok (.bipush (-4), 2) := by decide +kernel
theorem dL_holds_540 : decode cL_holds 540 = .ok (.if_icmp .ne 19, 3) := by decide +kernel
theorem dL_holds_543 : decode cL_holds 543 = .ok (.aload_n 0, 1) := by decide +kernel
theorem dL_holds_544 : decode cL_holds 544 = .ok (.getfield 10, 3) := by decide +kernel
theorem dL_holds_547 : decode cL_holds 547 = .ok (.iload 9, 2) := by decide +kernel
theorem dL_holds_549 : decode cL_holds 549 = .ok (.bipush 8, 2) := by decide +kernel
theorem dL_holds_551 : decode cL_holds 551 = .ok (.invokevirtual 179, 3) := by decide +kernel
theorem dL_holds_554 : decode cL_holds 554 = .ok (.bipush (-4), 2) := by decide +kernel
theorem dL_holds_556 : decode cL_holds 556 = .ok (.if_icmp .eq 5, 3) := by decide +kernel
theorem dL_holds_559 : decode cL_holds 559 = .ok (.iconst 0, 1) := by decide +kernel
theorem dL_holds_560 : decode cL_holds 560 = .ok (.ireturn, 1) := by decide +kernel
theorem dL_holds_561 : decode cL_holds 561 = .ok (.aload_n 0, 1) := by decide +kernel
theorem dL_holds_562 : decode cL_holds 562 = .ok (.getfield 10, 3) := by decide +kernel
theorem dL_holds_565 : decode cL_holds 565 = .ok (.iload 9, 2) := by decide +kernel
theorem dL_holds_567 : decode cL_holds 567 = .ok (.aload_n 0, 1) := by decide +kernel
theorem dL_holds_568 : decode cL_holds 568 = .ok (.getfield 10, 3) := by decide +kernel
theorem dL_holds_571 : decode cL_holds 571 = .ok (.iload 9, 2) := by decide +kernel
theorem dL_holds_573 : decode cL_holds 573 = .ok (.invokevirtual 203, 3) := by decide +kernel
theorem dL_holds_576 : decode cL_holds 576 = .ok (.invokevirtual 205, 3) := by decide +kernel
theorem dL_holds_579 : decode cL_holds 579 = .ok (.aload_n 0, 1) := by decide +kernel
theorem dL_holds_580 : decode cL_holds 580 = .ok (.getfield 10, 3) := by decide +kernel
theorem dL_holds_583 : decode cL_holds 583 = .ok (.iload 9, 2) := by decide +kernel
theorem dL_holds_585 : decode cL_holds 585 = .ok (.iconst 1, 1) := by decide +kernel
theorem dL_holds_586 : decode cL_holds 586 = .ok (.invokevirtual 179, 3) := by decide +kernel
theorem dL_holds_589 : decode cL_holds 589 = .ok (.if_icmp .ne 29, 3) := by decide +kernel
theorem dL_holds_592 : decode cL_holds 592 = .ok (.aload_n 0, 1) := by decide +kernel
theorem dL_holds_593 : decode cL_holds 593 = .ok (.getfield 10, 3) := by decide +kernel
theorem dL_holds_596 : decode cL_holds 596 = .ok (.iload 9, 2) := by decide +kernel
theorem dL_holds_598 : decode cL_holds 598 = .ok (.invokevirtual 206, 3) := by decide +kernel
theorem dL_holds_601 : decode cL_holds 601 = .ok (.bipush 99, 2) := by decide +kernel
theorem dL_holds_603 : decode cL_holds 603 = .ok (.if_icmp .gt 15, 3) := by decide +kernel
theorem dL_holds_606 : decode cL_holds 606 = .ok (.aload_n 0, 1) := by decide +kernel
theorem dL_holds_607 : decode cL_holds 607 = .ok (.getfield 10, 3) := by decide +kernel
theorem dL_holds_610 : decode cL_holds 610 = .ok (.iload 9, 2) := by decide +kernel
theorem dL_holds_612 : decode cL_holds 612 = .ok (.invokevirtual 206, 3) := by decide +kernel
theorem dL_holds_615 : decode cL_holds 615 = .ok (.ifCond .ge 5, 3) := by decide +kernel
theorem dL_holds_618 : decode cL_holds 618 = .ok (.iconst 0, 1) := by decide +kernel
theorem dL_holds_619 : decode cL_holds 619 = .ok (.ireturn, 1) := by decide +kernel
theorem dL_holds_620 : decode cL_holds 620 = .ok (.iinc 9 1, 3) := by decide +kernel
theorem dL_holds_623 : decode cL_holds 623 = .ok (.goto (-580), 3) := by decide +kernel
theorem dL_holds_626 : decode cL_holds 626 = .ok (.iload_n 2, 1) := by decide +kernel
theorem dL_holds_627 : decode cL_holds 627 = .ok (.iload_n 3, 1) := by decide +kernel
theorem dL_holds_628 : decode cL_holds 628 = .ok (.iload 4, 2) := by decide +kernel
theorem dL_holds_630 : decode cL_holds 630 = .ok (.isub, 1) := by decide +kernel
theorem dL_holds_631 : decode cL_holds 631 = .ok (.if_icmp .ne 119, 3) := by decide +kernel
theorem dL_holds_634 : decode cL_holds 634 = .ok (.aload_n 0, 1) := by decide +kernel
theorem dL_holds_635 : decode cL_holds 635 = .ok (.getfield 10, 3) := by decide +kernel
theorem dL_holds_638 : decode cL_holds 638 = .ok (.iconst 0, 1) := by decide +kernel
theorem dL_holds_639 : decode cL_holds 639 = .ok (.invokevirtual 208, 3) := by decide +kernel
theorem dL_holds_642 : decode cL_holds 642 = .ok (.aload 8, 2) := by decide +kernel
theorem dL_holds_644 : decode cL_holds 644 = .ok (.iconst 1, 1) := by decide +kernel
theorem dL_holds_645 : decode cL_holds 645 = .ok (.iaload, 1) := by decide +kernel
theorem dL_holds_646 : decode cL_holds 646 = .ok (.if_icmp .ne 104, 3) := by decide +kernel
theorem dL_holds_649 : decode cL_holds 649 = .ok (.aload_n 0, 1) := by decide +kernel
theorem dL_holds_650 : decode cL_holds 650 = .ok (.getfield 10, 3) := by decide +kernel
theorem dL_holds_653 : decode cL_holds 653 = .ok (.iconst 1, 1) := by decide +kernel
theorem dL_holds_654 : decode cL_holds 654 = .ok (.invokevirtual 208, 3) := by decide +kernel
theorem dL_holds_657 : decode cL_holds 657 = .ok (.aload 8, 2) := by decide +kernel
theorem dL_holds_659 : decode cL_holds 659 = .ok (.iconst 2, 1) := by decide +kernel
theorem dL_holds_660 : decode cL_holds 660 = .ok (.iaload, 1) := by decide +kernel
theorem dL_holds_661 : decode cL_holds 661 = .ok (.if_icmp .ne 89, 3) := by decide +kernel
theorem dL_holds_664 : decode cL_holds 664 = .ok (.aload_n 0, 1) := by decide +kernel
theorem dL_holds_665 : decode cL_holds 665 = .ok (.getfield 10, 3) := by decide +kernel
theorem dL_holds_668 : decode cL_holds 668 = .ok (.iconst 2, 1) := by decide +kernel
theorem dL_holds_669 : decode cL_holds 669 = .ok (.invokevirtual 208, 3) := by decide +kernel
theorem dL_holds_672 : decode cL_holds 672 = .ok (.aload 8, 2) := by decide +kernel
theorem dL_holds_674 : decode cL_holds 674 = .ok (.iconst 0, 1) := by decide +kernel
theorem dL_holds_675 : decode cL_holds 675 = .ok (.iaload, 1) := by decide +kernel
theorem dL_holds_676 : decode cL_holds 676 = .ok (.if_icmp .ne 74, 3) := by decide +kernel
theorem dL_holds_679 : decode cL_holds 679 = .ok (.aload_n 0, 1) := by decide +kernel
theorem dL_holds_680 : decode cL_holds 680 = .ok (.getfield 10, 3) := by decide +kernel
theorem dL_holds_683 : decode cL_holds 683 = .ok (.iconst 3, 1) := by decide +kernel
theorem dL_holds_684 : decode cL_holds 684 = .ok (.invokevirtual 208, 3) := by decide +kernel
theorem dL_holds_687 : decode cL_holds 687 = .ok (.iload 5, 2) := by decide +kernel
theorem dL_holds_689 : decode cL_holds 689 = .ok (.if_icmp .ne 61, 3) := by decide +kernel
theorem dL_holds_692 : decode cL_holds 692 = .ok (.aload_n 0, 1) := by decide +kernel
theorem dL_holds_693 : decode cL_holds 693 = .ok (.getfield 10, 3) := by decide +kernel
theorem dL_holds_696 : decode cL_holds 696 = .ok (.iconst 4, 1) := by decide +kernel
theorem dL_holds_697 : decode cL_holds 697 = .ok (.invokevirtual 208, 3) := by decide +kernel
theorem dL_holds_700 : decode cL_holds 700 = .ok (.iload 6, 2) := by decide +kernel
theorem dL_holds_702 : decode cL_holds 702 = .ok (.if_icmp .ne 48, 3) := by decide +kernel
theorem dL_holds_705 : decode cL_holds 705 = .ok (.aload_n 0, 1) := by decide +kernel
theorem dL_holds_706 : decode cL_holds 706 = .ok (.getfield 10, 3) := by decide +kernel
theorem dL_holds_709 : decode cL_holds 709 = .ok (.iconst 5, 1) := by decide +kernel
theorem dL_holds_710 : decode cL_holds 710 = .ok (.invokevirtual 208, 3) := by decide +kernel
theorem dL_holds_713 : decode cL_holds 713 = .ok (.iload 7, 2) := by decide +kernel
theorem dL_holds_715 : decode cL_holds 715 = .ok (.if_icmp .ne 35, 3) := by decide +kernel
theorem dL_holds_718 : decode cL_holds 718 = .ok (.aload_n 0, 1) := by decide +kernel
theorem dL_holds_719 : decode cL_holds 719 = .ok (.getfield 10, 3) := by decide +kernel
theorem dL_holds_722 : decode cL_holds 722 = .ok (.invokevirtual 211, 3) := by decide +kernel
theorem dL_holds_725 : decode cL_holds 725 = .ok (.aload_n 0, 1) := by decide +kernel
theorem dL_holds_726 : decode cL_holds 726 = .ok (.getfield 128, 3) := by decide +kernel
theorem dL_holds_729 : decode cL_holds 729 = .ok (.if_icmp .gt 21, 3) := by decide +kernel
theorem dL_holds_732 : decode cL_holds 732 = .ok (.aload_n 0, 1) := by decide +kernel
theorem dL_holds_733 : decode cL_holds 733 = .ok (.getfield 10, 3) := by decide +kernel
theorem dL_holds_736 : decode cL_holds 736 = .ok (.aload_n 0, 1) := by decide +kernel
theorem dL_holds_737 : decode cL_holds 737 = .ok (.getfield 10, 3) := by decide +kernel
theorem dL_holds_740 : decode cL_holds 740 = .ok (.iconst 4, 1) := by decide +kernel
theorem dL_holds_741 : decode cL_holds 741 = .ok (.invokevirtual 188, 3) := by decide +kernel
theorem dL_holds_744 : decode cL_holds 744 = .ok (.invokevirtual 215, 3) := by decide +kernel
theorem dL_holds_747 : decode cL_holds 747 = .ok (.ifCond .eq 5, 3) := by decide +kernel
theorem dL_holds_750 : decode cL_holds 750 = .ok (.iconst 0, 1) := by decide +kernel
theorem dL_holds_751 : decode cL_holds 751 = .ok (.ireturn, 1) := by decide +kernel
theorem dL_holds_752 : decode cL_holds 752 = .ok (.dconst 0, 1) := by decide +kernel
theorem dL_holds_753 : decode cL_holds 753 = .ok (.dstore 9, 2) := by decide +kernel
theorem dL_holds_755 : decode cL_holds 755 = .ok (.iconst 0, 1) := by decide +kernel
theorem dL_holds_756 : decode cL_holds 756 = .ok (.istore 11, 2) := by decide +kernel
theorem dL_holds_758 : decode cL_holds 758 = .ok (.iload 11, 2) := by decide +kernel
theorem dL_holds_760 : decode cL_holds 760 = .ok (.aload_n 0, 1) := by decide +kernel
theorem dL_holds_761 : decode cL_holds 761 = .ok (.getfield 128, 3) := by decide +kernel
theorem dL_holds_764 : decode cL_holds 764 = .ok (.if_icmp .ge 157, 3) := by decide +kernel
theorem dL_holds_767 : decode cL_holds 767 = .ok (.aload_n 0, 1) := by decide +kernel
theorem dL_holds_768 : decode cL_holds 768 = .ok (.getfield 10, 3) := by decide +kernel
theorem dL_holds_771 : decode cL_holds 771 = .ok (.iload 11, 2) := by decide +kernel
theorem dL_holds_773 : decode cL_holds 773 = .ok (.iconst 0, 1) := by decide +kernel
theorem dL_holds_774 : decode cL_holds 774 = .ok (.invokevirtual 218, 3) := by decide +kernel
theorem dL_holds_777 : decode cL_holds 777 = .ok (.l2d, 1) := by decide +kernel
theorem dL_holds_778 : decode cL_holds 778 = .ok (.aload_n 0, 1) := by decide +kernel
theorem dL_holds_779 : decode cL_holds 779 = .ok (.getfield 10, 3) := by decide +kernel
theorem dL_holds_782 : decode cL_holds 782 = .ok (.iload 11, 2) := by decide +kernel
theorem dL_holds_784 : decode cL_holds 784 = .ok (.iconst 1, 1) := by decide +kernel
theorem dL_holds_785 : decode cL_holds 785 = .ok (.invokevirtual 218, 3) := by decide +kernel
theorem dL_holds_788 : decode cL_holds 788 = .ok (.l2d, 1) := by decide +kernel
theorem dL_holds_789 : decode cL_holds 789 = .ok (.ddiv, 1) := by decide +kernel
theorem dL_holds_790 : decode cL_holds 790 = .ok (.dstore 12, 2) := by decide +kernel
theorem dL_holds_792 : decode cL_holds 792 = .ok (.dload 9, 2) := by decide +kernel
theorem dL_holds_794 : decode cL_holds 794 = .ok (.dload 12, 2) := by decide +kernel
theorem dL_holds_796 : decode cL_holds 796 = .ok (.dadd, 1) := by decide +kernel
theorem dL_holds_797 : decode cL_holds 797 = .ok (.dstore 9, 2) := by decide +kernel
theorem dL_holds_799 : decode cL_holds 799 = .ok (.aload_n 0, 1) := by decide +kernel
theorem dL_holds_800 : decode cL_holds 800 = .ok (.getfield 10, 3) := by decide +kernel
theorem dL_holds_803 : decode cL_holds 803 = .ok (.iload 11, 2) := by decide +kernel
theorem dL_holds_805 : decode cL_holds 805 = .ok (.iconst 0, 1) := by decide +kernel
theorem dL_holds_806 : decode cL_holds 806 = .ok (.invokevirtual 222, 3) := by decide +kernel
theorem dL_holds_809 : decode cL_holds 809 = .ok (.istore 14, 2) := by decide +kernel
theorem dL_holds_811 : decode cL_holds 811 = .ok (.dload 12, 2) := by decide +kernel
theorem dL_holds_813 : decode cL_holds 813 = .ok (.dconst 0, 1) := by decide +kernel
theorem dL_holds_814 : decode cL_holds 814 = .ok (.dcmp .g, 1) := by decide +kernel
theorem dL_holds_815 : decode cL_holds 815 = .ok (.ifCond .lt 98, 3) := by decide +kernel
theorem dL_holds_818 : decode cL_holds 818 = .ok (.dload 12, 2) := by decide +kernel
theorem dL_holds_820 : decode cL_holds 820 = .ok (.dconst 1, 1) := by decide +kernel
theorem dL_holds_821 : decode cL_holds 821 = .ok (.dcmp .l, 1) := by decide +kernel
theorem dL_holds_822 : decode cL_holds 822 = .ok (.ifCond .gt 91, 3) := by decide +kernel
theorem dL_holds_825 : decode cL_holds 825 = .ok (.iload 14, 2) := by decide +kernel
theorem dL_holds_827 : decode cL_holds 827 = .ok (.ifCond .lt 86, 3) := by decide +kernel
theorem dL_holds_830 : decode cL_holds 830 = .ok (.iload 14, 2) := by decide +kernel
theorem dL_holds_832 : decode cL_holds 832 = .ok (.bipush 19, 2) := by decide +kernel
theorem dL_holds_834 : decode cL_holds 834 = .ok (.if_icmp .gt 79, 3) := by decide +kernel
theorem dL_holds_837 : decode cL_holds 837 = .ok (.iload 14, 2) := by decide +kernel
theorem dL_holds_839 : decode cL_holds 839 = .ok (.ifCond .ne 7, 3) := by decide +kernel
theorem dL_holds_842 : decode cL_holds 842 = .ok (.iconst 1, 1) := by decide +kernel
theorem dL_holds_843 : decode cL_holds 843 = .ok (.goto 4, 3) := by decide +kernel
theorem dL_holds_846 : decode cL_holds 846 = .ok (.iconst 0, 1) := by decide +kernel
theorem dL_holds_847 : decode cL_holds 847 = .ok (.aload_n 0, 1) := by decide +kernel
theorem dL_holds_848 : decode cL_holds 848 = .ok (.getfield 10, 3) := by decide +kernel
theorem dL_holds_851 : decode cL_holds 851 = .ok (.iload 11, 2) := by decide +kernel
theorem dL_holds_853 : decode cL_holds 853 = .ok (.iconst 1, 1) := by decide +kernel
theorem dL_holds_854 : decode cL_holds 854 = .ok (.invokevirtual 222, 3) := by decide +kernel
theorem dL_holds_857 : decode cL_holds 857 = .ok (.bipush (-4), 2) := by decide +kernel
theorem dL_holds_859 : decode cL_holds 859 = .ok (.if_icmp .ne 7, 3) := by decide +kernel
theorem dL_holds_862 : decode cL_holds 862 = .ok (.iconst 1, 1) := by decide +kernel
theorem dL_holds_863 : decode cL_holds 863 = .ok (.goto 4, 3) := by decide +kernel
theorem dL_holds_866 : decode cL_holds 866 = .ok (.iconst 0, 1) := by decide +kernel
theorem dL_holds_867 : decode cL_holds 867 = .ok (.if_icmp .ne 46, 3) := by decide +kernel
theorem dL_holds_870 : decode cL_holds 870 = .ok (.aload_n 0, 1) := by decide +kernel
theorem dL_holds_871 : decode cL_holds 871 = .ok (.getfield 10, 3) := by decide +kernel
theorem dL_holds_874 : decode cL_holds 874 = .ok (.iload 11, 2) := by decide +kernel
theorem dL_holds_876 : decode cL_holds 876 = .ok (.invokevirtual 225, 3) := by decide +kernel
theorem dL_holds_879 : decode cL_holds 879 = .ok (.aload_n 0, 1) := by decide +kernel
theorem dL_holds_880 : decode cL_holds 880 = .ok (.getfield 18, 3) := by decide +kernel
theorem dL_holds_883 : decode cL_holds 883 = .ok (.iload 11, 2) := by decide +kernel
theorem dL_holds_885 : decode cL_holds 885 = .ok (.aaload, 1) := by decide +kernel
theorem dL_holds_886 : decode cL_holds 886 = .ok (.iconst 3, 1) := by decide +kernel
theorem dL_holds_887 : decode cL_holds 887 = .ok (.iaload, 1) := by decide +kernel
theorem dL_holds_888 : decode cL_holds 888 = .ok (.ishr, 1) := by decide +kernel
theorem dL_holds_889 : decode cL_holds 889 = .ok (.iconst 1, 1) := by decide +kernel
theorem dL_holds_890 : decode cL_holds 890 = .ok (.iand, 1) := by decide +kernel
theorem dL_holds_891 : decode cL_holds 891 = .ok (.aload_n 0, 1) := by decide +kernel
theorem dL_holds_892 : decode cL_holds 892 = .ok (.getfield 10, 3) := by decide +kernel
theorem dL_holds_895 : decode cL_holds 895 = .ok (.iload 11, 2) := by decide +kernel
theorem dL_holds_897 : decode cL_holds 897 = .ok (.iconst 0, 1) := by decide +kernel
theorem dL_holds_898 : decode cL_holds 898 = .ok (.invokevirtual 179, 3) := by decide +kernel
theorem dL_holds_901 : decode cL_holds 901 = .ok (.iconst 1, 1) := by decide +kernel
theorem dL_holds_902 : decode cL_holds 902 = .ok (.if_icmp .ne 7, 3) := by decide +kernel
theorem dL_holds_905 : decode cL_holds 905 = .ok (.iconst 1, 1) := by decide +kernel
theorem dL_holds_906 : decode cL_holds 906 = .ok (.goto 4, 3) := by decide +kernel
theorem dL_holds_909 : decode cL_holds 909 = .ok (.iconst 0, 1) := by decide +kernel
theorem dL_holds_910 : decode cL_holds 910 = .ok (.if_icmp .eq 5, 3) := by decide +kernel
theorem dL_holds_913 : decode cL_holds 913 = .ok (.iconst 0, 1) := by decide +kernel
theorem dL_holds_914 : decode cL_holds 914 = .ok (.ireturn, 1) := by decide +kernel
theorem dL_holds_915 : decode cL_holds 915 = .ok (.iinc 11 1, 3) := by decide +kernel
theorem dL_holds_918 : decode cL_holds 918 = .ok (.goto (-160), 3) := by decide +kernel
theorem dL_holds_921 : decode cL_holds 921 = .ok (.dload 9, 2) := by decide +kernel
theorem dL_holds_923 : decode cL_holds 923 = .ok (.aload_n 0, 1) := by decide +kernel
theorem dL_holds_924 : decode cL_holds 924 = .ok (.getfield 10, 3) := by decide +kernel
theorem dL_holds_927 : decode cL_holds 927 = .ok (.iconst 0, 1) := by decide +kernel
theorem dL_holds_928 : decode cL_holds 928 = .ok (.invokevirtual 228, 3) := by decide +kernel
theorem dL_holds_931 : decode cL_holds 931 = .ok (.l2d, 1) := by decide +kernel
theorem dL_holds_932 : decode cL_holds 932 = .ok (.aload_n 0, 1) := by decide +kernel
theorem dL_holds_933 : decode cL_holds 933 = .ok (.getfield 10, 3) := by decide +kernel
theorem dL_holds_936 : decode cL_holds 936 = .ok (.iconst 1, 1) := by decide +kernel
theorem dL_holds_937 : decode cL_holds 937 = .ok (.invokevirtual 228, 3) := by decide +kernel
theorem dL_holds_940 : decode cL_holds 940 = .ok (.l2d, 1) := by decide +kernel
theorem dL_holds_941 : decode cL_holds 941 = .ok (.ddiv, 1) := by decide +kernel
theorem dL_holds_942 : decode cL_holds 942 = .ok (.dsub, 1) := by decide +kernel
theorem dL_holds_943 : decode cL_holds 943 = .ok (.invokestatic 232, 3) := by decide +kernel
theorem dL_holds_946 : decode cL_holds 946 = .ok (.ldc2_w 235, 3) := by decide +kernel
theorem dL_holds_949 : decode cL_holds 949 = .ok (.dcmp .l, 1) := by decide +kernel
theorem dL_holds_950 : decode cL_holds 950 = .ok (.ifCond .le 5, 3) := by decide +kernel
theorem dL_holds_953 : decode cL_holds 953 = .ok (.iconst 0, 1) := by decide +kernel
theorem dL_holds_954 : decode cL_holds 954 = .ok (.ireturn, 1) := by decide +kernel
theorem dL_holds_955 : decode cL_holds 955 = .ok (.aload_n 0, 1) := by decide +kernel
theorem dL_holds_956 : decode cL_holds 956 = .ok (.getfield 10, 3) := by decide +kernel
theorem dL_holds_959 : decode cL_holds 959 = .ok (.iconst 0, 1) := by decide +kernel
theorem dL_holds_960 : decode cL_holds 960 = .ok (.iconst 0, 1) := by decide +kernel
theorem dL_holds_961 : decode cL_holds 961 = .ok (.invokevirtual 237, 3) := by decide +kernel
theorem dL_holds_964 : decode cL_holds 964 = .ok (.ifCond .ne 39, 3) := by decide +kernel
theorem dL_holds_967 : decode cL_holds 967 = .ok (.aload_n 0, 1) := by decide +kernel
theorem dL_holds_968 : decode cL_holds 968 = .ok (.getfield 10, 3) := by decide +kernel
theorem dL_holds_971 : decode cL_holds 971 = .ok (.iconst 0, 1) := by decide +kernel
theorem dL_holds_972 : decode cL_holds 972 = .ok (.invokevirtual 240, 3) := by decide +kernel
theorem dL_holds_975 : decode cL_holds 975 = .ok (.ifCond .ne 28, 3) := by decide +kernel
theorem dL_holds_978 : decode cL_holds 978 = .ok (.aload_n 0, 1) := by decide +kernel
theorem dL_holds_979 : decode cL_holds 979 = .ok (.getfield 131, 3) := by decide +kernel
theorem dL_holds_982 : decode cL_holds 982 = .ok (.ifCond .ne 23, 3) := by decide +kernel
theorem dL_holds_985 : decode cL_holds 985 = .ok (.aload_n 0, 1) := by decide +kernel
theorem dL_holds_986 : decode cL_holds 986 = .ok (.getfield 128, 3) := by decide +kernel
theorem dL_holds_989 : decode cL_holds 989 = .ok (.ifCond .le 16, 3) := by decide +kernel
theorem dL_holds_992 : decode cL_holds 992 = .ok (.aload_n 0, 1) := by decide +kernel
theorem dL_holds_993 : decode cL_holds 993 = .ok (.getfield 10, 3) := by decide +kernel
theorem dL_holds_996 : decode cL_holds 996 = .ok (.iconst 1, 1) := by decide +kernel
theorem dL_holds_997 : decode cL_holds 997 = .ok (.invokevirtual 240, 3) := by decide +kernel
theorem dL_holds_1000 : decode cL_holds 1000 = .ok (.ifCond .eq 5, 3) := by decide +kernel
theorem dL_holds_1003 : decode cL_holds 1003 = .ok (.iconst 0, 1) := by decide +kernel
theorem dL_holds_1004 : decode cL_holds 1004 = .ok (.ireturn, 1) := by decide +kernel
theorem dL_holds_1005 : decode cL_holds 1005 = .ok (.aload_n 0, 1) := by decide +kernel
theorem dL_holds_1006 : decode cL_holds 1006 = .ok (.getfield 10, 3) := by decide +kernel
theorem dL_holds_1009 : decode cL_holds 1009 = .ok (.iconst 0, 1) := by decide +kernel
theorem dL_holds_1010 : decode cL_holds 1010 = .ok (.invokevirtual 243, 3) := by decide +kernel
theorem dL_holds_1013 : decode cL_holds 1013 = .ok (.istore 11, 2) := by decide +kernel
theorem dL_holds_1015 : decode cL_holds 1015 = .ok (.aload_n 0, 1) := by decide +kernel
theorem dL_holds_1016 : decode cL_holds 1016 = .ok (.getfield 10, 3) := by decide +kernel
theorem dL_holds_1019 : decode cL_holds 1019 = .ok (.iconst 1, 1) := by decide +kernel
theorem dL_holds_1020 : decode cL_holds 1020 = .ok (.invokevirtual 243, 3) := by decide +kernel
theorem dL_holds_1023 : decode cL_holds 1023 = .ok (.istore 12, 2) := by decide +kernel
theorem dL_holds_1025 : decode cL_holds 1025 = .ok (.iload 11, 2) := by decide +kernel
theorem dL_holds_1027 : decode cL_holds 1027 = .ok (.bipush (-4), 2) := by decide +kernel
theorem dL_holds_1029 : decode cL_holds 1029 = .ok (.if_icmp .ne 18, 3) := by decide +kernel
theorem dL_holds_1032 : decode cL_holds 1032 = .ok (.iload 12, 2) := by decide +kernel
theorem dL_holds_1034 : decode cL_holds 1034 = .ok (.bipush (-4), 2) := by decide +kernel
theorem dL_holds_1036 : decode cL_holds 1036 = .ok (.if_icmp .ne 7, 3) := by decide +kernel
theorem dL_holds_1039 : decode cL_holds 1039 = .ok (.iconst 1, 1) := by decide +kernel
theorem dL_holds_1040 : decode cL_holds 1040 = .ok (.goto 31, 3) := by decide +kernel
theorem dL_holds_1043 : decode cL_holds 1043 = .ok (.iconst 0, 1) := by decide +kernel
theorem dL_holds_1044 : decode cL_holds 1044 = .ok (.goto 27, 3) := by decide +kernel
theorem dL_holds_1047 : decode cL_holds 1047 = .ok (.iload 11, 2) := by decide +kernel
theorem dL_holds_1049 : decode cL_holds 1049 = .ok (.iload 12, 2) := by decide +kernel
theorem dL_holds_1051 : decode cL_holds 1051 = .ok (.if_icmp .le 19, 3) := by decide +kernel
theorem dL_holds_1054 : decode cL_holds 1054 = .ok (.iload 12, 2) := by decide +kernel
theorem dL_holds_1056 : decode cL_holds 1056 = .ok (.ifCond .lt 14, 3) := by decide +kernel
theorem dL_holds_1059 : decode cL_holds 1059 = .ok (.iload 11, 2) := by decide +kernel
theorem dL_holds_1061 : decode cL_holds 1061 = .ok (.bipush 40, 2) := by decide +kernel
theorem dL_holds_1063 : decode cL_holds 1063 = .ok (.if_icmp .gt 7, 3) := by decide +kernel
theorem dL_holds_1066 : decode cL_holds 1066 = .ok (.iconst 1, 1) := by decide +kernel
theorem dL_holds_1067 : decode cL_holds 1067 = .ok (.goto 4, 3) := by decide +kernel
theorem dL_holds_1070 : decode cL_holds 1070 = .ok (.iconst 0, 1) := by decide +kernel
theorem dL_holds_1071 : decode cL_holds 1071 = .ok (.ireturn, 1) := by decide +kernel
def b_L_holds_1070 (xL : Nat) (xs : Nat → Int32) (S : St) : Option (Int32 × St) := some (0, S)
def b_L_holds_1005 (xL : Nat) (xs : Nat → Int32) (S : St) : Option (Int32 × St) := (L_X11_again 0 S).bind fun r1 => gd (lq S r1.2) ((L_X11_again 1 r1.2).bind fun r3 => gd (lq r1.2 r3.2) ((if (r1.1 : Int32) = ((-4)) then (if (r3.1 : Int32) = ((-4)) then some (1, r3.2) else some (0, r3.2)) else (if (r1.1 : Int32) ≤ r3.1 then (b_L_holds_1070 xL xs r3.2) else (if (r3.1 : Int32) < 0 then (b_L_holds_1070 xL xs r3.2) else (if (40 : Int32) < r1.1 then (b_L_holds_1070 xL xs r3.2) else some (1, r3.2)))))))
def b_L_holds_921 (xL : Nat) (xs : Nat → Int32) (v9 : UInt64) (S : St) : Option (Int32 × St) := (L_X11_mean 0 S).bind fun r1 => gd (lq S r1.2) ((L_X11_mean 1 r1.2).bind fun r3 => gd (lq r1.2 r3.2) (gd (nn64 (FP.ddiv (FP.l2d r1.1) (FP.l2d r3.1))) (gd (nn64 (FP.dsub v9 (FP.ddiv (FP.l2d r1.1) (FP.l2d r3.1)))) (gd (nn64 (FP.dsub v9 (FP.ddiv (FP.l2d r1.1) (FP.l2d r3.1)))) ((if (Op.cmpValue (FP.dcmp (dabs (FP.dsub v9 (FP.ddiv (FP.l2d r1.1) (FP.l2d r3.1)))) 4517329193108106637) .l : Int32) ≤ 0 then (L_X11_turn 0 0 r3.2).bind fun r10 => gd (lq r3.2 r10.2) ((if (r10.1 : Int32) = 0 then (L_X11_guard 0 r10.2).bind fun r13 => gd (lq r10.2 r13.2) ((if (r13.1 : Int32) = 0 then (if (gi r13.2 136 5 : Int32) = 0 then (if (gi r13.2 136 1 : Int32) ≤ 0 then (b_L_holds_1005 xL xs r13.2) else (L_X11_guard 1 r13.2).bind fun r18 => gd (lq r13.2 r18.2) ((if (r18.1 : Int32) = 0 then (b_L_holds_1005 xL xs r18.2) else some (0, r18.2)))) else (b_L_holds_1005 xL xs r13.2)) else some (0, r13.2))) else some (0, r10.2))) else some (0, r3.2)))))))
def b_L_holds_910 (xL : Nat) (xs : Nat → Int32) (v9 : UInt64) (v11 : Int32) (s0 : Int32) (s1 : Int32) (S : St) : Option ((UInt64 × Int32 × St) ⊕ (Int32 × St)) := (if (s1 : Int32) = s0 then some (.inl (v9, (v11 + 1), S)) else some (.inr (0, S)))
def b_L_holds_867 (xL : Nat) (xs : Nat → Int32) (v9 : UInt64) (v11 : Int32) (s0 : Int32) (s1 : Int32) (S : St) : Option ((UInt64 × Int32 × St) ⊕ (Int32 × St)) := (if (s1 : Int32) = s0 then (L_X11_yes v11 S).bind fun r2 => gd (lq S r2.2) (gd (inb v11 8) ((gr r2.2 136 v11.toNatClampNeg).bind fun q5 => (dyl r2.2 q5).bind fun n7 => gd (inb 3 n7) ((L_X11_fate v11 0 r2.2).bind fun r8 => gd (lq r2.2 r8.2) ((if (r8.1 : Int32) = 1 then (b_L_holds_910 xL xs v9 v11 1 ((r2.1 >>> ((gi r2.2 q5 (3 : Int32).toNatClampNeg) &&& 31)) &&& 1) r8.2) else (b_L_holds_910 xL xs v9 v11 0 ((r2.1 >>> ((gi r2.2 q5 (3 : Int32).toNatClampNeg) &&& 31)) &&& 1) r8.2)))))) else some (.inr (0, S)))
def b_L_holds_847 (xL : Nat) (xs : Nat → Int32) (v9 : UInt64) (v11 : Int32) (s0 : Int32) (S : St) : Option ((UInt64 × Int32 × St) ⊕ (Int32 × St)) := (L_X11_moods v11 1 S).bind fun r1 => gd (lq S r1.2) ((if (r1.1 : Int32) = ((-4)) then (b_L_holds_867 xL xs v9 v11 1 s0 r1.2) else (b_L_holds_867 xL xs v9 v11 0 s0 r1.2)))
def b_L_holds_758 (xL : Nat) (xs : Nat → Int32) (v9 : UInt64) (v11 : Int32) (S : St) : Option ((UInt64 × Int32 × St) ⊕ (Int32 × St)) := (if (gi S 136 1 : Int32) ≤ v11 then ((b_L_holds_921 xL xs v9 S).map Sum.inr) else (L_X11_likely v11 0 S).bind fun r2 => gd (lq S r2.2) ((L_X11_likely v11 1 r2.2).bind fun r4 => gd (lq r2.2 r4.2) (gd (nn64 (FP.ddiv (FP.l2d r2.1) (FP.l2d r4.1))) (gd (nn64 (FP.dadd v9 (FP.ddiv (FP.l2d r2.1) (FP.l2d r4.1)))) ((L_X11_moods v11 0 r4.2).bind fun r8 => gd (lq r4.2 r8.2) ((if (Op.cmpValue (FP.dcmp (FP.ddiv (FP.l2d r2.1) (FP.l2d r4.1)) FP.dconst0) .g : Int32) < 0 then some (.inr (0, r8.2)) else (if (0 : Int32) < (Op.cmpValue (FP.dcmp (FP.ddiv (FP.l2d r2.1) (FP.l2d r4.1)) FP.dconst1) .l) then some (.inr (0, r8.2)) else (if (r8.1 : Int32) < 0 then some (.inr (0, r8.2)) else (if (19 : Int32) < r8.1 then some (.inr (0, r8.2)) else (if (r8.1 : Int32) = 0 then (b_L_holds_847 xL xs (FP.dadd v9 (FP.ddiv (FP.l2d r2.1) (FP.l2d r4.1))) v11 1 r8.2) else (b_L_holds_847 xL xs (FP.dadd v9 (FP.ddiv (FP.l2d r2.1) (FP.l2d r4.1))) v11 0 r8.2))))))))))))
def l_L_holds_758 (xL : Nat) (xs : Nat → Int32) (x : (UInt64 × Int32 × St)) : Option ((UInt64 × Int32 × St) ⊕ (Int32 × St)) := b_L_holds_758 xL xs x.1 x.2.1 x.2.2
def b_L_holds_626 (xL : Nat) (xs : Nat → Int32) (v2 : Int32) (v3 : Int32) (v4 : Int32) (v5 : Int32) (v6 : Int32) (v7 : Int32) (v8 : Nat) (S : St) : Option (Int32 × St) := (if (v2 : Int32) = (v3 - v4) then (L_X11_sums 0 S).bind fun r2 => gd (lq S r2.2) ((dyl r2.2 v8).bind fun n5 => gd (inb 1 n5) ((if (r2.1 : Int32) = (gi r2.2 v8 (1 : Int32).toNatClampNeg) then (L_X11_sums 1 r2.2).bind fun r7 => gd (lq r2.2 r7.2) ((dyl r7.2 v8).bind fun n10 => gd (inb 2 n10) ((if (r7.1 : Int32) = (gi r7.2 v8 (2 : Int32).toNatClampNeg) then (L_X11_sums 2 r7.2).bind fun r12 => gd (lq r7.2 r12.2) ((dyl r12.2 v8).bind fun n15 => gd (inb 0 n15) ((if (r12.1 : Int32) = (gi r12.2 v8 (0 : Int32).toNatClampNeg) then (L_X11_sums 3 r12.2).bind fun r17 => gd (lq r12.2 r17.2) ((if (r17.1 : Int32) = v5 then (L_X11_sums 4 r17.2).bind fun r20 => gd (lq r17.2 r20.2) ((if (r20.1 : Int32) = v6 then (L_X11_sums 5 r20.2).bind fun r23 => gd (lq r20.2 r23.2) ((if (r23.1 : Int32) = v7 then (L_X11_longest r23.2).bind fun r26 => gd (lq r23.2 r26.2) ((if (gi r26.2 136 1 : Int32) < r26.1 then some (0, r26.2) else (L_X11_count 4 r26.2).bind fun r29 => (L_X11_law r29 r26.2).bind fun r30 => gd (lq r26.2 r30.2) ((if (r30.1 : Int32) = 0 then (lp 1000 (l_L_holds_758 xL xs) (FP.dconst0, 0, r30.2)) else some (0, r30.2))))) else some (0, r23.2))) else some (0, r20.2))) else some (0, r17.2))) else some (0, r12.2)))) else some (0, r7.2)))) else some (0, r2.2)))) else some (0, S))
def b_L_holds_561 (xL : Nat) (xs : Nat → Int32) (v2 : Int32) (v3 : Int32) (v4 : Int32) (v5 : Int32) (v6 : Int32) (v7 : Int32) (v8 : Nat) (v9 : Int32) (S : St) : Option ((Int32 × Int32 × Int32 × Int32 × Int32 × Int32 × Nat × Int32 × St) ⊕ (Int32 × St)) := (L_X11_sum v9 S).bind fun r1 => gd (lq S r1.2) ((L_X11_strength v9 r1.1 r1.2).bind fun r3 => (L_X11_fate v9 1 r1.2).bind fun r4 => gd (lq r1.2 r4.2) ((if (r3 : Int32) = r4.1 then (L_X11_purse v9 r4.2).bind fun r7 => gd (lq r4.2 r7.2) ((if (99 : Int32) < r7.1 then some (.inr (0, r7.2)) else (L_X11_purse v9 r7.2).bind fun r10 => gd (lq r7.2 r10.2) ((if (0 : Int32) ≤ r10.1 then some (.inl (v2, v3, v4, v5, v6, v7, v8, (v9 + 1), r10.2)) else some (.inr (0, r10.2)))))) else some (.inr (0, r4.2)))))
def b_L_holds_517 (xL : Nat) (xs : Nat → Int32) (S : St) : Option (Int32 × St) := some (0, S)
def b_L_holds_425 (xL : Nat) (xs : Nat → Int32) (v2 : Int32) (v3 : Int32) (v4 : Int32) (v5 : Int32) (v6 : Int32) (v7 : Int32) (v8 : Nat) (v9 : Int32) (S : St) : Option ((Int32 × Int32 × Int32 × Int32 × Int32 × Int32 × Nat × Int32 × St) ⊕ (Int32 × St)) := (L_X11_fate v9 6 S).bind fun r1 => gd (lq S r1.2) ((L_X11_fate v9 5 r1.2).bind fun r3 => gd (lq r1.2 r3.2) ((L_X11_fate v9 5 r3.2).bind fun r5 => gd (lq r3.2 r5.2) ((if (r5.1 : Int32) = 1 then (L_X11_person v9 4 r5.2).bind fun r15 => (if (r1.1 : Int32) ≤ r15 then some (.inr (0, r5.2)) else (L_X11_count 3 r5.2).bind fun r17 => (if (r1.1 : Int32) < r17 then some (.inr (0, r5.2)) else (if (23 : Int32) < r1.1 then some (.inr (0, r5.2)) else (L_X11_fate v9 7 r5.2).bind fun r20 => gd (lq r5.2 r20.2) ((if (1 : Int32) ≤ r20.1 then (b_L_holds_561 xL xs v2 v3 v4 v5 v6 (v7 + r3.1) v8 v9 r20.2) else ((b_L_holds_517 xL xs r20.2).map Sum.inr)))))) else (if (r1.1 : Int32) = ((-4)) then (L_X11_fate v9 7 r5.2).bind fun r9 => gd (lq r5.2 r9.2) ((if (r9.1 : Int32) = ((-4)) then (L_X11_fate v9 8 r9.2).bind fun r12 => gd (lq r9.2 r12.2) ((if (r12.1 : Int32) = ((-4)) then (b_L_holds_561 xL xs v2 v3 v4 v5 v6 (v7 + r3.1) v8 v9 r12.2) else some (.inr (0, r12.2)))) else some (.inr (0, r9.2)))) else some (.inr (0, r5.2)))))))
def b_L_holds_416 (xL : Nat) (xs : Nat → Int32) (v2 : Int32) (v3 : Int32) (v4 : Int32) (v5 : Int32) (v6 : Int32) (v7 : Int32) (v8 : Nat) (v9 : Int32) (s0 : Int32) (S : St) : Option ((Int32 × Int32 × Int32 × Int32 × Int32 × Int32 × Nat × Int32 × St) ⊕ (Int32 × St)) := (if (s0 : Int32) = 0 then some (.inr (0, S)) else (b_L_holds_425 xL xs v2 v3 v4 v5 v6 v7 v8 v9 S))
def b_L_holds_415 (xL : Nat) (xs : Nat → Int32) (v2 : Int32) (v3 : Int32) (v4 : Int32) (v5 : Int32) (v6 : Int32) (v7 : Int32) (v8 : Nat) (v9 : Int32) (S : St) : Option ((Int32 × Int32 × Int32 × Int32 × Int32 × Int32 × Nat × Int32 × St) ⊕ (Int32 × St)) := (b_L_holds_416 xL xs v2 v3 v4 v5 v6 v7 v8 v9 0 S)
def b_L_holds_330 (xL : Nat) (xs : Nat → Int32) (v2 : Int32) (v3 : Int32) (v4 : Int32) (v5 : Int32) (v6 : Int32) (v7 : Int32) (v8 : Nat) (v9 : Int32) (S : St) : Option ((Int32 × Int32 × Int32 × Int32 × Int32 × Int32 × Nat × Int32 × St) ⊕ (Int32 × St)) := (b_L_holds_416 xL xs v2 v3 v4 v5 v6 v7 v8 v9 0 S)
def b_L_holds_323 (xL : Nat) (xs : Nat → Int32) (v2 : Int32) (v3 : Int32) (v4 : Int32) (v5 : Int32) (v6 : Int32) (v7 : Int32) (v8 : Nat) (v9 : Int32) (s0 : Int32) (s1 : Int32) (S : St) : Option ((Int32 × Int32 × Int32 × Int32 × Int32 × Int32 × Nat × Int32 × St) ⊕ (Int32 × St)) := (if (s1 : Int32) = s0 then (b_L_holds_416 xL xs v2 v3 v4 v5 v6 v7 v8 v9 1 S) else (b_L_holds_330 xL xs v2 v3 v4 v5 v6 v7 v8 v9 S))
def b_L_holds_258 (xL : Nat) (xs : Nat → Int32) (v2 : Int32) (v3 : Int32) (v5 : Int32) (v6 : Int32) (v7 : Int32) (v8 : Nat) (v9 : Int32) (v10 : Int32) (s0 : Int32) (s1 : Int32) (S : St) : Option ((Int32 × Int32 × Int32 × Int32 × Int32 × Int32 × Nat × Int32 × St) ⊕ (Int32 × St)) := (if (v10 : Int32) ≤ 7 then (L_X11_fate v10 8 S).bind fun r2 => gd (lq S r2.2) ((if (r2.1 : Int32) = v9 then (L_X11_chain v9 r2.2).bind fun r5 => gd (lq r2.2 r5.2) ((L_X11_chain v10 r5.2).bind fun r7 => gd (lq r5.2 r7.2) ((if (r5.1 : Int32) = (r7.1 + 1) then (L_X11_fate v10 5 r7.2).bind fun r10 => gd (lq r7.2 r10.2) ((if (r10.1 : Int32) = 1 then (L_X11_fate v10 6 r10.2).bind fun r13 => gd (lq r10.2 r13.2) ((L_X11_person v9 4 r13.2).bind fun r15 => (if (r15 : Int32) < r13.1 then (b_L_holds_415 xL xs v2 v3 (s1 + s0) v5 v6 v7 v8 v9 r13.2) else (b_L_holds_416 xL xs v2 v3 (s1 + s0) v5 v6 v7 v8 v9 1 r13.2))) else (b_L_holds_415 xL xs v2 v3 (s1 + s0) v5 v6 v7 v8 v9 r10.2))) else (b_L_holds_415 xL xs v2 v3 (s1 + s0) v5 v6 v7 v8 v9 r7.2)))) else (b_L_holds_415 xL xs v2 v3 (s1 + s0) v5 v6 v7 v8 v9 r2.2))) else (L_X11_chain v9 S).bind fun r17 => gd (lq S r17.2) ((if (r17.1 : Int32) = 1 then (if (gi r17.2 136 5 : Int32) ≤ (v10 - 8) then (b_L_holds_330 xL xs v2 v3 (s1 + s0) v5 v6 v7 v8 v9 r17.2) else (L_X11_fate v9 0 r17.2).bind fun r21 => gd (lq r17.2 r21.2) (gd (inb (v10 - 8) 4) ((gr r21.2 152 (v10 - 8).toNatClampNeg).bind fun q24 => (dyl r21.2 q24).bind fun n26 => gd (inb 1 n26) ((if (gi r21.2 q24 (1 : Int32).toNatClampNeg : Int32) ≤ 0 then (b_L_holds_323 xL xs v2 v3 (s1 + s0) v5 v6 v7 v8 v9 2 r21.1 r21.2) else (b_L_holds_323 xL xs v2 v3 (s1 + s0) v5 v6 v7 v8 v9 1 r21.1 r21.2)))))) else (b_L_holds_330 xL xs v2 v3 (s1 + s0) v5 v6 v7 v8 v9 r17.2))))
def b_L_holds_228 (xL : Nat) (xs : Nat → Int32) (v2 : Int32) (v3 : Int32) (v4 : Int32) (v5 : Int32) (v6 : Int32) (v7 : Int32) (v8 : Nat) (v9 : Int32) (v10 : Int32) (v11 : Int32) (S : St) : Option ((Int32 × Int32 × Int32 × Int32 × Int32 × Int32 × Nat × Int32 × St) ⊕ (Int32 × St)) := (if (v10 : Int32) < 0 then (b_L_holds_425 xL xs v2 v3 v4 v5 v6 v7 v8 v9 S) else (if (v10 : Int32) ≤ 7 then (b_L_holds_258 xL xs v2 v3 (v5 + 1) (v6 + v11) v7 v8 v9 v10 0 v4 S) else (b_L_holds_258 xL xs v2 v3 (v5 + 1) (v6 + v11) v7 v8 v9 v10 v11 v4 S)))
def b_L_holds_181 (xL : Nat) (xs : Nat → Int32) (S : St) : Option (Int32 × St) := some (0, S)
def b_L_holds_165 (xL : Nat) (xs : Nat → Int32) (v2 : Int32) (v3 : Int32) (v4 : Int32) (v5 : Int32) (v6 : Int32) (v7 : Int32) (v8 : Nat) (v9 : Int32) (v10 : Int32) (v11 : Int32) (s0 : Int32) (S : St) : Option ((Int32 × Int32 × Int32 × Int32 × Int32 × Int32 × Nat × Int32 × St) ⊕ (Int32 × St)) := (L_L_told xL xs s0 S).bind fun r1 => (L_X11_fate v9 0 S).bind fun r2 => gd (lq S r2.2) ((if (r1 : Int32) = r2.1 then (b_L_holds_228 xL xs v2 v3 v4 v5 v6 v7 v8 v9 v10 v11 r2.2) else ((b_L_holds_181 xL xs r2.2).map Sum.inr)))
def b_L_holds_43 (xL : Nat) (xs : Nat → Int32) (v2 : Int32) (v3 : Int32) (v4 : Int32) (v5 : Int32) (v6 : Int32) (v7 : Int32) (v8 : Nat) (v9 : Int32) (S : St) : Option ((Int32 × Int32 × Int32 × Int32 × Int32 × Int32 × Nat × Int32 × St) ⊕ (Int32 × St)) := (if (gi S 136 1 : Int32) ≤ v9 then ((b_L_holds_626 xL xs v2 v3 v4 v5 v6 v7 v8 S).map Sum.inr) else (L_X11_fate v9 2 S).bind fun r2 => gd (lq S r2.2) ((L_X11_fate v9 3 r2.2).bind fun r4 => gd (lq r2.2 r4.2) ((L_X11_fate v9 4 r4.2).bind fun r6 => gd (lq r4.2 r6.2) ((L_X11_fate v9 0 r6.2).bind fun r8 => gd (lq r6.2 r8.2) ((dyl r8.2 v8).bind fun n11 => gd (inb r8.1 n11) ((dyl r8.2 v8).bind fun n12 => gd (inb r8.1 n12) (nm (si r8.2 v8 r8.1.toNatClampNeg ((gi r8.2 v8 r8.1.toNatClampNeg) + 1)) fun S14 => (if (r2.1 : Int32) = ((-4)) then (if (r4.1 : Int32) = ((-4)) then (L_X11_chain v9 S14).bind fun r22 => gd (lq S14 r22.2) ((if (r22.1 : Int32) = 0 then (L_X11_sum v9 r22.2).bind fun r25 => gd (lq r22.2 r25.2) ((if (r25.1 : Int32) ≤ 0 then (L_X11_sum v9 r25.2).bind fun r28 => gd (lq r25.2 r28.2) ((if (0 : Int32) ≤ r28.1 then (b_L_holds_165 xL xs (v2 + r6.1) v3 v4 v5 v6 v7 v8 v9 r2.1 r4.1 0 r28.2) else (b_L_holds_165 xL xs (v2 + r6.1) v3 v4 v5 v6 v7 v8 v9 r2.1 r4.1 ((-1)) r28.2))) else (b_L_holds_165 xL xs (v2 + r6.1) v3 v4 v5 v6 v7 v8 v9 r2.1 r4.1 1 r25.2))) else some (.inr (0, r22.2)))) else some (.inr (0, S14))) else (if (r4.1 : Int32) < 0 then some (.inr (0, S14)) else (L_X11_person v9 5 S14).bind fun r17 => (if (r17 + (99 * (gi S14 136 1)) : Int32) < r4.1 then some (.inr (0, S14)) else (L_X11_person v9 0 S14).bind fun r19 => (if (r19 : Int32) = 3 then some (.inr (0, S14)) else (b_L_holds_228 xL xs (v2 + r6.1) v3 v4 v5 v6 v7 v8 v9 r2.1 r4.1 S14))))))))))))
def l_L_holds_43 (xL : Nat) (xs : Nat → Int32) (x : (Int32 × Int32 × Int32 × Int32 × Int32 × Int32 × Nat × Int32 × St)) : Option ((Int32 × Int32 × Int32 × Int32 × Int32 × Int32 × Nat × Int32 × St) ⊕ (Int32 × St)) := b_L_holds_43 xL xs x.1 x.2.1 x.2.2.1 x.2.2.2.1 x.2.2.2.2.1 x.2.2.2.2.2.1 x.2.2.2.2.2.2.1 x.2.2.2.2.2.2.2.1 x.2.2.2.2.2.2.2.2
def b_L_holds_0 (xL : Nat) (xs : Nat → Int32) (S : St) : Option (Int32 × St) := (L_L_begin xL xs 0 S).bind fun r1 => (if (r1.1 : Int32) = 0 then some (0, r1.2) else (L_X11_count 6 r1.2).bind fun r3 => gd (decide (183 ≤ tp r1.2)) (nm (tp r1.2) fun k5 => nm (san r1.2 3) fun S6 => (lp 1000 (l_L_holds_43 xL xs) (0, r3, 0, 0, 0, 0, k5, 0, S6))))
def L_L_holds (xL : Nat) (xs : Nat → Int32) (S : St) : Option (Int32 × St) := b_L_holds_0 xL xs S
section WALKS
variable {p : Program} {e : Env} {s : State} {m : MethodId} {args : Array Value} {below : List Frame} {meth : Method} {c : Code} {D : va_G} {ct : Nat → ClassId} {P0 : Nat} {Hb : Heap} {xb : Nat} {adK adV : Nat → Nat}
set_option maxRecDepth 100000 in
set_option maxHeartbeats 4000000 in
theorem w_L_holds_1070 (l : Launch) {V : Int32 × St} (C0 : XC D ct p s m args meth c cL_holds 15 (some .boolean) RL) (xL : Nat) (xs : Nat → Int32) (hE : XS xb xL xs adK adV P0 s) (S : St) {H : Heap} {locs : List Loc} {ls : Array Slot} {cells slots : Nat} (h : (b_L_holds_1070 xL xs S).bind some = some V) (hP : ML D ct P0 Hb S H) (hS : va_S (AB P0) s.heap H locs) (hl : lv_has ls 15 []) (hc : cells + 0 ≤ 236 ∧ slots + 10 * 0 ≤ 2360) : W p l e { frames := 11, cells := 236, slots := 2360, locals := 251 } s m args below meth c H locs cells slots (MQ below (qLIw D ct P0 Hb V) args s 236 2360 (AB P0)) (F0 m 1070 ls []) := by
  obtain ⟨hx, hb, hr, hml, hown, hts, hK, hlocks, hN⟩ := id C0
  unfold b_L_holds_1070 at h
  refine lv_iconst (v := 0) hx hb dL_holds_1070 (by decide) ?_
  refine W.widen (k := 236) (n := 2360) (by omega) (by omega) ?_
  exact rl_Zw C0 hP hS bool_0 h dL_holds_1071
set_option maxRecDepth 100000 in
set_option maxHeartbeats 4000000 in
theorem w_L_holds_1005 (l : Launch) {V : Int32 × St} (C0 : XC D ct p s m args meth c cL_holds 15 (some .boolean) RL) (xL : Nat) (xs : Nat → Int32) (hE : XS xb xL xs adK adV P0 s) (S : St) {H : Heap} {locs : List Loc} {ls : Array Slot} {cells slots : Nat} (h : (b_L_holds_1005 xL xs S).bind some = some V) (hP : ML D ct P0 Hb S H) (hS : va_S (AB P0) s.heap H locs) (hl : lv_has ls 15 [(0, .ref P0)]) (hc : cells + 0 ≤ 236 ∧ slots + 10 * 0 ≤ 2360) : W p l e { frames := 11, cells := 236, slots := 2360, locals := 251 } s m args below meth c H locs cells slots (MQ below (qLIw D ct P0 Hb V) args s 236 2360 (AB P0)) (F0 m 1005 ls []) := by
  obtain ⟨hx, hb, hr, hml, hown, hts, hK, hlocks, hN⟩ := id C0
  unfold b_L_holds_1005 at h
  refine lv_aload_n hx hb dL_holds_1005 rfl (lv_at hl 0 rfl) ?_
  refine xl_get (v := .ref (P0 + 1 + 0)) C0 hP 0 (by decide) wd_249 rfl rfl dL_holds_1006 ?_
  refine lv_iconst (v := 0) hx hb dL_holds_1009 (by decide) ?_
  obtain ⟨r1, hr1, h⟩ := ob_bd h
  obtain ⟨g2, h⟩ := ob_gd h
  refine nl_Iw (kV (As := [.int 0]) C0 (c_X11_again l 0 hr1) ⟨wd_934, wd_931, wd_932, wd_933, wd_1⟩ kd_X11_again ⟨Nat.le_of_ble_eq_true rfl, Nat.le_of_ble_eq_true rfl⟩ hP.1 (lay_X11 (P0 + 1) ct S) rfl rfl hl.1 rfl (Nat.le_of_ble_eq_true rfl) dL_holds_1010 ⟨by show _ + _ ≤ 236; omega, by show _ + _ ≤ 2360; omega⟩) hP g2 hS (fun H locs hP hS => ?_)
  refine lv_istore (lv' := [(11, .int r1.1), (0, .ref P0)]) hx hb dL_holds_1013 hl (by decide) rfl (fun ls hl => ?_)
  refine lv_aload_n hx hb dL_holds_1015 rfl (lv_at hl 1 rfl) ?_
  refine xl_get (v := .ref (P0 + 1 + 0)) C0 hP 0 (by decide) wd_249 rfl rfl dL_holds_1016 ?_
  refine lv_iconst (v := 1) hx hb dL_holds_1019 (by decide) ?_
  obtain ⟨r3, hr3, h⟩ := ob_bd h
  obtain ⟨g4, h⟩ := ob_gd h
  refine nl_Iw (kV (As := [.int 1]) C0 (c_X11_again l 1 hr3) ⟨wd_934, wd_931, wd_932, wd_933, wd_1⟩ kd_X11_again ⟨Nat.le_of_ble_eq_true rfl, Nat.le_of_ble_eq_true rfl⟩ hP.1 (lay_X11 (P0 + 1) ct r1.2) rfl rfl hl.1 rfl (Nat.le_of_ble_eq_true rfl) dL_holds_1020 ⟨by show _ + _ ≤ 236; omega, by show _ + _ ≤ 2360; omega⟩) hP g4 hS (fun H locs hP hS => ?_)
  refine lv_istore (lv' := [(12, .int r3.1), (11, .int r1.1), (0, .ref P0)]) hx hb dL_holds_1023 hl (by decide) rfl (fun ls hl => ?_)
  refine lv_iload hx hb dL_holds_1025 (lv_at hl 1 rfl) ?_
  refine lv_bipush (v := (-4)) hx hb dL_holds_1027 (by decide) ?_
  refine lv_icmp_ne (tgt := 1047) hx hb dL_holds_1029 (by decide) (fun z5 => ?_) (fun z5 => ?_)
  · have h := ob_f h z5
    refine lv_iload hx hb dL_holds_1047 (lv_at hl 1 rfl) ?_
    refine lv_iload hx hb dL_holds_1049 (lv_at hl 0 rfl) ?_
    refine lv_icmp_le (tgt := 1070) hx hb dL_holds_1051 (by decide) (fun z6 => ?_) (fun z6 => ?_)
    · have h := ob_t h z6
      exact w_L_holds_1070 l C0 xL xs hE r3.2 h hP hS (lv_sub hl [] rfl) ⟨by omega, by omega⟩
    · have h := ob_f h z6
      refine lv_iload hx hb dL_holds_1054 (lv_at hl 0 rfl) ?_
      refine lv_if_lt (tgt := 1070) hx hb dL_holds_1056 (by decide) (fun z7 => ?_) (fun z7 => ?_)
      · have h := ob_t h z7
        exact w_L_holds_1070 l C0 xL xs hE r3.2 h hP hS (lv_sub hl [] rfl) ⟨by omega, by omega⟩
      · have h := ob_f h z7
        refine lv_iload hx hb dL_holds_1059 (lv_at hl 1 rfl) ?_
        refine lv_bipush (v := 40) hx hb dL_holds_1061 (by decide) ?_
        refine lv_icmp_gt (tgt := 1070) hx hb dL_holds_1063 (by decide) (fun z8 => ?_) (fun z8 => ?_)
        · have h := ob_t h z8
          exact w_L_holds_1070 l C0 xL xs hE r3.2 h hP hS (lv_sub hl [] rfl) ⟨by omega, by omega⟩
        · have h := ob_f h z8
          refine lv_iconst (v := 1) hx hb dL_holds_1066 (by decide) ?_
          refine lv_goto (tgt := 1071) hx hb dL_holds_1067 (by decide) ?_
          refine W.widen (k := 236) (n := 2360) (by omega) (by omega) ?_
          exact rl_Zw C0 hP hS bool_1 h dL_holds_1071
  · have h := ob_t h z5
    refine lv_iload hx hb dL_holds_1032 (lv_at hl 0 rfl) ?_
    refine lv_bipush (v := (-4)) hx hb dL_holds_1034 (by decide) ?_
    refine lv_icmp_ne (tgt := 1043) hx hb dL_holds_1036 (by decide) (fun z9 => ?_) (fun z9 => ?_)
    · have h := ob_f h z9
      refine lv_iconst (v := 0) hx hb dL_holds_1043 (by decide) ?_
      refine lv_goto (tgt := 1071) hx hb dL_holds_1044 (by decide) ?_
      refine W.widen (k := 236) (n := 2360) (by omega) (by omega) ?_
      exact rl_Zw C0 hP hS bool_0 h dL_holds_1071
    · have h := ob_t h z9
      refine lv_iconst (v := 1) hx hb dL_holds_1039 (by decide) ?_
      refine lv_goto (tgt := 1071) hx hb dL_holds_1040 (by decide) ?_
      refine W.widen (k := 236) (n := 2360) (by omega) (by omega) ?_
      exact rl_Zw C0 hP hS bool_1 h dL_holds_1071
set_option maxRecDepth 100000 in
set_option maxHeartbeats 4000000 in
theorem w_L_holds_921 (l : Launch) {V : Int32 × St} (C0 : XC D ct p s m args meth c cL_holds 15 (some .boolean) RL) (xL : Nat) (xs : Nat → Int32) (hE : XS xb xL xs adK adV P0 s) (v9 : UInt64) (S : St) {H : Heap} {locs : List Loc} {ls : Array Slot} {cells slots : Nat} (h : (b_L_holds_921 xL xs v9 S).bind some = some V) (hP : ML D ct P0 Hb S H) (hS : va_S (AB P0) s.heap H locs) (hl : lv_has ls 15 [(0, .ref P0), (9, .double v9)]) (hc : cells + 0 ≤ 236 ∧ slots + 10 * 0 ≤ 2360) : W p l e { frames := 11, cells := 236, slots := 2360, locals := 251 } s m args below meth c H locs cells slots (MQ below (qLIw D ct P0 Hb V) args s 236 2360 (AB P0)) (F0 m 921 ls []) := by
  obtain ⟨hx, hb, hr, hml, hown, hts, hK, hlocks, hN⟩ := id C0
  unfold b_L_holds_921 at h
  refine lv_dload hx hb dL_holds_921 (lv_at hl 1 rfl) ?_
  refine lv_aload_n hx hb dL_holds_923 rfl (lv_at hl 0 rfl) ?_
  refine xl_get (v := .ref (P0 + 1 + 0)) C0 hP 0 (by decide) wd_249 rfl rfl dL_holds_924 ?_
  refine lv_iconst (v := 0) hx hb dL_holds_927 (by decide) ?_
  obtain ⟨r1, hr1, h⟩ := ob_bd h
  obtain ⟨g2, h⟩ := ob_gd h
  refine nl_Lw (kV (As := [.int 0]) C0 (c_X11_mean l 0 hr1) ⟨wd_906, wd_903, wd_904, wd_905, wd_1⟩ kd_X11_mean ⟨Nat.le_of_ble_eq_true rfl, Nat.le_of_ble_eq_true rfl⟩ hP.1 (lay_X11 (P0 + 1) ct S) rfl rfl hl.1 rfl (Nat.le_of_ble_eq_true rfl) dL_holds_928 ⟨by show _ + _ ≤ 236; omega, by show _ + _ ≤ 2360; omega⟩) hP g2 hS (fun H locs hP hS => ?_)
  refine lv_l2d hx hb dL_holds_931 ?_
  refine lv_aload_n hx hb dL_holds_932 rfl (lv_at hl 0 rfl) ?_
  refine xl_get (v := .ref (P0 + 1 + 0)) C0 hP 0 (by decide) wd_249 rfl rfl dL_holds_933 ?_
  refine lv_iconst (v := 1) hx hb dL_holds_936 (by decide) ?_
  obtain ⟨r3, hr3, h⟩ := ob_bd h
  obtain ⟨g4, h⟩ := ob_gd h
  refine nl_Lw (kV (As := [.int 1]) C0 (c_X11_mean l 1 hr3) ⟨wd_906, wd_903, wd_904, wd_905, wd_1⟩ kd_X11_mean ⟨Nat.le_of_ble_eq_true rfl, Nat.le_of_ble_eq_true rfl⟩ hP.1 (lay_X11 (P0 + 1) ct r1.2) rfl rfl hl.1 rfl (Nat.le_of_ble_eq_true rfl) dL_holds_937 ⟨by show _ + _ ≤ 236; omega, by show _ + _ ≤ 2360; omega⟩) hP g4 hS (fun H locs hP hS => ?_)
  refine lv_l2d hx hb dL_holds_940 ?_
  obtain ⟨g5, h⟩ := ob_gd h
  refine lv_ddiv hx hb dL_holds_941 (nn64_ok g5) ?_
  obtain ⟨g6, h⟩ := ob_gd h
  refine lv_dsub hx hb dL_holds_942 (nn64_ok g6) ?_
  obtain ⟨g8, h⟩ := ob_gd h
  refine xl_abs C0 hl.1 (nn64_ok g8) (Nat.le_of_ble_eq_true rfl) (Nat.le_of_ble_eq_true rfl) dL_holds_943 ?_
  refine lv_ldc2d (v := 4517329193108106637) hx hb hown (hts _ wd_921) dL_holds_946 ?_
  refine lv_dcmp hx hb dL_holds_949 ?_
  refine lv_if_le (tgt := 955) hx hb dL_holds_950 (by decide) (fun z9 => ?_) (fun z9 => ?_)
  · have h := ob_t h z9
    refine lv_aload_n hx hb dL_holds_955 rfl (lv_at hl 0 rfl) ?_
    refine xl_get (v := .ref (P0 + 1 + 0)) C0 hP 0 (by decide) wd_249 rfl rfl dL_holds_956 ?_
    refine lv_iconst (v := 0) hx hb dL_holds_959 (by decide) ?_
    refine lv_iconst (v := 0) hx hb dL_holds_960 (by decide) ?_
    obtain ⟨r10, hr10, h⟩ := ob_bd h
    obtain ⟨g11, h⟩ := ob_gd h
    refine nl_Iw (kV (As := [.int 0, .int 0]) C0 (c_X11_turn l 0 0 hr10) ⟨wd_925, wd_922, wd_923, wd_924, wd_1⟩ kd_X11_turn ⟨Nat.le_of_ble_eq_true rfl, Nat.le_of_ble_eq_true rfl⟩ hP.1 (lay_X11 (P0 + 1) ct r3.2) rfl rfl hl.1 rfl (Nat.le_of_ble_eq_true rfl) dL_holds_961 ⟨by show _ + _ ≤ 236; omega, by show _ + _ ≤ 2360; omega⟩) hP g11 hS (fun H locs hP hS => ?_)
    refine lv_if_ne (tgt := 1003) hx hb dL_holds_964 (by decide) (fun z12 => ?_) (fun z12 => ?_)
    · have h := ob_f h z12
      refine lv_iconst (v := 0) hx hb dL_holds_1003 (by decide) ?_
      refine W.widen (k := 236) (n := 2360) (by omega) (by omega) ?_
      exact rl_Zw C0 hP hS bool_0 h dL_holds_1004
    · have h := ob_t h z12
      refine lv_aload_n hx hb dL_holds_967 rfl (lv_at hl 0 rfl) ?_
      refine xl_get (v := .ref (P0 + 1 + 0)) C0 hP 0 (by decide) wd_249 rfl rfl dL_holds_968 ?_
      refine lv_iconst (v := 0) hx hb dL_holds_971 (by decide) ?_
      obtain ⟨r13, hr13, h⟩ := ob_bd h
      obtain ⟨g14, h⟩ := ob_gd h
      refine nl_Iw (kV (As := [.int 0]) C0 (c_X11_guard l 0 hr13) ⟨wd_930, wd_927, wd_928, wd_929, wd_1⟩ kd_X11_guard ⟨Nat.le_of_ble_eq_true rfl, Nat.le_of_ble_eq_true rfl⟩ hP.1 (lay_X11 (P0 + 1) ct r10.2) rfl rfl hl.1 rfl (Nat.le_of_ble_eq_true rfl) dL_holds_972 ⟨by show _ + _ ≤ 236; omega, by show _ + _ ≤ 2360; omega⟩) hP g14 hS (fun H locs hP hS => ?_)
      refine lv_if_ne (tgt := 1003) hx hb dL_holds_975 (by decide) (fun z15 => ?_) (fun z15 => ?_)
      · have h := ob_f h z15
        refine lv_iconst (v := 0) hx hb dL_holds_1003 (by decide) ?_
        refine W.widen (k := 236) (n := 2360) (by omega) (by omega) ?_
        exact rl_Zw C0 hP hS bool_0 h dL_holds_1004
      · have h := ob_t h z15
        refine lv_aload_n hx hb dL_holds_978 rfl (lv_at hl 0 rfl) ?_
        refine xl_get (v := .int (gi r13.2 136 5)) C0 hP 5 (by decide) wd_254 rfl rfl dL_holds_979 ?_
        refine lv_if_ne (tgt := 1005) hx hb dL_holds_982 (by decide) (fun z16 => ?_) (fun z16 => ?_)
        · have h := ob_f h z16
          exact w_L_holds_1005 l C0 xL xs hE r13.2 h hP hS (lv_sub hl [0] rfl) ⟨by omega, by omega⟩
        · have h := ob_t h z16
          refine lv_aload_n hx hb dL_holds_985 rfl (lv_at hl 0 rfl) ?_
          refine xl_get (v := .int (gi r13.2 136 1)) C0 hP 1 (by decide) wd_250 rfl rfl dL_holds_986 ?_
          refine lv_if_le (tgt := 1005) hx hb dL_holds_989 (by decide) (fun z17 => ?_) (fun z17 => ?_)
          · have h := ob_t h z17
            exact w_L_holds_1005 l C0 xL xs hE r13.2 h hP hS (lv_sub hl [0] rfl) ⟨by omega, by omega⟩
          · have h := ob_f h z17
            refine lv_aload_n hx hb dL_holds_992 rfl (lv_at hl 0 rfl) ?_
            refine xl_get (v := .ref (P0 + 1 + 0)) C0 hP 0 (by decide) wd_249 rfl rfl dL_holds_993 ?_
            refine lv_iconst (v := 1) hx hb dL_holds_996 (by decide) ?_
            obtain ⟨r18, hr18, h⟩ := ob_bd h
            obtain ⟨g19, h⟩ := ob_gd h
            refine nl_Iw (kV (As := [.int 1]) C0 (c_X11_guard l 1 hr18) ⟨wd_930, wd_927, wd_928, wd_929, wd_1⟩ kd_X11_guard ⟨Nat.le_of_ble_eq_true rfl, Nat.le_of_ble_eq_true rfl⟩ hP.1 (lay_X11 (P0 + 1) ct r13.2) rfl rfl hl.1 rfl (Nat.le_of_ble_eq_true rfl) dL_holds_997 ⟨by show _ + _ ≤ 236; omega, by show _ + _ ≤ 2360; omega⟩) hP g19 hS (fun H locs hP hS => ?_)
            refine lv_if_eq (tgt := 1005) hx hb dL_holds_1000 (by decide) (fun z20 => ?_) (fun z20 => ?_)
            · have h := ob_t h z20
              exact w_L_holds_1005 l C0 xL xs hE r18.2 h hP hS (lv_sub hl [0] rfl) ⟨by omega, by omega⟩
            · have h := ob_f h z20
              refine lv_iconst (v := 0) hx hb dL_holds_1003 (by decide) ?_
              refine W.widen (k := 236) (n := 2360) (by omega) (by omega) ?_
              exact rl_Zw C0 hP hS bool_0 h dL_holds_1004
  · have h := ob_f h z9
    refine lv_iconst (v := 0) hx hb dL_holds_953 (by decide) ?_
    refine W.widen (k := 236) (n := 2360) (by omega) (by omega) ?_
    exact rl_Zw C0 hP hS bool_0 h dL_holds_954
set_option maxRecDepth 100000 in
set_option maxHeartbeats 4000000 in
theorem w_L_holds_910 (l : Launch) {V : Int32 × St} (C0 : XC D ct p s m args meth c cL_holds 15 (some .boolean) RL) (xL : Nat) (xs : Nat → Int32) (hE : XS xb xL xs adK adV P0 s) (n0 : Nat) (ih0 : ∀ (v9 : UInt64) (v11 : Int32) (S : St) (H : Heap) (locs : List Loc) (ls : Array Slot) (cells slots : Nat), (lp n0 (l_L_holds_758 xL xs) (v9, v11, S)).bind some = some V → ML D ct P0 Hb S H → va_S (AB P0) s.heap H locs → lv_has ls 15 [(0, .ref P0), (9, .double v9), (11, .int v11)] → (cells + (n0 * 0 + 0) ≤ 236 ∧ slots + 10 * (n0 * 0 + 0) ≤ 2360) → W p l e { frames := 11, cells := 236, slots := 2360, locals := 251 } s m args below meth c H locs cells slots (MQ below (qLIw D ct P0 Hb V) args s 236 2360 (AB P0)) (F0 m 758 ls [])) (v9 : UInt64) (v11 : Int32) (s0 : Int32) (s1 : Int32) (S : St) {H : Heap} {locs : List Loc} {ls : Array Slot} {cells slots : Nat} (h : (b_L_holds_910 xL xs v9 v11 s0 s1 S).bind (lpF n0 (l_L_holds_758 xL xs) some) = some V) (hP : ML D ct P0 Hb S H) (hS : va_S (AB P0) s.heap H locs) (hl : lv_has ls 15 [(0, .ref P0), (9, .double v9), (11, .int v11)]) (hc : cells + (0 + (n0 * 0 + 0)) ≤ 236 ∧ slots + 10 * (0 + (n0 * 0 + 0)) ≤ 2360) : W p l e { frames := 11, cells := 236, slots := 2360, locals := 251 } s m args below meth c H locs cells slots (MQ below (qLIw D ct P0 Hb V) args s 236 2360 (AB P0)) (F0 m 910 ls [.int s0, .int s1]) := by
  obtain ⟨hx, hb, hr, hml, hown, hts, hK, hlocks, hN⟩ := id C0
  unfold b_L_holds_910 at h
  refine lv_icmp_eq (tgt := 915) hx hb dL_holds_910 (by decide) (fun z1 => ?_) (fun z1 => ?_)
  · have h := ob_t h z1
    refine lv_iinc (v := v11 + 1) (lv' := [(11, .int (v11 + 1)), (0, .ref P0), (9, .double v9)]) hx hb dL_holds_915 hl (k := 2) rfl rfl (by decide) rfl (fun ls hl => ?_)
    refine lv_goto (tgt := 758) hx hb dL_holds_918 (by decide) ?_
    exact ih0 v9 (v11 + 1) S _ _ _ _ _ h hP hS (lv_sub hl [1, 2, 0] rfl) ⟨by omega, by omega⟩
  · have h := ob_f h z1
    refine lv_iconst (v := 0) hx hb dL_holds_913 (by decide) ?_
    refine W.widen (k := 236) (n := 2360) (by omega) (by omega) ?_
    exact rl_Zw C0 hP hS bool_0 h dL_holds_914
set_option maxRecDepth 100000 in
set_option maxHeartbeats 4000000 in
theorem w_L_holds_867 (l : Launch) {V : Int32 × St} (C0 : XC D ct p s m args meth c cL_holds 15 (some .boolean) RL) (xL : Nat) (xs : Nat → Int32) (hE : XS xb xL xs adK adV P0 s) (n0 : Nat) (ih0 : ∀ (v9 : UInt64) (v11 : Int32) (S : St) (H : Heap) (locs : List Loc) (ls : Array Slot) (cells slots : Nat), (lp n0 (l_L_holds_758 xL xs) (v9, v11, S)).bind some = some V → ML D ct P0 Hb S H → va_S (AB P0) s.heap H locs → lv_has ls 15 [(0, .ref P0), (9, .double v9), (11, .int v11)] → (cells + (n0 * 0 + 0) ≤ 236 ∧ slots + 10 * (n0 * 0 + 0) ≤ 2360) → W p l e { frames := 11, cells := 236, slots := 2360, locals := 251 } s m args below meth c H locs cells slots (MQ below (qLIw D ct P0 Hb V) args s 236 2360 (AB P0)) (F0 m 758 ls [])) (v9 : UInt64) (v11 : Int32) (s0 : Int32) (s1 : Int32) (S : St) {H : Heap} {locs : List Loc} {ls : Array Slot} {cells slots : Nat} (h : (b_L_holds_867 xL xs v9 v11 s0 s1 S).bind (lpF n0 (l_L_holds_758 xL xs) some) = some V) (hP : ML D ct P0 Hb S H) (hS : va_S (AB P0) s.heap H locs) (hl : lv_has ls 15 [(0, .ref P0), (9, .double v9), (11, .int v11)]) (hc : cells + (0 + (n0 * 0 + 0)) ≤ 236 ∧ slots + 10 * (0 + (n0 * 0 + 0)) ≤ 2360) : W p l e { frames := 11, cells := 236, slots := 2360, locals := 251 } s m args below meth c H locs cells slots (MQ below (qLIw D ct P0 Hb V) args s 236 2360 (AB P0)) (F0 m 867 ls [.int s0, .int s1]) := by
  obtain ⟨hx, hb, hr, hml, hown, hts, hK, hlocks, hN⟩ := id C0
  unfold b_L_holds_867 at h
  refine lv_icmp_ne (tgt := 913) hx hb dL_holds_867 (by decide) (fun z1 => ?_) (fun z1 => ?_)
  · have h := ob_f h z1
    refine lv_iconst (v := 0) hx hb dL_holds_913 (by decide) ?_
    refine W.widen (k := 236) (n := 2360) (by omega) (by omega) ?_
    exact rl_Zw C0 hP hS bool_0 h dL_holds_914
  · have h := ob_t h z1
    refine lv_aload_n hx hb dL_holds_870 rfl (lv_at hl 0 rfl) ?_
    refine xl_get (v := .ref (P0 + 1 + 0)) C0 hP 0 (by decide) wd_249 rfl rfl dL_holds_871 ?_
    refine lv_iload hx hb dL_holds_874 (lv_at hl 2 rfl) ?_
    obtain ⟨r2, hr2, h⟩ := ob_bd h
    obtain ⟨g3, h⟩ := ob_gd h
    refine nl_Iw (kV (As := [.int v11]) C0 (c_X11_yes l v11 hr2) ⟨wd_902, wd_899, wd_900, wd_901, wd_1⟩ kd_X11_yes ⟨Nat.le_of_ble_eq_true rfl, Nat.le_of_ble_eq_true rfl⟩ hP.1 (lay_X11 (P0 + 1) ct S) rfl rfl hl.1 rfl (Nat.le_of_ble_eq_true rfl) dL_holds_876 ⟨by show _ + _ ≤ 236; omega, by show _ + _ ≤ 2360; omega⟩) hP g3 hS (fun H locs hP hS => ?_)
    refine lv_aload_n hx hb dL_holds_879 rfl (lv_at hl 0 rfl) ?_
    refine xl_get (v := .ref (P0 + 1 + 136)) C0 hP 2 (by decide) wd_251 rfl rfl dL_holds_880 ?_
    refine lv_iload hx hb dL_holds_883 (lv_at hl 2 rfl) ?_
    obtain ⟨g4, h⟩ := ob_gd h
    obtain ⟨q5, eq5, h⟩ := ob_bd h
    refine x_aald (v := .ref (P0 + 1 + q5)) C0 hP.1 (lay_136 (P0 + 1) ct r2.2) rfl rfl g4 (by show va_rf ((gr r2.2 136 v11.toNatClampNeg).map (P0 + 1 + ·)) = _; rw [eq5]; rfl) dL_holds_885 ?_
    refine lv_iconst (v := 3) hx hb dL_holds_886 (by decide) ?_
    obtain ⟨n7, en7, h⟩ := ob_bd h
    obtain ⟨g6, h⟩ := ob_gd h
    refine x_iald C0 hP.1 (lay_dy (P0 + 1) ct en7) g6 dL_holds_887 ?_
    refine lv_ishr hx hb dL_holds_888 ?_
    refine lv_iconst (v := 1) hx hb dL_holds_889 (by decide) ?_
    refine lv_iand hx hb dL_holds_890 ?_
    refine lv_aload_n hx hb dL_holds_891 rfl (lv_at hl 0 rfl) ?_
    refine xl_get (v := .ref (P0 + 1 + 0)) C0 hP 0 (by decide) wd_249 rfl rfl dL_holds_892 ?_
    refine lv_iload hx hb dL_holds_895 (lv_at hl 2 rfl) ?_
    refine lv_iconst (v := 0) hx hb dL_holds_897 (by decide) ?_
    obtain ⟨r8, hr8, h⟩ := ob_bd h
    obtain ⟨g9, h⟩ := ob_gd h
    refine nl_Iw (kV (As := [.int v11, .int 0]) C0 (c_X11_fate l v11 0 hr8) ⟨wd_616, wd_613, wd_614, wd_615, wd_1⟩ kd_X11_fate ⟨Nat.le_of_ble_eq_true rfl, Nat.le_of_ble_eq_true rfl⟩ hP.1 (lay_X11 (P0 + 1) ct r2.2) rfl rfl hl.1 rfl (Nat.le_of_ble_eq_true rfl) dL_holds_898 ⟨by show _ + _ ≤ 236; omega, by show _ + _ ≤ 2360; omega⟩) hP g9 hS (fun H locs hP hS => ?_)
    refine lv_iconst (v := 1) hx hb dL_holds_901 (by decide) ?_
    refine lv_icmp_ne (tgt := 909) hx hb dL_holds_902 (by decide) (fun z10 => ?_) (fun z10 => ?_)
    · have h := ob_f h z10
      refine lv_iconst (v := 0) hx hb dL_holds_909 (by decide) ?_
      exact w_L_holds_910 l C0 xL xs hE n0 ih0 v9 v11 0 ((r2.1 >>> ((gi r2.2 q5 (3 : Int32).toNatClampNeg) &&& 31)) &&& 1) r8.2 h hP hS (lv_sub hl [0, 1, 2] rfl) ⟨by omega, by omega⟩
    · have h := ob_t h z10
      refine lv_iconst (v := 1) hx hb dL_holds_905 (by decide) ?_
      refine lv_goto (tgt := 910) hx hb dL_holds_906 (by decide) ?_
      exact w_L_holds_910 l C0 xL xs hE n0 ih0 v9 v11 1 ((r2.1 >>> ((gi r2.2 q5 (3 : Int32).toNatClampNeg) &&& 31)) &&& 1) r8.2 h hP hS (lv_sub hl [0, 1, 2] rfl) ⟨by omega, by omega⟩
set_option maxRecDepth 100000 in
set_option maxHeartbeats 4000000 in
theorem w_L_holds_847 (l : Launch) {V : Int32 × St} (C0 : XC D ct p s m args meth c cL_holds 15 (some .boolean) RL) (xL : Nat) (xs : Nat → Int32) (hE : XS xb xL xs adK adV P0 s) (n0 : Nat) (ih0 : ∀ (v9 : UInt64) (v11 : Int32) (S : St) (H : Heap) (locs : List Loc) (ls : Array Slot) (cells slots : Nat), (lp n0 (l_L_holds_758 xL xs) (v9, v11, S)).bind some = some V → ML D ct P0 Hb S H → va_S (AB P0) s.heap H locs → lv_has ls 15 [(0, .ref P0), (9, .double v9), (11, .int v11)] → (cells + (n0 * 0 + 0) ≤ 236 ∧ slots + 10 * (n0 * 0 + 0) ≤ 2360) → W p l e { frames := 11, cells := 236, slots := 2360, locals := 251 } s m args below meth c H locs cells slots (MQ below (qLIw D ct P0 Hb V) args s 236 2360 (AB P0)) (F0 m 758 ls [])) (v9 : UInt64) (v11 : Int32) (s0 : Int32) (S : St) {H : Heap} {locs : List Loc} {ls : Array Slot} {cells slots : Nat} (h : (b_L_holds_847 xL xs v9 v11 s0 S).bind (lpF n0 (l_L_holds_758 xL xs) some) = some V) (hP : ML D ct P0 Hb S H) (hS : va_S (AB P0) s.heap H locs) (hl : lv_has ls 15 [(0, .ref P0), (9, .double v9), (11, .int v11)]) (hc : cells + (0 + (n0 * 0 + 0)) ≤ 236 ∧ slots + 10 * (0 + (n0 * 0 + 0)) ≤ 2360) : W p l e { frames := 11, cells := 236, slots := 2360, locals := 251 } s m args below meth c H locs cells slots (MQ below (qLIw D ct P0 Hb V) args s 236 2360 (AB P0)) (F0 m 847 ls [.int s0]) := by
  obtain ⟨hx, hb, hr, hml, hown, hts, hK, hlocks, hN⟩ := id C0
  unfold b_L_holds_847 at h
  refine lv_aload_n hx hb dL_holds_847 rfl (lv_at hl 0 rfl) ?_
  refine xl_get (v := .ref (P0 + 1 + 0)) C0 hP 0 (by decide) wd_249 rfl rfl dL_holds_848 ?_
  refine lv_iload hx hb dL_holds_851 (lv_at hl 2 rfl) ?_
  refine lv_iconst (v := 1) hx hb dL_holds_853 (by decide) ?_
  obtain ⟨r1, hr1, h⟩ := ob_bd h
  obtain ⟨g2, h⟩ := ob_gd h
  refine nl_Iw (kV (As := [.int v11, .int 1]) C0 (c_X11_moods l v11 1 hr1) ⟨wd_898, wd_895, wd_896, wd_897, wd_1⟩ kd_X11_moods ⟨Nat.le_of_ble_eq_true rfl, Nat.le_of_ble_eq_true rfl⟩ hP.1 (lay_X11 (P0 + 1) ct S) rfl rfl hl.1 rfl (Nat.le_of_ble_eq_true rfl) dL_holds_854 ⟨by show _ + _ ≤ 236; omega, by show _ + _ ≤ 2360; omega⟩) hP g2 hS (fun H locs hP hS => ?_)
  refine lv_bipush (v := (-4)) hx hb dL_holds_857 (by decide) ?_
  refine lv_icmp_ne (tgt := 866) hx hb dL_holds_859 (by decide) (fun z3 => ?_) (fun z3 => ?_)
  · have h := ob_f h z3
    refine lv_iconst (v := 0) hx hb dL_holds_866 (by decide) ?_
    exact w_L_holds_867 l C0 xL xs hE n0 ih0 v9 v11 0 s0 r1.2 h hP hS (lv_sub hl [0, 1, 2] rfl) ⟨by omega, by omega⟩
  · have h := ob_t h z3
    refine lv_iconst (v := 1) hx hb dL_holds_862 (by decide) ?_
    refine lv_goto (tgt := 867) hx hb dL_holds_863 (by decide) ?_
    exact w_L_holds_867 l C0 xL xs hE n0 ih0 v9 v11 1 s0 r1.2 h hP hS (lv_sub hl [0, 1, 2] rfl) ⟨by omega, by omega⟩
set_option maxRecDepth 100000 in
set_option maxHeartbeats 4000000 in
theorem w_L_holds_758 (l : Launch) {V : Int32 × St} (C0 : XC D ct p s m args meth c cL_holds 15 (some .boolean) RL) (xL : Nat) (xs : Nat → Int32) (hE : XS xb xL xs adK adV P0 s) (n0 : Nat) (ih0 : ∀ (v9 : UInt64) (v11 : Int32) (S : St) (H : Heap) (locs : List Loc) (ls : Array Slot) (cells slots : Nat), (lp n0 (l_L_holds_758 xL xs) (v9, v11, S)).bind some = some V → ML D ct P0 Hb S H → va_S (AB P0) s.heap H locs → lv_has ls 15 [(0, .ref P0), (9, .double v9), (11, .int v11)] → (cells + (n0 * 0 + 0) ≤ 236 ∧ slots + 10 * (n0 * 0 + 0) ≤ 2360) → W p l e { frames := 11, cells := 236, slots := 2360, locals := 251 } s m args below meth c H locs cells slots (MQ below (qLIw D ct P0 Hb V) args s 236 2360 (AB P0)) (F0 m 758 ls [])) (v9 : UInt64) (v11 : Int32) (S : St) {H : Heap} {locs : List Loc} {ls : Array Slot} {cells slots : Nat} (h : (b_L_holds_758 xL xs v9 v11 S).bind (lpF n0 (l_L_holds_758 xL xs) some) = some V) (hP : ML D ct P0 Hb S H) (hS : va_S (AB P0) s.heap H locs) (hl : lv_has ls 15 [(0, .ref P0), (9, .double v9), (11, .int v11)]) (hc : cells + ((n0 + 1) * 0 + 0) ≤ 236 ∧ slots + 10 * ((n0 + 1) * 0 + 0) ≤ 2360) : W p l e { frames := 11, cells := 236, slots := 2360, locals := 251 } s m args below meth c H locs cells slots (MQ below (qLIw D ct P0 Hb V) args s 236 2360 (AB P0)) (F0 m 758 ls []) := by
  obtain ⟨hx, hb, hr, hml, hown, hts, hK, hlocks, hN⟩ := id C0
  unfold b_L_holds_758 at h
  refine lv_iload hx hb dL_holds_758 (lv_at hl 2 rfl) ?_
  refine lv_aload_n hx hb dL_holds_760 rfl (lv_at hl 0 rfl) ?_
  refine xl_get (v := .int (gi S 136 1)) C0 hP 1 (by decide) wd_250 rfl rfl dL_holds_761 ?_
  refine lv_icmp_ge (tgt := 921) hx hb dL_holds_764 (by decide) (fun z1 => ?_) (fun z1 => ?_)
  · have h := ob_t h z1
    have h := ob_mp h
    exact w_L_holds_921 l C0 xL xs hE v9 S h hP hS (lv_sub hl [0, 1] rfl) ⟨by omega, by omega⟩
  · have h := ob_f h z1
    refine lv_aload_n hx hb dL_holds_767 rfl (lv_at hl 0 rfl) ?_
    refine xl_get (v := .ref (P0 + 1 + 0)) C0 hP 0 (by decide) wd_249 rfl rfl dL_holds_768 ?_
    refine lv_iload hx hb dL_holds_771 (lv_at hl 2 rfl) ?_
    refine lv_iconst (v := 0) hx hb dL_holds_773 (by decide) ?_
    obtain ⟨r2, hr2, h⟩ := ob_bd h
    obtain ⟨g3, h⟩ := ob_gd h
    refine nl_Lw (kV (As := [.int v11, .int 0]) C0 (c_X11_likely l v11 0 hr2) ⟨wd_877, wd_874, wd_875, wd_876, wd_1⟩ kd_X11_likely ⟨Nat.le_of_ble_eq_true rfl, Nat.le_of_ble_eq_true rfl⟩ hP.1 (lay_X11 (P0 + 1) ct S) rfl rfl hl.1 rfl (Nat.le_of_ble_eq_true rfl) dL_holds_774 ⟨by show _ + _ ≤ 236; omega, by show _ + _ ≤ 2360; omega⟩) hP g3 hS (fun H locs hP hS => ?_)
    refine lv_l2d hx hb dL_holds_777 ?_
    refine lv_aload_n hx hb dL_holds_778 rfl (lv_at hl 0 rfl) ?_
    refine xl_get (v := .ref (P0 + 1 + 0)) C0 hP 0 (by decide) wd_249 rfl rfl dL_holds_779 ?_
    refine lv_iload hx hb dL_holds_782 (lv_at hl 2 rfl) ?_
    refine lv_iconst (v := 1) hx hb dL_holds_784 (by decide) ?_
    obtain ⟨r4, hr4, h⟩ := ob_bd h
    obtain ⟨g5, h⟩ := ob_gd h
    refine nl_Lw (kV (As := [.int v11, .int 1]) C0 (c_X11_likely l v11 1 hr4) ⟨wd_877, wd_874, wd_875, wd_876, wd_1⟩ kd_X11_likely ⟨Nat.le_of_ble_eq_true rfl, Nat.le_of_ble_eq_true rfl⟩ hP.1 (lay_X11 (P0 + 1) ct r2.2) rfl rfl hl.1 rfl (Nat.le_of_ble_eq_true rfl) dL_holds_785 ⟨by show _ + _ ≤ 236; omega, by show _ + _ ≤ 2360; omega⟩) hP g5 hS (fun H locs hP hS => ?_)
    refine lv_l2d hx hb dL_holds_788 ?_
    obtain ⟨g6, h⟩ := ob_gd h
    refine lv_ddiv hx hb dL_holds_789 (nn64_ok g6) ?_
    refine lv_dstore (lv' := [(12, .double (FP.ddiv (FP.l2d r2.1) (FP.l2d r4.1))), (0, .ref P0), (9, .double v9), (11, .int v11)]) hx hb dL_holds_790 hl (by decide) rfl (fun ls hl => ?_)
    refine lv_dload hx hb dL_holds_792 (lv_at hl 2 rfl) ?_
    refine lv_dload hx hb dL_holds_794 (lv_at hl 0 rfl) ?_
    obtain ⟨g7, h⟩ := ob_gd h
    refine lv_dadd hx hb dL_holds_796 (nn64_ok g7) ?_
    refine lv_dstore (lv' := [(9, .double (FP.dadd v9 (FP.ddiv (FP.l2d r2.1) (FP.l2d r4.1)))), (12, .double (FP.ddiv (FP.l2d r2.1) (FP.l2d r4.1))), (0, .ref P0), (11, .int v11)]) hx hb dL_holds_797 hl (by decide) rfl (fun ls hl => ?_)
    refine lv_aload_n hx hb dL_holds_799 rfl (lv_at hl 2 rfl) ?_
    refine xl_get (v := .ref (P0 + 1 + 0)) C0 hP 0 (by decide) wd_249 rfl rfl dL_holds_800 ?_
    refine lv_iload hx hb dL_holds_803 (lv_at hl 3 rfl) ?_
    refine lv_iconst (v := 0) hx hb dL_holds_805 (by decide) ?_
    obtain ⟨r8, hr8, h⟩ := ob_bd h
    obtain ⟨g9, h⟩ := ob_gd h
    refine nl_Iw (kV (As := [.int v11, .int 0]) C0 (c_X11_moods l v11 0 hr8) ⟨wd_898, wd_895, wd_896, wd_897, wd_1⟩ kd_X11_moods ⟨Nat.le_of_ble_eq_true rfl, Nat.le_of_ble_eq_true rfl⟩ hP.1 (lay_X11 (P0 + 1) ct r4.2) rfl rfl hl.1 rfl (Nat.le_of_ble_eq_true rfl) dL_holds_806 ⟨by show _ + _ ≤ 236; omega, by show _ + _ ≤ 2360; omega⟩) hP g9 hS (fun H locs hP hS => ?_)
    refine lv_istore (lv' := [(14, .int r8.1), (9, .double (FP.dadd v9 (FP.ddiv (FP.l2d r2.1) (FP.l2d r4.1)))), (12, .double (FP.ddiv (FP.l2d r2.1) (FP.l2d r4.1))), (0, .ref P0), (11, .int v11)]) hx hb dL_holds_809 hl (by decide) rfl (fun ls hl => ?_)
    refine lv_dload hx hb dL_holds_811 (lv_at hl 2 rfl) ?_
    refine lv_dconst0 hx hb dL_holds_813 ?_
    refine lv_dcmp hx hb dL_holds_814 ?_
    refine lv_if_lt (tgt := 913) hx hb dL_holds_815 (by decide) (fun z10 => ?_) (fun z10 => ?_)
    · have h := ob_t h z10
      refine lv_iconst (v := 0) hx hb dL_holds_913 (by decide) ?_
      refine W.widen (k := 236) (n := 2360) (by omega) (by omega) ?_
      exact rl_Zw C0 hP hS bool_0 h dL_holds_914
    · have h := ob_f h z10
      refine lv_dload hx hb dL_holds_818 (lv_at hl 2 rfl) ?_
      refine lv_dconst1 hx hb dL_holds_820 ?_
      refine lv_dcmp hx hb dL_holds_821 ?_
      refine lv_if_gt (tgt := 913) hx hb dL_holds_822 (by decide) (fun z11 => ?_) (fun z11 => ?_)
      · have h := ob_t h z11
        refine lv_iconst (v := 0) hx hb dL_holds_913 (by decide) ?_
        refine W.widen (k := 236) (n := 2360) (by omega) (by omega) ?_
        exact rl_Zw C0 hP hS bool_0 h dL_holds_914
      · have h := ob_f h z11
        refine lv_iload hx hb dL_holds_825 (lv_at hl 0 rfl) ?_
        refine lv_if_lt (tgt := 913) hx hb dL_holds_827 (by decide) (fun z12 => ?_) (fun z12 => ?_)
        · have h := ob_t h z12
          refine lv_iconst (v := 0) hx hb dL_holds_913 (by decide) ?_
          refine W.widen (k := 236) (n := 2360) (by omega) (by omega) ?_
          exact rl_Zw C0 hP hS bool_0 h dL_holds_914
        · have h := ob_f h z12
          refine lv_iload hx hb dL_holds_830 (lv_at hl 0 rfl) ?_
          refine lv_bipush (v := 19) hx hb dL_holds_832 (by decide) ?_
          refine lv_icmp_gt (tgt := 913) hx hb dL_holds_834 (by decide) (fun z13 => ?_) (fun z13 => ?_)
          · have h := ob_t h z13
            refine lv_iconst (v := 0) hx hb dL_holds_913 (by decide) ?_
            refine W.widen (k := 236) (n := 2360) (by omega) (by omega) ?_
            exact rl_Zw C0 hP hS bool_0 h dL_holds_914
          · have h := ob_f h z13
            refine lv_iload hx hb dL_holds_837 (lv_at hl 0 rfl) ?_
            refine lv_if_ne (tgt := 846) hx hb dL_holds_839 (by decide) (fun z14 => ?_) (fun z14 => ?_)
            · have h := ob_f h z14
              refine lv_iconst (v := 0) hx hb dL_holds_846 (by decide) ?_
              exact w_L_holds_847 l C0 xL xs hE n0 ih0 (FP.dadd v9 (FP.ddiv (FP.l2d r2.1) (FP.l2d r4.1))) v11 0 r8.2 h hP hS (lv_sub hl [3, 1, 4] rfl) ⟨by omega, by omega⟩
            · have h := ob_t h z14
              refine lv_iconst (v := 1) hx hb dL_holds_842 (by decide) ?_
              refine lv_goto (tgt := 847) hx hb dL_holds_843 (by decide) ?_
              exact w_L_holds_847 l C0 xL xs hE n0 ih0 (FP.dadd v9 (FP.ddiv (FP.l2d r2.1) (FP.l2d r4.1))) v11 1 r8.2 h hP hS (lv_sub hl [3, 1, 4] rfl) ⟨by omega, by omega⟩
set_option maxRecDepth 100000 in
set_option maxHeartbeats 4000000 in
theorem wl_L_holds_758 (l : Launch) {V : Int32 × St} (C0 : XC D ct p s m args meth c cL_holds 15 (some .boolean) RL) (xL : Nat) (xs : Nat → Int32) (hE : XS xb xL xs adK adV P0 s)  : ∀ (n0 : Nat) (v9 : UInt64) (v11 : Int32) (S : St) {H : Heap} {locs : List Loc} {ls : Array Slot} {cells slots : Nat}, (lp n0 (l_L_holds_758 xL xs) (v9, v11, S)).bind some = some V → ML D ct P0 Hb S H → va_S (AB P0) s.heap H locs → lv_has ls 15 [(0, .ref P0), (9, .double v9), (11, .int v11)] → (cells + (n0 * 0 + 0) ≤ 236 ∧ slots + 10 * (n0 * 0 + 0) ≤ 2360) → W p l e { frames := 11, cells := 236, slots := 2360, locals := 251 } s m args below meth c H locs cells slots (MQ below (qLIw D ct P0 Hb V) args s 236 2360 (AB P0)) (F0 m 758 ls []) := by
  intro n0
  induction n0 with
  | zero =>
    intro v9 v11 S H locs ls cells slots h hP hS hl hc
    exact (lp_0 h).elim
  | succ n0 ih0 =>
    intro v9 v11 S H locs ls cells slots h hP hS hl hc
    have h := lp_s h
    exact w_L_holds_758 l C0 xL xs hE n0 (fun v9 v11 S H locs ls cells slots h hP hS hl hc => ih0 v9 v11 S h hP hS hl hc) v9 v11 S h hP hS hl ⟨by omega, by omega⟩
set_option maxRecDepth 100000 in
set_option maxHeartbeats 4000000 in
theorem w_L_holds_626 (l : Launch) {V : Int32 × St} (C0 : XC D ct p s m args meth c cL_holds 15 (some .boolean) RL) (xL : Nat) (xs : Nat → Int32) (hE : XS xb xL xs adK adV P0 s) (v2 : Int32) (v3 : Int32) (v4 : Int32) (v5 : Int32) (v6 : Int32) (v7 : Int32) (v8 : Nat) (S : St) {H : Heap} {locs : List Loc} {ls : Array Slot} {cells slots : Nat} (h : (b_L_holds_626 xL xs v2 v3 v4 v5 v6 v7 v8 S).bind some = some V) (hP : ML D ct P0 Hb S H) (hS : va_S (AB P0) s.heap H locs) (hl : lv_has ls 15 [(0, .ref P0), (2, .int v2), (3, .int v3), (4, .int v4), (5, .int v5), (6, .int v6), (7, .int v7), (8, .ref (P0 + 1 + v8))]) (hc : cells + 0 ≤ 236 ∧ slots + 10 * 0 ≤ 2360) : W p l e { frames := 11, cells := 236, slots := 2360, locals := 251 } s m args below meth c H locs cells slots (MQ below (qLIw D ct P0 Hb V) args s 236 2360 (AB P0)) (F0 m 626 ls []) := by
  obtain ⟨hx, hb, hr, hml, hown, hts, hK, hlocks, hN⟩ := id C0
  unfold b_L_holds_626 at h
  refine lv_iload_n hx hb dL_holds_626 rfl (lv_at hl 1 rfl) ?_
  refine lv_iload_n hx hb dL_holds_627 rfl (lv_at hl 2 rfl) ?_
  refine lv_iload hx hb dL_holds_628 (lv_at hl 3 rfl) ?_
  refine lv_isub hx hb dL_holds_630 ?_
  refine lv_icmp_ne (tgt := 750) hx hb dL_holds_631 (by decide) (fun z1 => ?_) (fun z1 => ?_)
  · have h := ob_f h z1
    refine lv_iconst (v := 0) hx hb dL_holds_750 (by decide) ?_
    refine W.widen (k := 236) (n := 2360) (by omega) (by omega) ?_
    exact rl_Zw C0 hP hS bool_0 h dL_holds_751
  · have h := ob_t h z1
    refine lv_aload_n hx hb dL_holds_634 rfl (lv_at hl 0 rfl) ?_
    refine xl_get (v := .ref (P0 + 1 + 0)) C0 hP 0 (by decide) wd_249 rfl rfl dL_holds_635 ?_
    refine lv_iconst (v := 0) hx hb dL_holds_638 (by decide) ?_
    obtain ⟨r2, hr2, h⟩ := ob_bd h
    obtain ⟨g3, h⟩ := ob_gd h
    refine nl_Iw (kV (As := [.int 0]) C0 (c_X11_sums l 0 hr2) ⟨wd_831, wd_828, wd_829, wd_830, wd_1⟩ kd_X11_sums ⟨Nat.le_of_ble_eq_true rfl, Nat.le_of_ble_eq_true rfl⟩ hP.1 (lay_X11 (P0 + 1) ct S) rfl rfl hl.1 rfl (Nat.le_of_ble_eq_true rfl) dL_holds_639 ⟨by show _ + _ ≤ 236; omega, by show _ + _ ≤ 2360; omega⟩) hP g3 hS (fun H locs hP hS => ?_)
    refine lv_aload hx hb dL_holds_642 (lv_at hl 7 rfl) ?_
    refine lv_iconst (v := 1) hx hb dL_holds_644 (by decide) ?_
    obtain ⟨n5, en5, h⟩ := ob_bd h
    obtain ⟨g4, h⟩ := ob_gd h
    refine x_iald C0 hP.1 (lay_dy (P0 + 1) ct en5) g4 dL_holds_645 ?_
    refine lv_icmp_ne (tgt := 750) hx hb dL_holds_646 (by decide) (fun z6 => ?_) (fun z6 => ?_)
    · have h := ob_f h z6
      refine lv_iconst (v := 0) hx hb dL_holds_750 (by decide) ?_
      refine W.widen (k := 236) (n := 2360) (by omega) (by omega) ?_
      exact rl_Zw C0 hP hS bool_0 h dL_holds_751
    · have h := ob_t h z6
      refine lv_aload_n hx hb dL_holds_649 rfl (lv_at hl 0 rfl) ?_
      refine xl_get (v := .ref (P0 + 1 + 0)) C0 hP 0 (by decide) wd_249 rfl rfl dL_holds_650 ?_
      refine lv_iconst (v := 1) hx hb dL_holds_653 (by decide) ?_
      obtain ⟨r7, hr7, h⟩ := ob_bd h
      obtain ⟨g8, h⟩ := ob_gd h
      refine nl_Iw (kV (As := [.int 1]) C0 (c_X11_sums l 1 hr7) ⟨wd_831, wd_828, wd_829, wd_830, wd_1⟩ kd_X11_sums ⟨Nat.le_of_ble_eq_true rfl, Nat.le_of_ble_eq_true rfl⟩ hP.1 (lay_X11 (P0 + 1) ct r2.2) rfl rfl hl.1 rfl (Nat.le_of_ble_eq_true rfl) dL_holds_654 ⟨by show _ + _ ≤ 236; omega, by show _ + _ ≤ 2360; omega⟩) hP g8 hS (fun H locs hP hS => ?_)
      refine lv_aload hx hb dL_holds_657 (lv_at hl 7 rfl) ?_
      refine lv_iconst (v := 2) hx hb dL_holds_659 (by decide) ?_
      obtain ⟨n10, en10, h⟩ := ob_bd h
      obtain ⟨g9, h⟩ := ob_gd h
      refine x_iald C0 hP.1 (lay_dy (P0 + 1) ct en10) g9 dL_holds_660 ?_
      refine lv_icmp_ne (tgt := 750) hx hb dL_holds_661 (by decide) (fun z11 => ?_) (fun z11 => ?_)
      · have h := ob_f h z11
        refine lv_iconst (v := 0) hx hb dL_holds_750 (by decide) ?_
        refine W.widen (k := 236) (n := 2360) (by omega) (by omega) ?_
        exact rl_Zw C0 hP hS bool_0 h dL_holds_751
      · have h := ob_t h z11
        refine lv_aload_n hx hb dL_holds_664 rfl (lv_at hl 0 rfl) ?_
        refine xl_get (v := .ref (P0 + 1 + 0)) C0 hP 0 (by decide) wd_249 rfl rfl dL_holds_665 ?_
        refine lv_iconst (v := 2) hx hb dL_holds_668 (by decide) ?_
        obtain ⟨r12, hr12, h⟩ := ob_bd h
        obtain ⟨g13, h⟩ := ob_gd h
        refine nl_Iw (kV (As := [.int 2]) C0 (c_X11_sums l 2 hr12) ⟨wd_831, wd_828, wd_829, wd_830, wd_1⟩ kd_X11_sums ⟨Nat.le_of_ble_eq_true rfl, Nat.le_of_ble_eq_true rfl⟩ hP.1 (lay_X11 (P0 + 1) ct r7.2) rfl rfl hl.1 rfl (Nat.le_of_ble_eq_true rfl) dL_holds_669 ⟨by show _ + _ ≤ 236; omega, by show _ + _ ≤ 2360; omega⟩) hP g13 hS (fun H locs hP hS => ?_)
        refine lv_aload hx hb dL_holds_672 (lv_at hl 7 rfl) ?_
        refine lv_iconst (v := 0) hx hb dL_holds_674 (by decide) ?_
        obtain ⟨n15, en15, h⟩ := ob_bd h
        obtain ⟨g14, h⟩ := ob_gd h
        refine x_iald C0 hP.1 (lay_dy (P0 + 1) ct en15) g14 dL_holds_675 ?_
        refine lv_icmp_ne (tgt := 750) hx hb dL_holds_676 (by decide) (fun z16 => ?_) (fun z16 => ?_)
        · have h := ob_f h z16
          refine lv_iconst (v := 0) hx hb dL_holds_750 (by decide) ?_
          refine W.widen (k := 236) (n := 2360) (by omega) (by omega) ?_
          exact rl_Zw C0 hP hS bool_0 h dL_holds_751
        · have h := ob_t h z16
          refine lv_aload_n hx hb dL_holds_679 rfl (lv_at hl 0 rfl) ?_
          refine xl_get (v := .ref (P0 + 1 + 0)) C0 hP 0 (by decide) wd_249 rfl rfl dL_holds_680 ?_
          refine lv_iconst (v := 3) hx hb dL_holds_683 (by decide) ?_
          obtain ⟨r17, hr17, h⟩ := ob_bd h
          obtain ⟨g18, h⟩ := ob_gd h
          refine nl_Iw (kV (As := [.int 3]) C0 (c_X11_sums l 3 hr17) ⟨wd_831, wd_828, wd_829, wd_830, wd_1⟩ kd_X11_sums ⟨Nat.le_of_ble_eq_true rfl, Nat.le_of_ble_eq_true rfl⟩ hP.1 (lay_X11 (P0 + 1) ct r12.2) rfl rfl hl.1 rfl (Nat.le_of_ble_eq_true rfl) dL_holds_684 ⟨by show _ + _ ≤ 236; omega, by show _ + _ ≤ 2360; omega⟩) hP g18 hS (fun H locs hP hS => ?_)
          refine lv_iload hx hb dL_holds_687 (lv_at hl 4 rfl) ?_
          refine lv_icmp_ne (tgt := 750) hx hb dL_holds_689 (by decide) (fun z19 => ?_) (fun z19 => ?_)
          · have h := ob_f h z19
            refine lv_iconst (v := 0) hx hb dL_holds_750 (by decide) ?_
            refine W.widen (k := 236) (n := 2360) (by omega) (by omega) ?_
            exact rl_Zw C0 hP hS bool_0 h dL_holds_751
          · have h := ob_t h z19
            refine lv_aload_n hx hb dL_holds_692 rfl (lv_at hl 0 rfl) ?_
            refine xl_get (v := .ref (P0 + 1 + 0)) C0 hP 0 (by decide) wd_249 rfl rfl dL_holds_693 ?_
            refine lv_iconst (v := 4) hx hb dL_holds_696 (by decide) ?_
            obtain ⟨r20, hr20, h⟩ := ob_bd h
            obtain ⟨g21, h⟩ := ob_gd h
            refine nl_Iw (kV (As := [.int 4]) C0 (c_X11_sums l 4 hr20) ⟨wd_831, wd_828, wd_829, wd_830, wd_1⟩ kd_X11_sums ⟨Nat.le_of_ble_eq_true rfl, Nat.le_of_ble_eq_true rfl⟩ hP.1 (lay_X11 (P0 + 1) ct r17.2) rfl rfl hl.1 rfl (Nat.le_of_ble_eq_true rfl) dL_holds_697 ⟨by show _ + _ ≤ 236; omega, by show _ + _ ≤ 2360; omega⟩) hP g21 hS (fun H locs hP hS => ?_)
            refine lv_iload hx hb dL_holds_700 (lv_at hl 5 rfl) ?_
            refine lv_icmp_ne (tgt := 750) hx hb dL_holds_702 (by decide) (fun z22 => ?_) (fun z22 => ?_)
            · have h := ob_f h z22
              refine lv_iconst (v := 0) hx hb dL_holds_750 (by decide) ?_
              refine W.widen (k := 236) (n := 2360) (by omega) (by omega) ?_
              exact rl_Zw C0 hP hS bool_0 h dL_holds_751
            · have h := ob_t h z22
              refine lv_aload_n hx hb dL_holds_705 rfl (lv_at hl 0 rfl) ?_
              refine xl_get (v := .ref (P0 + 1 + 0)) C0 hP 0 (by decide) wd_249 rfl rfl dL_holds_706 ?_
              refine lv_iconst (v := 5) hx hb dL_holds_709 (by decide) ?_
              obtain ⟨r23, hr23, h⟩ := ob_bd h
              obtain ⟨g24, h⟩ := ob_gd h
              refine nl_Iw (kV (As := [.int 5]) C0 (c_X11_sums l 5 hr23) ⟨wd_831, wd_828, wd_829, wd_830, wd_1⟩ kd_X11_sums ⟨Nat.le_of_ble_eq_true rfl, Nat.le_of_ble_eq_true rfl⟩ hP.1 (lay_X11 (P0 + 1) ct r20.2) rfl rfl hl.1 rfl (Nat.le_of_ble_eq_true rfl) dL_holds_710 ⟨by show _ + _ ≤ 236; omega, by show _ + _ ≤ 2360; omega⟩) hP g24 hS (fun H locs hP hS => ?_)
              refine lv_iload hx hb dL_holds_713 (lv_at hl 6 rfl) ?_
              refine lv_icmp_ne (tgt := 750) hx hb dL_holds_715 (by decide) (fun z25 => ?_) (fun z25 => ?_)
              · have h := ob_f h z25
                refine lv_iconst (v := 0) hx hb dL_holds_750 (by decide) ?_
                refine W.widen (k := 236) (n := 2360) (by omega) (by omega) ?_
                exact rl_Zw C0 hP hS bool_0 h dL_holds_751
              · have h := ob_t h z25
                refine lv_aload_n hx hb dL_holds_718 rfl (lv_at hl 0 rfl) ?_
                refine xl_get (v := .ref (P0 + 1 + 0)) C0 hP 0 (by decide) wd_249 rfl rfl dL_holds_719 ?_
                obtain ⟨r26, hr26, h⟩ := ob_bd h
                obtain ⟨g27, h⟩ := ob_gd h
                refine nl_Iw (kV (As := []) C0 (c_X11_longest l hr26) ⟨wd_855, wd_852, wd_853, wd_854, wd_1⟩ kd_X11_longest ⟨Nat.le_of_ble_eq_true rfl, Nat.le_of_ble_eq_true rfl⟩ hP.1 (lay_X11 (P0 + 1) ct r23.2) rfl rfl hl.1 rfl (Nat.le_of_ble_eq_true rfl) dL_holds_722 ⟨by show _ + _ ≤ 236; omega, by show _ + _ ≤ 2360; omega⟩) hP g27 hS (fun H locs hP hS => ?_)
                refine lv_aload_n hx hb dL_holds_725 rfl (lv_at hl 0 rfl) ?_
                refine xl_get (v := .int (gi r26.2 136 1)) C0 hP 1 (by decide) wd_250 rfl rfl dL_holds_726 ?_
                refine lv_icmp_gt (tgt := 750) hx hb dL_holds_729 (by decide) (fun z28 => ?_) (fun z28 => ?_)
                · have h := ob_t h z28
                  refine lv_iconst (v := 0) hx hb dL_holds_750 (by decide) ?_
                  refine W.widen (k := 236) (n := 2360) (by omega) (by omega) ?_
                  exact rl_Zw C0 hP hS bool_0 h dL_holds_751
                · have h := ob_f h z28
                  refine lv_aload_n hx hb dL_holds_732 rfl (lv_at hl 0 rfl) ?_
                  refine xl_get (v := .ref (P0 + 1 + 0)) C0 hP 0 (by decide) wd_249 rfl rfl dL_holds_733 ?_
                  refine lv_aload_n hx hb dL_holds_736 rfl (lv_at hl 0 rfl) ?_
                  refine xl_get (v := .ref (P0 + 1 + 0)) C0 hP 0 (by decide) wd_249 rfl rfl dL_holds_737 ?_
                  refine lv_iconst (v := 4) hx hb dL_holds_740 (by decide) ?_
                  obtain ⟨r29, hr29, h⟩ := ob_bd h
                  refine nl_I (kV (As := [.int 4]) C0 (c_X11_count l 4 hr29) ⟨wd_604, wd_601, wd_602, wd_603, wd_1⟩ kd_X11_count ⟨Nat.le_of_ble_eq_true rfl, Nat.le_of_ble_eq_true rfl⟩ hP.1 (lay_X11 (P0 + 1) ct r26.2) rfl rfl hl.1 rfl (Nat.le_of_ble_eq_true rfl) dL_holds_741 ⟨by show _ + _ ≤ 236; omega, by show _ + _ ≤ 2360; omega⟩) hP hS (fun H locs hP hS => ?_)
                  obtain ⟨r30, hr30, h⟩ := ob_bd h
                  obtain ⟨g31, h⟩ := ob_gd h
                  refine nl_Iw (kV (As := [.int r29]) C0 (c_X11_law l r29 hr30) ⟨wd_860, wd_857, wd_858, wd_859, wd_1⟩ kd_X11_law ⟨Nat.le_of_ble_eq_true rfl, Nat.le_of_ble_eq_true rfl⟩ hP.1 (lay_X11 (P0 + 1) ct r26.2) rfl rfl hl.1 rfl (Nat.le_of_ble_eq_true rfl) dL_holds_744 ⟨by show _ + _ ≤ 236; omega, by show _ + _ ≤ 2360; omega⟩) hP g31 hS (fun H locs hP hS => ?_)
                  refine lv_if_eq (tgt := 752) hx hb dL_holds_747 (by decide) (fun z32 => ?_) (fun z32 => ?_)
                  · have h := ob_t h z32
                    refine lv_dconst0 hx hb dL_holds_752 ?_
                    refine lv_dstore (lv' := [(9, .double FP.dconst0), (0, .ref P0), (2, .int v2), (3, .int v3), (4, .int v4), (5, .int v5), (6, .int v6), (7, .int v7), (8, .ref (P0 + 1 + v8))]) hx hb dL_holds_753 hl (by decide) rfl (fun ls hl => ?_)
                    refine lv_iconst (v := 0) hx hb dL_holds_755 (by decide) ?_
                    refine lv_istore (lv' := [(11, .int 0), (9, .double FP.dconst0), (0, .ref P0), (2, .int v2), (3, .int v3), (4, .int v4), (5, .int v5), (6, .int v6), (7, .int v7), (8, .ref (P0 + 1 + v8))]) hx hb dL_holds_756 hl (by decide) rfl (fun ls hl => ?_)
                    exact wl_L_holds_758 l C0 xL xs hE 1000 FP.dconst0 0 r30.2 h hP hS (lv_sub hl [2, 1, 0] rfl) ⟨by omega, by omega⟩
                  · have h := ob_f h z32
                    refine lv_iconst (v := 0) hx hb dL_holds_750 (by decide) ?_
                    refine W.widen (k := 236) (n := 2360) (by omega) (by omega) ?_
                    exact rl_Zw C0 hP hS bool_0 h dL_holds_751
set_option maxRecDepth 100000 in
set_option maxHeartbeats 4000000 in
theorem w_L_holds_561 (l : Launch) {V : Int32 × St} (C0 : XC D ct p s m args meth c cL_holds 15 (some .boolean) RL) (xL : Nat) (xs : Nat → Int32) (hE : XS xb xL xs adK adV P0 s) (n0 : Nat) (ih0 : ∀ (v2 : Int32) (v3 : Int32) (v4 : Int32) (v5 : Int32) (v6 : Int32) (v7 : Int32) (v8 : Nat) (v9 : Int32) (S : St) (H : Heap) (locs : List Loc) (ls : Array Slot) (cells slots : Nat), (lp n0 (l_L_holds_43 xL xs) (v2, v3, v4, v5, v6, v7, v8, v9, S)).bind some = some V → ML D ct P0 Hb S H → va_S (AB P0) s.heap H locs → lv_has ls 15 [(0, .ref P0), (2, .int v2), (3, .int v3), (4, .int v4), (5, .int v5), (6, .int v6), (7, .int v7), (8, .ref (P0 + 1 + v8)), (9, .int v9)] → (cells + (n0 * 0 + 0) ≤ 236 ∧ slots + 10 * (n0 * 0 + 0) ≤ 2360) → W p l e { frames := 11, cells := 236, slots := 2360, locals := 251 } s m args below meth c H locs cells slots (MQ below (qLIw D ct P0 Hb V) args s 236 2360 (AB P0)) (F0 m 43 ls [])) (v2 : Int32) (v3 : Int32) (v4 : Int32) (v5 : Int32) (v6 : Int32) (v7 : Int32) (v8 : Nat) (v9 : Int32) (S : St) {H : Heap} {locs : List Loc} {ls : Array Slot} {cells slots : Nat} (h : (b_L_holds_561 xL xs v2 v3 v4 v5 v6 v7 v8 v9 S).bind (lpF n0 (l_L_holds_43 xL xs) some) = some V) (hP : ML D ct P0 Hb S H) (hS : va_S (AB P0) s.heap H locs) (hl : lv_has ls 15 [(0, .ref P0), (2, .int v2), (3, .int v3), (4, .int v4), (5, .int v5), (6, .int v6), (7, .int v7), (8, .ref (P0 + 1 + v8)), (9, .int v9)]) (hc : cells + (0 + (n0 * 0 + 0)) ≤ 236 ∧ slots + 10 * (0 + (n0 * 0 + 0)) ≤ 2360) : W p l e { frames := 11, cells := 236, slots := 2360, locals := 251 } s m args below meth c H locs cells slots (MQ below (qLIw D ct P0 Hb V) args s 236 2360 (AB P0)) (F0 m 561 ls []) := by
  obtain ⟨hx, hb, hr, hml, hown, hts, hK, hlocks, hN⟩ := id C0
  unfold b_L_holds_561 at h
  refine lv_aload_n hx hb dL_holds_561 rfl (lv_at hl 0 rfl) ?_
  refine xl_get (v := .ref (P0 + 1 + 0)) C0 hP 0 (by decide) wd_249 rfl rfl dL_holds_562 ?_
  refine lv_iload hx hb dL_holds_565 (lv_at hl 8 rfl) ?_
  refine lv_aload_n hx hb dL_holds_567 rfl (lv_at hl 0 rfl) ?_
  refine xl_get (v := .ref (P0 + 1 + 0)) C0 hP 0 (by decide) wd_249 rfl rfl dL_holds_568 ?_
  refine lv_iload hx hb dL_holds_571 (lv_at hl 8 rfl) ?_
  obtain ⟨r1, hr1, h⟩ := ob_bd h
  obtain ⟨g2, h⟩ := ob_gd h
  refine nl_Iw (kV (As := [.int v9]) C0 (c_X11_sum l v9 hr1) ⟨wd_809, wd_806, wd_807, wd_808, wd_1⟩ kd_X11_sum ⟨Nat.le_of_ble_eq_true rfl, Nat.le_of_ble_eq_true rfl⟩ hP.1 (lay_X11 (P0 + 1) ct S) rfl rfl hl.1 rfl (Nat.le_of_ble_eq_true rfl) dL_holds_573 ⟨by show _ + _ ≤ 236; omega, by show _ + _ ≤ 2360; omega⟩) hP g2 hS (fun H locs hP hS => ?_)
  obtain ⟨r3, hr3, h⟩ := ob_bd h
  refine nl_I (kV (As := [.int v9, .int r1.1]) C0 (c_X11_strength l v9 r1.1 hr3) ⟨wd_822, wd_819, wd_820, wd_821, wd_1⟩ kd_X11_strength ⟨Nat.le_of_ble_eq_true rfl, Nat.le_of_ble_eq_true rfl⟩ hP.1 (lay_X11 (P0 + 1) ct r1.2) rfl rfl hl.1 rfl (Nat.le_of_ble_eq_true rfl) dL_holds_576 ⟨by show _ + _ ≤ 236; omega, by show _ + _ ≤ 2360; omega⟩) hP hS (fun H locs hP hS => ?_)
  refine lv_aload_n hx hb dL_holds_579 rfl (lv_at hl 0 rfl) ?_
  refine xl_get (v := .ref (P0 + 1 + 0)) C0 hP 0 (by decide) wd_249 rfl rfl dL_holds_580 ?_
  refine lv_iload hx hb dL_holds_583 (lv_at hl 8 rfl) ?_
  refine lv_iconst (v := 1) hx hb dL_holds_585 (by decide) ?_
  obtain ⟨r4, hr4, h⟩ := ob_bd h
  obtain ⟨g5, h⟩ := ob_gd h
  refine nl_Iw (kV (As := [.int v9, .int 1]) C0 (c_X11_fate l v9 1 hr4) ⟨wd_616, wd_613, wd_614, wd_615, wd_1⟩ kd_X11_fate ⟨Nat.le_of_ble_eq_true rfl, Nat.le_of_ble_eq_true rfl⟩ hP.1 (lay_X11 (P0 + 1) ct r1.2) rfl rfl hl.1 rfl (Nat.le_of_ble_eq_true rfl) dL_holds_586 ⟨by show _ + _ ≤ 236; omega, by show _ + _ ≤ 2360; omega⟩) hP g5 hS (fun H locs hP hS => ?_)
  refine lv_icmp_ne (tgt := 618) hx hb dL_holds_589 (by decide) (fun z6 => ?_) (fun z6 => ?_)
  · have h := ob_f h z6
    refine lv_iconst (v := 0) hx hb dL_holds_618 (by decide) ?_
    refine W.widen (k := 236) (n := 2360) (by omega) (by omega) ?_
    exact rl_Zw C0 hP hS bool_0 h dL_holds_619
  · have h := ob_t h z6
    refine lv_aload_n hx hb dL_holds_592 rfl (lv_at hl 0 rfl) ?_
    refine xl_get (v := .ref (P0 + 1 + 0)) C0 hP 0 (by decide) wd_249 rfl rfl dL_holds_593 ?_
    refine lv_iload hx hb dL_holds_596 (lv_at hl 8 rfl) ?_
    obtain ⟨r7, hr7, h⟩ := ob_bd h
    obtain ⟨g8, h⟩ := ob_gd h
    refine nl_Iw (kV (As := [.int v9]) C0 (c_X11_purse l v9 hr7) ⟨wd_827, wd_824, wd_825, wd_826, wd_1⟩ kd_X11_purse ⟨Nat.le_of_ble_eq_true rfl, Nat.le_of_ble_eq_true rfl⟩ hP.1 (lay_X11 (P0 + 1) ct r4.2) rfl rfl hl.1 rfl (Nat.le_of_ble_eq_true rfl) dL_holds_598 ⟨by show _ + _ ≤ 236; omega, by show _ + _ ≤ 2360; omega⟩) hP g8 hS (fun H locs hP hS => ?_)
    refine lv_bipush (v := 99) hx hb dL_holds_601 (by decide) ?_
    refine lv_icmp_gt (tgt := 618) hx hb dL_holds_603 (by decide) (fun z9 => ?_) (fun z9 => ?_)
    · have h := ob_t h z9
      refine lv_iconst (v := 0) hx hb dL_holds_618 (by decide) ?_
      refine W.widen (k := 236) (n := 2360) (by omega) (by omega) ?_
      exact rl_Zw C0 hP hS bool_0 h dL_holds_619
    · have h := ob_f h z9
      refine lv_aload_n hx hb dL_holds_606 rfl (lv_at hl 0 rfl) ?_
      refine xl_get (v := .ref (P0 + 1 + 0)) C0 hP 0 (by decide) wd_249 rfl rfl dL_holds_607 ?_
      refine lv_iload hx hb dL_holds_610 (lv_at hl 8 rfl) ?_
      obtain ⟨r10, hr10, h⟩ := ob_bd h
      obtain ⟨g11, h⟩ := ob_gd h
      refine nl_Iw (kV (As := [.int v9]) C0 (c_X11_purse l v9 hr10) ⟨wd_827, wd_824, wd_825, wd_826, wd_1⟩ kd_X11_purse ⟨Nat.le_of_ble_eq_true rfl, Nat.le_of_ble_eq_true rfl⟩ hP.1 (lay_X11 (P0 + 1) ct r7.2) rfl rfl hl.1 rfl (Nat.le_of_ble_eq_true rfl) dL_holds_612 ⟨by show _ + _ ≤ 236; omega, by show _ + _ ≤ 2360; omega⟩) hP g11 hS (fun H locs hP hS => ?_)
      refine lv_if_ge (tgt := 620) hx hb dL_holds_615 (by decide) (fun z12 => ?_) (fun z12 => ?_)
      · have h := ob_t h z12
        refine lv_iinc (v := v9 + 1) (lv' := [(9, .int (v9 + 1)), (0, .ref P0), (2, .int v2), (3, .int v3), (4, .int v4), (5, .int v5), (6, .int v6), (7, .int v7), (8, .ref (P0 + 1 + v8))]) hx hb dL_holds_620 hl (k := 8) rfl rfl (by decide) rfl (fun ls hl => ?_)
        refine lv_goto (tgt := 43) hx hb dL_holds_623 (by decide) ?_
        exact ih0 v2 v3 v4 v5 v6 v7 v8 (v9 + 1) r10.2 _ _ _ _ _ h hP hS (lv_sub hl [1, 2, 3, 4, 5, 6, 7, 8, 0] rfl) ⟨by omega, by omega⟩
      · have h := ob_f h z12
        refine lv_iconst (v := 0) hx hb dL_holds_618 (by decide) ?_
        refine W.widen (k := 236) (n := 2360) (by omega) (by omega) ?_
        exact rl_Zw C0 hP hS bool_0 h dL_holds_619
set_option maxRecDepth 100000 in
set_option maxHeartbeats 4000000 in
theorem w_L_holds_517 (l : Launch) {V : Int32 × St} (C0 : XC D ct p s m args meth c cL_holds 15 (some .boolean) RL) (xL : Nat) (xs : Nat → Int32) (hE : XS xb xL xs adK adV P0 s) (S : St) {H : Heap} {locs : List Loc} {ls : Array Slot} {cells slots : Nat} (h : (b_L_holds_517 xL xs S).bind some = some V) (hP : ML D ct P0 Hb S H) (hS : va_S (AB P0) s.heap H locs) (hl : lv_has ls 15 []) (hc : cells + 0 ≤ 236 ∧ slots + 10 * 0 ≤ 2360) : W p l e { frames := 11, cells := 236, slots := 2360, locals := 251 } s m args below meth c H locs cells slots (MQ below (qLIw D ct P0 Hb V) args s 236 2360 (AB P0)) (F0 m 517 ls []) := by
  obtain ⟨hx, hb, hr, hml, hown, hts, hK, hlocks, hN⟩ := id C0
  unfold b_L_holds_517 at h
  refine lv_goto (tgt := 559) hx hb dL_holds_517 (by decide) ?_
  refine lv_iconst (v := 0) hx hb dL_holds_559 (by decide) ?_
  refine W.widen (k := 236) (n := 2360) (by omega) (by omega) ?_
  exact rl_Zw C0 hP hS bool_0 h dL_holds_560
set_option maxRecDepth 100000 in
set_option maxHeartbeats 4000000 in
theorem w_L_holds_425 (l : Launch) {V : Int32 × St} (C0 : XC D ct p s m args meth c cL_holds 15 (some .boolean) RL) (xL : Nat) (xs : Nat → Int32) (hE : XS xb xL xs adK adV P0 s) (n0 : Nat) (ih0 : ∀ (v2 : Int32) (v3 : Int32) (v4 : Int32) (v5 : Int32) (v6 : Int32) (v7 : Int32) (v8 : Nat) (v9 : Int32) (S : St) (H : Heap) (locs : List Loc) (ls : Array Slot) (cells slots : Nat), (lp n0 (l_L_holds_43 xL xs) (v2, v3, v4, v5, v6, v7, v8, v9, S)).bind some = some V → ML D ct P0 Hb S H → va_S (AB P0) s.heap H locs → lv_has ls 15 [(0, .ref P0), (2, .int v2), (3, .int v3), (4, .int v4), (5, .int v5), (6, .int v6), (7, .int v7), (8, .ref (P0 + 1 + v8)), (9, .int v9)] → (cells + (n0 * 0 + 0) ≤ 236 ∧ slots + 10 * (n0 * 0 + 0) ≤ 2360) → W p l e { frames := 11, cells := 236, slots := 2360, locals := 251 } s m args below meth c H locs cells slots (MQ below (qLIw D ct P0 Hb V) args s 236 2360 (AB P0)) (F0 m 43 ls [])) (v2 : Int32) (v3 : Int32) (v4 : Int32) (v5 : Int32) (v6 : Int32) (v7 : Int32) (v8 : Nat) (v9 : Int32) (S : St) {H : Heap} {locs : List Loc} {ls : Array Slot} {cells slots : Nat} (h : (b_L_holds_425 xL xs v2 v3 v4 v5 v6 v7 v8 v9 S).bind (lpF n0 (l_L_holds_43 xL xs) some) = some V) (hP : ML D ct P0 Hb S H) (hS : va_S (AB P0) s.heap H locs) (hl : lv_has ls 15 [(0, .ref P0), (2, .int v2), (3, .int v3), (4, .int v4), (5, .int v5), (6, .int v6), (7, .int v7), (8, .ref (P0 + 1 + v8)), (9, .int v9)]) (hc : cells + (0 + (n0 * 0 + 0)) ≤ 236 ∧ slots + 10 * (0 + (n0 * 0 + 0)) ≤ 2360) : W p l e { frames := 11, cells := 236, slots := 2360, locals := 251 } s m args below meth c H locs cells slots (MQ below (qLIw D ct P0 Hb V) args s 236 2360 (AB P0)) (F0 m 425 ls []) := by
  obtain ⟨hx, hb, hr, hml, hown, hts, hK, hlocks, hN⟩ := id C0
  unfold b_L_holds_425 at h
  refine lv_aload_n hx hb dL_holds_425 rfl (lv_at hl 0 rfl) ?_
  refine xl_get (v := .ref (P0 + 1 + 0)) C0 hP 0 (by decide) wd_249 rfl rfl dL_holds_426 ?_
  refine lv_iload hx hb dL_holds_429 (lv_at hl 8 rfl) ?_
  refine lv_bipush (v := 6) hx hb dL_holds_431 (by decide) ?_
  obtain ⟨r1, hr1, h⟩ := ob_bd h
  obtain ⟨g2, h⟩ := ob_gd h
  refine nl_Iw (kV (As := [.int v9, .int 6]) C0 (c_X11_fate l v9 6 hr1) ⟨wd_616, wd_613, wd_614, wd_615, wd_1⟩ kd_X11_fate ⟨Nat.le_of_ble_eq_true rfl, Nat.le_of_ble_eq_true rfl⟩ hP.1 (lay_X11 (P0 + 1) ct S) rfl rfl hl.1 rfl (Nat.le_of_ble_eq_true rfl) dL_holds_433 ⟨by show _ + _ ≤ 236; omega, by show _ + _ ≤ 2360; omega⟩) hP g2 hS (fun H locs hP hS => ?_)
  refine lv_istore (lv' := [(12, .int r1.1), (0, .ref P0), (2, .int v2), (3, .int v3), (4, .int v4), (5, .int v5), (6, .int v6), (7, .int v7), (8, .ref (P0 + 1 + v8)), (9, .int v9)]) hx hb dL_holds_436 hl (by decide) rfl (fun ls hl => ?_)
  refine lv_iload hx hb dL_holds_438 (lv_at hl 7 rfl) ?_
  refine lv_aload_n hx hb dL_holds_440 rfl (lv_at hl 1 rfl) ?_
  refine xl_get (v := .ref (P0 + 1 + 0)) C0 hP 0 (by decide) wd_249 rfl rfl dL_holds_441 ?_
  refine lv_iload hx hb dL_holds_444 (lv_at hl 9 rfl) ?_
  refine lv_iconst (v := 5) hx hb dL_holds_446 (by decide) ?_
  obtain ⟨r3, hr3, h⟩ := ob_bd h
  obtain ⟨g4, h⟩ := ob_gd h
  refine nl_Iw (kV (As := [.int v9, .int 5]) C0 (c_X11_fate l v9 5 hr3) ⟨wd_616, wd_613, wd_614, wd_615, wd_1⟩ kd_X11_fate ⟨Nat.le_of_ble_eq_true rfl, Nat.le_of_ble_eq_true rfl⟩ hP.1 (lay_X11 (P0 + 1) ct r1.2) rfl rfl hl.1 rfl (Nat.le_of_ble_eq_true rfl) dL_holds_447 ⟨by show _ + _ ≤ 236; omega, by show _ + _ ≤ 2360; omega⟩) hP g4 hS (fun H locs hP hS => ?_)
  refine lv_iadd hx hb dL_holds_450 ?_
  refine lv_istore (lv' := [(7, .int (v7 + r3.1)), (12, .int r1.1), (0, .ref P0), (2, .int v2), (3, .int v3), (4, .int v4), (5, .int v5), (6, .int v6), (8, .ref (P0 + 1 + v8)), (9, .int v9)]) hx hb dL_holds_451 hl (by decide) rfl (fun ls hl => ?_)
  refine lv_aload_n hx hb dL_holds_453 rfl (lv_at hl 2 rfl) ?_
  refine xl_get (v := .ref (P0 + 1 + 0)) C0 hP 0 (by decide) wd_249 rfl rfl dL_holds_454 ?_
  refine lv_iload hx hb dL_holds_457 (lv_at hl 9 rfl) ?_
  refine lv_iconst (v := 5) hx hb dL_holds_459 (by decide) ?_
  obtain ⟨r5, hr5, h⟩ := ob_bd h
  obtain ⟨g6, h⟩ := ob_gd h
  refine nl_Iw (kV (As := [.int v9, .int 5]) C0 (c_X11_fate l v9 5 hr5) ⟨wd_616, wd_613, wd_614, wd_615, wd_1⟩ kd_X11_fate ⟨Nat.le_of_ble_eq_true rfl, Nat.le_of_ble_eq_true rfl⟩ hP.1 (lay_X11 (P0 + 1) ct r3.2) rfl rfl hl.1 rfl (Nat.le_of_ble_eq_true rfl) dL_holds_460 ⟨by show _ + _ ≤ 236; omega, by show _ + _ ≤ 2360; omega⟩) hP g6 hS (fun H locs hP hS => ?_)
  refine lv_iconst (v := 1) hx hb dL_holds_463 (by decide) ?_
  refine lv_icmp_ne (tgt := 520) hx hb dL_holds_464 (by decide) (fun z7 => ?_) (fun z7 => ?_)
  · have h := ob_f h z7
    refine lv_iload hx hb dL_holds_520 (lv_at hl 1 rfl) ?_
    refine lv_bipush (v := (-4)) hx hb dL_holds_522 (by decide) ?_
    refine lv_icmp_ne (tgt := 559) hx hb dL_holds_524 (by decide) (fun z8 => ?_) (fun z8 => ?_)
    · have h := ob_f h z8
      refine lv_iconst (v := 0) hx hb dL_holds_559 (by decide) ?_
      refine W.widen (k := 236) (n := 2360) (by omega) (by omega) ?_
      exact rl_Zw C0 hP hS bool_0 h dL_holds_560
    · have h := ob_t h z8
      refine lv_aload_n hx hb dL_holds_527 rfl (lv_at hl 2 rfl) ?_
      refine xl_get (v := .ref (P0 + 1 + 0)) C0 hP 0 (by decide) wd_249 rfl rfl dL_holds_528 ?_
      refine lv_iload hx hb dL_holds_531 (lv_at hl 9 rfl) ?_
      refine lv_bipush (v := 7) hx hb dL_holds_533 (by decide) ?_
      obtain ⟨r9, hr9, h⟩ := ob_bd h
      obtain ⟨g10, h⟩ := ob_gd h
      refine nl_Iw (kV (As := [.int v9, .int 7]) C0 (c_X11_fate l v9 7 hr9) ⟨wd_616, wd_613, wd_614, wd_615, wd_1⟩ kd_X11_fate ⟨Nat.le_of_ble_eq_true rfl, Nat.le_of_ble_eq_true rfl⟩ hP.1 (lay_X11 (P0 + 1) ct r5.2) rfl rfl hl.1 rfl (Nat.le_of_ble_eq_true rfl) dL_holds_535 ⟨by show _ + _ ≤ 236; omega, by show _ + _ ≤ 2360; omega⟩) hP g10 hS (fun H locs hP hS => ?_)
      refine lv_bipush (v := (-4)) hx hb dL_holds_538 (by decide) ?_
      refine lv_icmp_ne (tgt := 559) hx hb dL_holds_540 (by decide) (fun z11 => ?_) (fun z11 => ?_)
      · have h := ob_f h z11
        refine lv_iconst (v := 0) hx hb dL_holds_559 (by decide) ?_
        refine W.widen (k := 236) (n := 2360) (by omega) (by omega) ?_
        exact rl_Zw C0 hP hS bool_0 h dL_holds_560
      · have h := ob_t h z11
        refine lv_aload_n hx hb dL_holds_543 rfl (lv_at hl 2 rfl) ?_
        refine xl_get (v := .ref (P0 + 1 + 0)) C0 hP 0 (by decide) wd_249 rfl rfl dL_holds_544 ?_
        refine lv_iload hx hb dL_holds_547 (lv_at hl 9 rfl) ?_
        refine lv_bipush (v := 8) hx hb dL_holds_549 (by decide) ?_
        obtain ⟨r12, hr12, h⟩ := ob_bd h
        obtain ⟨g13, h⟩ := ob_gd h
        refine nl_Iw (kV (As := [.int v9, .int 8]) C0 (c_X11_fate l v9 8 hr12) ⟨wd_616, wd_613, wd_614, wd_615, wd_1⟩ kd_X11_fate ⟨Nat.le_of_ble_eq_true rfl, Nat.le_of_ble_eq_true rfl⟩ hP.1 (lay_X11 (P0 + 1) ct r9.2) rfl rfl hl.1 rfl (Nat.le_of_ble_eq_true rfl) dL_holds_551 ⟨by show _ + _ ≤ 236; omega, by show _ + _ ≤ 2360; omega⟩) hP g13 hS (fun H locs hP hS => ?_)
        refine lv_bipush (v := (-4)) hx hb dL_holds_554 (by decide) ?_
        refine lv_icmp_eq (tgt := 561) hx hb dL_holds_556 (by decide) (fun z14 => ?_) (fun z14 => ?_)
        · have h := ob_t h z14
          exact w_L_holds_561 l C0 xL xs hE n0 ih0 v2 v3 v4 v5 v6 (v7 + r3.1) v8 v9 r12.2 h hP hS (lv_sub hl [2, 3, 4, 5, 6, 7, 0, 8, 9] rfl) ⟨by omega, by omega⟩
        · have h := ob_f h z14
          refine lv_iconst (v := 0) hx hb dL_holds_559 (by decide) ?_
          refine W.widen (k := 236) (n := 2360) (by omega) (by omega) ?_
          exact rl_Zw C0 hP hS bool_0 h dL_holds_560
  · have h := ob_t h z7
    refine lv_iload hx hb dL_holds_467 (lv_at hl 1 rfl) ?_
    refine lv_aload_n hx hb dL_holds_469 rfl (lv_at hl 2 rfl) ?_
    refine xl_get (v := .ref (P0 + 1 + 0)) C0 hP 0 (by decide) wd_249 rfl rfl dL_holds_470 ?_
    refine lv_iload hx hb dL_holds_473 (lv_at hl 9 rfl) ?_
    refine lv_iconst (v := 4) hx hb dL_holds_475 (by decide) ?_
    obtain ⟨r15, hr15, h⟩ := ob_bd h
    refine nl_I (kV (As := [.int v9, .int 4]) C0 (c_X11_person l v9 4 hr15) ⟨wd_817, wd_814, wd_815, wd_816, wd_1⟩ kd_X11_person ⟨Nat.le_of_ble_eq_true rfl, Nat.le_of_ble_eq_true rfl⟩ hP.1 (lay_X11 (P0 + 1) ct r5.2) rfl rfl hl.1 rfl (Nat.le_of_ble_eq_true rfl) dL_holds_476 ⟨by show _ + _ ≤ 236; omega, by show _ + _ ≤ 2360; omega⟩) hP hS (fun H locs hP hS => ?_)
    refine lv_icmp_le (tgt := 559) hx hb dL_holds_479 (by decide) (fun z16 => ?_) (fun z16 => ?_)
    · have h := ob_t h z16
      refine lv_iconst (v := 0) hx hb dL_holds_559 (by decide) ?_
      refine W.widen (k := 236) (n := 2360) (by omega) (by omega) ?_
      exact rl_Zw C0 hP hS bool_0 h dL_holds_560
    · have h := ob_f h z16
      refine lv_iload hx hb dL_holds_482 (lv_at hl 1 rfl) ?_
      refine lv_aload_n hx hb dL_holds_484 rfl (lv_at hl 2 rfl) ?_
      refine xl_get (v := .ref (P0 + 1 + 0)) C0 hP 0 (by decide) wd_249 rfl rfl dL_holds_485 ?_
      refine lv_iconst (v := 3) hx hb dL_holds_488 (by decide) ?_
      obtain ⟨r17, hr17, h⟩ := ob_bd h
      refine nl_I (kV (As := [.int 3]) C0 (c_X11_count l 3 hr17) ⟨wd_604, wd_601, wd_602, wd_603, wd_1⟩ kd_X11_count ⟨Nat.le_of_ble_eq_true rfl, Nat.le_of_ble_eq_true rfl⟩ hP.1 (lay_X11 (P0 + 1) ct r5.2) rfl rfl hl.1 rfl (Nat.le_of_ble_eq_true rfl) dL_holds_489 ⟨by show _ + _ ≤ 236; omega, by show _ + _ ≤ 2360; omega⟩) hP hS (fun H locs hP hS => ?_)
      refine lv_icmp_lt (tgt := 559) hx hb dL_holds_492 (by decide) (fun z18 => ?_) (fun z18 => ?_)
      · have h := ob_t h z18
        refine lv_iconst (v := 0) hx hb dL_holds_559 (by decide) ?_
        refine W.widen (k := 236) (n := 2360) (by omega) (by omega) ?_
        exact rl_Zw C0 hP hS bool_0 h dL_holds_560
      · have h := ob_f h z18
        refine lv_iload hx hb dL_holds_495 (lv_at hl 1 rfl) ?_
        refine lv_bipush (v := 23) hx hb dL_holds_497 (by decide) ?_
        refine lv_icmp_gt (tgt := 559) hx hb dL_holds_499 (by decide) (fun z19 => ?_) (fun z19 => ?_)
        · have h := ob_t h z19
          refine lv_iconst (v := 0) hx hb dL_holds_559 (by decide) ?_
          refine W.widen (k := 236) (n := 2360) (by omega) (by omega) ?_
          exact rl_Zw C0 hP hS bool_0 h dL_holds_560
        · have h := ob_f h z19
          refine lv_aload_n hx hb dL_holds_502 rfl (lv_at hl 2 rfl) ?_
          refine xl_get (v := .ref (P0 + 1 + 0)) C0 hP 0 (by decide) wd_249 rfl rfl dL_holds_503 ?_
          refine lv_iload hx hb dL_holds_506 (lv_at hl 9 rfl) ?_
          refine lv_bipush (v := 7) hx hb dL_holds_508 (by decide) ?_
          obtain ⟨r20, hr20, h⟩ := ob_bd h
          obtain ⟨g21, h⟩ := ob_gd h
          refine nl_Iw (kV (As := [.int v9, .int 7]) C0 (c_X11_fate l v9 7 hr20) ⟨wd_616, wd_613, wd_614, wd_615, wd_1⟩ kd_X11_fate ⟨Nat.le_of_ble_eq_true rfl, Nat.le_of_ble_eq_true rfl⟩ hP.1 (lay_X11 (P0 + 1) ct r5.2) rfl rfl hl.1 rfl (Nat.le_of_ble_eq_true rfl) dL_holds_510 ⟨by show _ + _ ≤ 236; omega, by show _ + _ ≤ 2360; omega⟩) hP g21 hS (fun H locs hP hS => ?_)
          refine lv_iconst (v := 1) hx hb dL_holds_513 (by decide) ?_
          refine lv_icmp_ge (tgt := 561) hx hb dL_holds_514 (by decide) (fun z22 => ?_) (fun z22 => ?_)
          · have h := ob_t h z22
            exact w_L_holds_561 l C0 xL xs hE n0 ih0 v2 v3 v4 v5 v6 (v7 + r3.1) v8 v9 r20.2 h hP hS (lv_sub hl [2, 3, 4, 5, 6, 7, 0, 8, 9] rfl) ⟨by omega, by omega⟩
          · have h := ob_f h z22
            have h := ob_mp h
            exact w_L_holds_517 l C0 xL xs hE r20.2 h hP hS (lv_sub hl [] rfl) ⟨by omega, by omega⟩
set_option maxRecDepth 100000 in
set_option maxHeartbeats 4000000 in
theorem w_L_holds_416 (l : Launch) {V : Int32 × St} (C0 : XC D ct p s m args meth c cL_holds 15 (some .boolean) RL) (xL : Nat) (xs : Nat → Int32) (hE : XS xb xL xs adK adV P0 s) (n0 : Nat) (ih0 : ∀ (v2 : Int32) (v3 : Int32) (v4 : Int32) (v5 : Int32) (v6 : Int32) (v7 : Int32) (v8 : Nat) (v9 : Int32) (S : St) (H : Heap) (locs : List Loc) (ls : Array Slot) (cells slots : Nat), (lp n0 (l_L_holds_43 xL xs) (v2, v3, v4, v5, v6, v7, v8, v9, S)).bind some = some V → ML D ct P0 Hb S H → va_S (AB P0) s.heap H locs → lv_has ls 15 [(0, .ref P0), (2, .int v2), (3, .int v3), (4, .int v4), (5, .int v5), (6, .int v6), (7, .int v7), (8, .ref (P0 + 1 + v8)), (9, .int v9)] → (cells + (n0 * 0 + 0) ≤ 236 ∧ slots + 10 * (n0 * 0 + 0) ≤ 2360) → W p l e { frames := 11, cells := 236, slots := 2360, locals := 251 } s m args below meth c H locs cells slots (MQ below (qLIw D ct P0 Hb V) args s 236 2360 (AB P0)) (F0 m 43 ls [])) (v2 : Int32) (v3 : Int32) (v4 : Int32) (v5 : Int32) (v6 : Int32) (v7 : Int32) (v8 : Nat) (v9 : Int32) (s0 : Int32) (S : St) {H : Heap} {locs : List Loc} {ls : Array Slot} {cells slots : Nat} (h : (b_L_holds_416 xL xs v2 v3 v4 v5 v6 v7 v8 v9 s0 S).bind (lpF n0 (l_L_holds_43 xL xs) some) = some V) (hP : ML D ct P0 Hb S H) (hS : va_S (AB P0) s.heap H locs) (hl : lv_has ls 15 [(0, .ref P0), (2, .int v2), (3, .int v3), (4, .int v4), (5, .int v5), (6, .int v6), (7, .int v7), (8, .ref (P0 + 1 + v8)), (9, .int v9)]) (hc : cells + (0 + (n0 * 0 + 0)) ≤ 236 ∧ slots + 10 * (0 + (n0 * 0 + 0)) ≤ 2360) : W p l e { frames := 11, cells := 236, slots := 2360, locals := 251 } s m args below meth c H locs cells slots (MQ below (qLIw D ct P0 Hb V) args s 236 2360 (AB P0)) (F0 m 416 ls [.int s0]) := by
  obtain ⟨hx, hb, hr, hml, hown, hts, hK, hlocks, hN⟩ := id C0
  unfold b_L_holds_416 at h
  refine lv_istore (lv' := [(12, .int s0), (0, .ref P0), (2, .int v2), (3, .int v3), (4, .int v4), (5, .int v5), (6, .int v6), (7, .int v7), (8, .ref (P0 + 1 + v8)), (9, .int v9)]) hx hb dL_holds_416 hl (by decide) rfl (fun ls hl => ?_)
  refine lv_iload hx hb dL_holds_418 (lv_at hl 0 rfl) ?_
  refine lv_if_ne (tgt := 425) hx hb dL_holds_420 (by decide) (fun z1 => ?_) (fun z1 => ?_)
  · have h := ob_f h z1
    exact w_L_holds_425 l C0 xL xs hE n0 ih0 v2 v3 v4 v5 v6 v7 v8 v9 S h hP hS (lv_sub hl [1, 2, 3, 4, 5, 6, 7, 8, 9] rfl) ⟨by omega, by omega⟩
  · have h := ob_t h z1
    refine lv_iconst (v := 0) hx hb dL_holds_423 (by decide) ?_
    refine W.widen (k := 236) (n := 2360) (by omega) (by omega) ?_
    exact rl_Zw C0 hP hS bool_0 h dL_holds_424
set_option maxRecDepth 100000 in
set_option maxHeartbeats 4000000 in
theorem w_L_holds_415 (l : Launch) {V : Int32 × St} (C0 : XC D ct p s m args meth c cL_holds 15 (some .boolean) RL) (xL : Nat) (xs : Nat → Int32) (hE : XS xb xL xs adK adV P0 s) (n0 : Nat) (ih0 : ∀ (v2 : Int32) (v3 : Int32) (v4 : Int32) (v5 : Int32) (v6 : Int32) (v7 : Int32) (v8 : Nat) (v9 : Int32) (S : St) (H : Heap) (locs : List Loc) (ls : Array Slot) (cells slots : Nat), (lp n0 (l_L_holds_43 xL xs) (v2, v3, v4, v5, v6, v7, v8, v9, S)).bind some = some V → ML D ct P0 Hb S H → va_S (AB P0) s.heap H locs → lv_has ls 15 [(0, .ref P0), (2, .int v2), (3, .int v3), (4, .int v4), (5, .int v5), (6, .int v6), (7, .int v7), (8, .ref (P0 + 1 + v8)), (9, .int v9)] → (cells + (n0 * 0 + 0) ≤ 236 ∧ slots + 10 * (n0 * 0 + 0) ≤ 2360) → W p l e { frames := 11, cells := 236, slots := 2360, locals := 251 } s m args below meth c H locs cells slots (MQ below (qLIw D ct P0 Hb V) args s 236 2360 (AB P0)) (F0 m 43 ls [])) (v2 : Int32) (v3 : Int32) (v4 : Int32) (v5 : Int32) (v6 : Int32) (v7 : Int32) (v8 : Nat) (v9 : Int32) (S : St) {H : Heap} {locs : List Loc} {ls : Array Slot} {cells slots : Nat} (h : (b_L_holds_415 xL xs v2 v3 v4 v5 v6 v7 v8 v9 S).bind (lpF n0 (l_L_holds_43 xL xs) some) = some V) (hP : ML D ct P0 Hb S H) (hS : va_S (AB P0) s.heap H locs) (hl : lv_has ls 15 [(0, .ref P0), (2, .int v2), (3, .int v3), (4, .int v4), (5, .int v5), (6, .int v6), (7, .int v7), (8, .ref (P0 + 1 + v8)), (9, .int v9)]) (hc : cells + (0 + (n0 * 0 + 0)) ≤ 236 ∧ slots + 10 * (0 + (n0 * 0 + 0)) ≤ 2360) : W p l e { frames := 11, cells := 236, slots := 2360, locals := 251 } s m args below meth c H locs cells slots (MQ below (qLIw D ct P0 Hb V) args s 236 2360 (AB P0)) (F0 m 415 ls []) := by
  obtain ⟨hx, hb, hr, hml, hown, hts, hK, hlocks, hN⟩ := id C0
  unfold b_L_holds_415 at h
  refine lv_iconst (v := 0) hx hb dL_holds_415 (by decide) ?_
  exact w_L_holds_416 l C0 xL xs hE n0 ih0 v2 v3 v4 v5 v6 v7 v8 v9 0 S h hP hS (lv_sub hl [0, 1, 2, 3, 4, 5, 6, 7, 8] rfl) ⟨by omega, by omega⟩
set_option maxRecDepth 100000 in
set_option maxHeartbeats 4000000 in
theorem w_L_holds_330 (l : Launch) {V : Int32 × St} (C0 : XC D ct p s m args meth c cL_holds 15 (some .boolean) RL) (xL : Nat) (xs : Nat → Int32) (hE : XS xb xL xs adK adV P0 s) (n0 : Nat) (ih0 : ∀ (v2 : Int32) (v3 : Int32) (v4 : Int32) (v5 : Int32) (v6 : Int32) (v7 : Int32) (v8 : Nat) (v9 : Int32) (S : St) (H : Heap) (locs : List Loc) (ls : Array Slot) (cells slots : Nat), (lp n0 (l_L_holds_43 xL xs) (v2, v3, v4, v5, v6, v7, v8, v9, S)).bind some = some V → ML D ct P0 Hb S H → va_S (AB P0) s.heap H locs → lv_has ls 15 [(0, .ref P0), (2, .int v2), (3, .int v3), (4, .int v4), (5, .int v5), (6, .int v6), (7, .int v7), (8, .ref (P0 + 1 + v8)), (9, .int v9)] → (cells + (n0 * 0 + 0) ≤ 236 ∧ slots + 10 * (n0 * 0 + 0) ≤ 2360) → W p l e { frames := 11, cells := 236, slots := 2360, locals := 251 } s m args below meth c H locs cells slots (MQ below (qLIw D ct P0 Hb V) args s 236 2360 (AB P0)) (F0 m 43 ls [])) (v2 : Int32) (v3 : Int32) (v4 : Int32) (v5 : Int32) (v6 : Int32) (v7 : Int32) (v8 : Nat) (v9 : Int32) (S : St) {H : Heap} {locs : List Loc} {ls : Array Slot} {cells slots : Nat} (h : (b_L_holds_330 xL xs v2 v3 v4 v5 v6 v7 v8 v9 S).bind (lpF n0 (l_L_holds_43 xL xs) some) = some V) (hP : ML D ct P0 Hb S H) (hS : va_S (AB P0) s.heap H locs) (hl : lv_has ls 15 [(0, .ref P0), (2, .int v2), (3, .int v3), (4, .int v4), (5, .int v5), (6, .int v6), (7, .int v7), (8, .ref (P0 + 1 + v8)), (9, .int v9)]) (hc : cells + (0 + (n0 * 0 + 0)) ≤ 236 ∧ slots + 10 * (0 + (n0 * 0 + 0)) ≤ 2360) : W p l e { frames := 11, cells := 236, slots := 2360, locals := 251 } s m args below meth c H locs cells slots (MQ below (qLIw D ct P0 Hb V) args s 236 2360 (AB P0)) (F0 m 330 ls []) := by
  obtain ⟨hx, hb, hr, hml, hown, hts, hK, hlocks, hN⟩ := id C0
  unfold b_L_holds_330 at h
  refine lv_iconst (v := 0) hx hb dL_holds_330 (by decide) ?_
  refine lv_goto (tgt := 416) hx hb dL_holds_331 (by decide) ?_
  exact w_L_holds_416 l C0 xL xs hE n0 ih0 v2 v3 v4 v5 v6 v7 v8 v9 0 S h hP hS (lv_sub hl [0, 1, 2, 3, 4, 5, 6, 7, 8] rfl) ⟨by omega, by omega⟩
set_option maxRecDepth 100000 in
set_option maxHeartbeats 4000000 in
theorem w_L_holds_323 (l : Launch) {V : Int32 × St} (C0 : XC D ct p s m args meth c cL_holds 15 (some .boolean) RL) (xL : Nat) (xs : Nat → Int32) (hE : XS xb xL xs adK adV P0 s) (n0 : Nat) (ih0 : ∀ (v2 : Int32) (v3 : Int32) (v4 : Int32) (v5 : Int32) (v6 : Int32) (v7 : Int32) (v8 : Nat) (v9 : Int32) (S : St) (H : Heap) (locs : List Loc) (ls : Array Slot) (cells slots : Nat), (lp n0 (l_L_holds_43 xL xs) (v2, v3, v4, v5, v6, v7, v8, v9, S)).bind some = some V → ML D ct P0 Hb S H → va_S (AB P0) s.heap H locs → lv_has ls 15 [(0, .ref P0), (2, .int v2), (3, .int v3), (4, .int v4), (5, .int v5), (6, .int v6), (7, .int v7), (8, .ref (P0 + 1 + v8)), (9, .int v9)] → (cells + (n0 * 0 + 0) ≤ 236 ∧ slots + 10 * (n0 * 0 + 0) ≤ 2360) → W p l e { frames := 11, cells := 236, slots := 2360, locals := 251 } s m args below meth c H locs cells slots (MQ below (qLIw D ct P0 Hb V) args s 236 2360 (AB P0)) (F0 m 43 ls [])) (v2 : Int32) (v3 : Int32) (v4 : Int32) (v5 : Int32) (v6 : Int32) (v7 : Int32) (v8 : Nat) (v9 : Int32) (s0 : Int32) (s1 : Int32) (S : St) {H : Heap} {locs : List Loc} {ls : Array Slot} {cells slots : Nat} (h : (b_L_holds_323 xL xs v2 v3 v4 v5 v6 v7 v8 v9 s0 s1 S).bind (lpF n0 (l_L_holds_43 xL xs) some) = some V) (hP : ML D ct P0 Hb S H) (hS : va_S (AB P0) s.heap H locs) (hl : lv_has ls 15 [(0, .ref P0), (2, .int v2), (3, .int v3), (4, .int v4), (5, .int v5), (6, .int v6), (7, .int v7), (8, .ref (P0 + 1 + v8)), (9, .int v9)]) (hc : cells + (0 + (n0 * 0 + 0)) ≤ 236 ∧ slots + 10 * (0 + (n0 * 0 + 0)) ≤ 2360) : W p l e { frames := 11, cells := 236, slots := 2360, locals := 251 } s m args below meth c H locs cells slots (MQ below (qLIw D ct P0 Hb V) args s 236 2360 (AB P0)) (F0 m 323 ls [.int s0, .int s1]) := by
  obtain ⟨hx, hb, hr, hml, hown, hts, hK, hlocks, hN⟩ := id C0
  unfold b_L_holds_323 at h
  refine lv_icmp_ne (tgt := 330) hx hb dL_holds_323 (by decide) (fun z1 => ?_) (fun z1 => ?_)
  · have h := ob_f h z1
    exact w_L_holds_330 l C0 xL xs hE n0 ih0 v2 v3 v4 v5 v6 v7 v8 v9 S h hP hS (lv_sub hl [0, 1, 2, 3, 4, 5, 6, 7, 8] rfl) ⟨by omega, by omega⟩
  · have h := ob_t h z1
    refine lv_iconst (v := 1) hx hb dL_holds_326 (by decide) ?_
    refine lv_goto (tgt := 416) hx hb dL_holds_327 (by decide) ?_
    exact w_L_holds_416 l C0 xL xs hE n0 ih0 v2 v3 v4 v5 v6 v7 v8 v9 1 S h hP hS (lv_sub hl [0, 1, 2, 3, 4, 5, 6, 7, 8] rfl) ⟨by omega, by omega⟩
set_option maxRecDepth 100000 in
set_option maxHeartbeats 4000000 in
theorem w_L_holds_258 (l : Launch) {V : Int32 × St} (C0 : XC D ct p s m args meth c cL_holds 15 (some .boolean) RL) (xL : Nat) (xs : Nat → Int32) (hE : XS xb xL xs adK adV P0 s) (n0 : Nat) (ih0 : ∀ (v2 : Int32) (v3 : Int32) (v4 : Int32) (v5 : Int32) (v6 : Int32) (v7 : Int32) (v8 : Nat) (v9 : Int32) (S : St) (H : Heap) (locs : List Loc) (ls : Array Slot) (cells slots : Nat), (lp n0 (l_L_holds_43 xL xs) (v2, v3, v4, v5, v6, v7, v8, v9, S)).bind some = some V → ML D ct P0 Hb S H → va_S (AB P0) s.heap H locs → lv_has ls 15 [(0, .ref P0), (2, .int v2), (3, .int v3), (4, .int v4), (5, .int v5), (6, .int v6), (7, .int v7), (8, .ref (P0 + 1 + v8)), (9, .int v9)] → (cells + (n0 * 0 + 0) ≤ 236 ∧ slots + 10 * (n0 * 0 + 0) ≤ 2360) → W p l e { frames := 11, cells := 236, slots := 2360, locals := 251 } s m args below meth c H locs cells slots (MQ below (qLIw D ct P0 Hb V) args s 236 2360 (AB P0)) (F0 m 43 ls [])) (v2 : Int32) (v3 : Int32) (v5 : Int32) (v6 : Int32) (v7 : Int32) (v8 : Nat) (v9 : Int32) (v10 : Int32) (s0 : Int32) (s1 : Int32) (S : St) {H : Heap} {locs : List Loc} {ls : Array Slot} {cells slots : Nat} (h : (b_L_holds_258 xL xs v2 v3 v5 v6 v7 v8 v9 v10 s0 s1 S).bind (lpF n0 (l_L_holds_43 xL xs) some) = some V) (hP : ML D ct P0 Hb S H) (hS : va_S (AB P0) s.heap H locs) (hl : lv_has ls 15 [(0, .ref P0), (2, .int v2), (3, .int v3), (5, .int v5), (6, .int v6), (7, .int v7), (8, .ref (P0 + 1 + v8)), (9, .int v9), (10, .int v10)]) (hc : cells + (0 + (n0 * 0 + 0)) ≤ 236 ∧ slots + 10 * (0 + (n0 * 0 + 0)) ≤ 2360) : W p l e { frames := 11, cells := 236, slots := 2360, locals := 251 } s m args below meth c H locs cells slots (MQ below (qLIw D ct P0 Hb V) args s 236 2360 (AB P0)) (F0 m 258 ls [.int s0, .int s1]) := by
  obtain ⟨hx, hb, hr, hml, hown, hts, hK, hlocks, hN⟩ := id C0
  unfold b_L_holds_258 at h
  refine lv_iadd hx hb dL_holds_258 ?_
  refine lv_istore (lv' := [(4, .int (s1 + s0)), (0, .ref P0), (2, .int v2), (3, .int v3), (5, .int v5), (6, .int v6), (7, .int v7), (8, .ref (P0 + 1 + v8)), (9, .int v9), (10, .int v10)]) hx hb dL_holds_259 hl (by decide) rfl (fun ls hl => ?_)
  refine lv_iload hx hb dL_holds_261 (lv_at hl 9 rfl) ?_
  refine lv_bipush (v := 7) hx hb dL_holds_263 (by decide) ?_
  refine lv_icmp_le (tgt := 334) hx hb dL_holds_265 (by decide) (fun z1 => ?_) (fun z1 => ?_)
  · have h := ob_t h z1
    refine lv_aload_n hx hb dL_holds_334 rfl (lv_at hl 1 rfl) ?_
    refine xl_get (v := .ref (P0 + 1 + 0)) C0 hP 0 (by decide) wd_249 rfl rfl dL_holds_335 ?_
    refine lv_iload hx hb dL_holds_338 (lv_at hl 9 rfl) ?_
    refine lv_bipush (v := 8) hx hb dL_holds_340 (by decide) ?_
    obtain ⟨r2, hr2, h⟩ := ob_bd h
    obtain ⟨g3, h⟩ := ob_gd h
    refine nl_Iw (kV (As := [.int v10, .int 8]) C0 (c_X11_fate l v10 8 hr2) ⟨wd_616, wd_613, wd_614, wd_615, wd_1⟩ kd_X11_fate ⟨Nat.le_of_ble_eq_true rfl, Nat.le_of_ble_eq_true rfl⟩ hP.1 (lay_X11 (P0 + 1) ct S) rfl rfl hl.1 rfl (Nat.le_of_ble_eq_true rfl) dL_holds_342 ⟨by show _ + _ ≤ 236; omega, by show _ + _ ≤ 2360; omega⟩) hP g3 hS (fun H locs hP hS => ?_)
    refine lv_iload hx hb dL_holds_345 (lv_at hl 8 rfl) ?_
    refine lv_icmp_ne (tgt := 415) hx hb dL_holds_347 (by decide) (fun z4 => ?_) (fun z4 => ?_)
    · have h := ob_f h z4
      exact w_L_holds_415 l C0 xL xs hE n0 ih0 v2 v3 (s1 + s0) v5 v6 v7 v8 v9 r2.2 h hP hS (lv_sub hl [1, 2, 3, 0, 4, 5, 6, 7, 8] rfl) ⟨by omega, by omega⟩
    · have h := ob_t h z4
      refine lv_aload_n hx hb dL_holds_350 rfl (lv_at hl 1 rfl) ?_
      refine xl_get (v := .ref (P0 + 1 + 0)) C0 hP 0 (by decide) wd_249 rfl rfl dL_holds_351 ?_
      refine lv_iload hx hb dL_holds_354 (lv_at hl 8 rfl) ?_
      obtain ⟨r5, hr5, h⟩ := ob_bd h
      obtain ⟨g6, h⟩ := ob_gd h
      refine nl_Iw (kV (As := [.int v9]) C0 (c_X11_chain l v9 hr5) ⟨wd_801, wd_798, wd_799, wd_800, wd_1⟩ kd_X11_chain ⟨Nat.le_of_ble_eq_true rfl, Nat.le_of_ble_eq_true rfl⟩ hP.1 (lay_X11 (P0 + 1) ct r2.2) rfl rfl hl.1 rfl (Nat.le_of_ble_eq_true rfl) dL_holds_356 ⟨by show _ + _ ≤ 236; omega, by show _ + _ ≤ 2360; omega⟩) hP g6 hS (fun H locs hP hS => ?_)
      refine lv_aload_n hx hb dL_holds_359 rfl (lv_at hl 1 rfl) ?_
      refine xl_get (v := .ref (P0 + 1 + 0)) C0 hP 0 (by decide) wd_249 rfl rfl dL_holds_360 ?_
      refine lv_iload hx hb dL_holds_363 (lv_at hl 9 rfl) ?_
      obtain ⟨r7, hr7, h⟩ := ob_bd h
      obtain ⟨g8, h⟩ := ob_gd h
      refine nl_Iw (kV (As := [.int v10]) C0 (c_X11_chain l v10 hr7) ⟨wd_801, wd_798, wd_799, wd_800, wd_1⟩ kd_X11_chain ⟨Nat.le_of_ble_eq_true rfl, Nat.le_of_ble_eq_true rfl⟩ hP.1 (lay_X11 (P0 + 1) ct r5.2) rfl rfl hl.1 rfl (Nat.le_of_ble_eq_true rfl) dL_holds_365 ⟨by show _ + _ ≤ 236; omega, by show _ + _ ≤ 2360; omega⟩) hP g8 hS (fun H locs hP hS => ?_)
      refine lv_iconst (v := 1) hx hb dL_holds_368 (by decide) ?_
      refine lv_iadd hx hb dL_holds_369 ?_
      refine lv_icmp_ne (tgt := 415) hx hb dL_holds_370 (by decide) (fun z9 => ?_) (fun z9 => ?_)
      · have h := ob_f h z9
        exact w_L_holds_415 l C0 xL xs hE n0 ih0 v2 v3 (s1 + s0) v5 v6 v7 v8 v9 r7.2 h hP hS (lv_sub hl [1, 2, 3, 0, 4, 5, 6, 7, 8] rfl) ⟨by omega, by omega⟩
      · have h := ob_t h z9
        refine lv_aload_n hx hb dL_holds_373 rfl (lv_at hl 1 rfl) ?_
        refine xl_get (v := .ref (P0 + 1 + 0)) C0 hP 0 (by decide) wd_249 rfl rfl dL_holds_374 ?_
        refine lv_iload hx hb dL_holds_377 (lv_at hl 9 rfl) ?_
        refine lv_iconst (v := 5) hx hb dL_holds_379 (by decide) ?_
        obtain ⟨r10, hr10, h⟩ := ob_bd h
        obtain ⟨g11, h⟩ := ob_gd h
        refine nl_Iw (kV (As := [.int v10, .int 5]) C0 (c_X11_fate l v10 5 hr10) ⟨wd_616, wd_613, wd_614, wd_615, wd_1⟩ kd_X11_fate ⟨Nat.le_of_ble_eq_true rfl, Nat.le_of_ble_eq_true rfl⟩ hP.1 (lay_X11 (P0 + 1) ct r7.2) rfl rfl hl.1 rfl (Nat.le_of_ble_eq_true rfl) dL_holds_380 ⟨by show _ + _ ≤ 236; omega, by show _ + _ ≤ 2360; omega⟩) hP g11 hS (fun H locs hP hS => ?_)
        refine lv_iconst (v := 1) hx hb dL_holds_383 (by decide) ?_
        refine lv_icmp_ne (tgt := 415) hx hb dL_holds_384 (by decide) (fun z12 => ?_) (fun z12 => ?_)
        · have h := ob_f h z12
          exact w_L_holds_415 l C0 xL xs hE n0 ih0 v2 v3 (s1 + s0) v5 v6 v7 v8 v9 r10.2 h hP hS (lv_sub hl [1, 2, 3, 0, 4, 5, 6, 7, 8] rfl) ⟨by omega, by omega⟩
        · have h := ob_t h z12
          refine lv_aload_n hx hb dL_holds_387 rfl (lv_at hl 1 rfl) ?_
          refine xl_get (v := .ref (P0 + 1 + 0)) C0 hP 0 (by decide) wd_249 rfl rfl dL_holds_388 ?_
          refine lv_iload hx hb dL_holds_391 (lv_at hl 9 rfl) ?_
          refine lv_bipush (v := 6) hx hb dL_holds_393 (by decide) ?_
          obtain ⟨r13, hr13, h⟩ := ob_bd h
          obtain ⟨g14, h⟩ := ob_gd h
          refine nl_Iw (kV (As := [.int v10, .int 6]) C0 (c_X11_fate l v10 6 hr13) ⟨wd_616, wd_613, wd_614, wd_615, wd_1⟩ kd_X11_fate ⟨Nat.le_of_ble_eq_true rfl, Nat.le_of_ble_eq_true rfl⟩ hP.1 (lay_X11 (P0 + 1) ct r10.2) rfl rfl hl.1 rfl (Nat.le_of_ble_eq_true rfl) dL_holds_395 ⟨by show _ + _ ≤ 236; omega, by show _ + _ ≤ 2360; omega⟩) hP g14 hS (fun H locs hP hS => ?_)
          refine lv_aload_n hx hb dL_holds_398 rfl (lv_at hl 1 rfl) ?_
          refine xl_get (v := .ref (P0 + 1 + 0)) C0 hP 0 (by decide) wd_249 rfl rfl dL_holds_399 ?_
          refine lv_iload hx hb dL_holds_402 (lv_at hl 8 rfl) ?_
          refine lv_iconst (v := 4) hx hb dL_holds_404 (by decide) ?_
          obtain ⟨r15, hr15, h⟩ := ob_bd h
          refine nl_I (kV (As := [.int v9, .int 4]) C0 (c_X11_person l v9 4 hr15) ⟨wd_817, wd_814, wd_815, wd_816, wd_1⟩ kd_X11_person ⟨Nat.le_of_ble_eq_true rfl, Nat.le_of_ble_eq_true rfl⟩ hP.1 (lay_X11 (P0 + 1) ct r13.2) rfl rfl hl.1 rfl (Nat.le_of_ble_eq_true rfl) dL_holds_405 ⟨by show _ + _ ≤ 236; omega, by show _ + _ ≤ 2360; omega⟩) hP hS (fun H locs hP hS => ?_)
          refine lv_icmp_gt (tgt := 415) hx hb dL_holds_408 (by decide) (fun z16 => ?_) (fun z16 => ?_)
          · have h := ob_t h z16
            exact w_L_holds_415 l C0 xL xs hE n0 ih0 v2 v3 (s1 + s0) v5 v6 v7 v8 v9 r13.2 h hP hS (lv_sub hl [1, 2, 3, 0, 4, 5, 6, 7, 8] rfl) ⟨by omega, by omega⟩
          · have h := ob_f h z16
            refine lv_iconst (v := 1) hx hb dL_holds_411 (by decide) ?_
            refine lv_goto (tgt := 416) hx hb dL_holds_412 (by decide) ?_
            exact w_L_holds_416 l C0 xL xs hE n0 ih0 v2 v3 (s1 + s0) v5 v6 v7 v8 v9 1 r13.2 h hP hS (lv_sub hl [1, 2, 3, 0, 4, 5, 6, 7, 8] rfl) ⟨by omega, by omega⟩
  · have h := ob_f h z1
    refine lv_aload_n hx hb dL_holds_268 rfl (lv_at hl 1 rfl) ?_
    refine xl_get (v := .ref (P0 + 1 + 0)) C0 hP 0 (by decide) wd_249 rfl rfl dL_holds_269 ?_
    refine lv_iload hx hb dL_holds_272 (lv_at hl 8 rfl) ?_
    obtain ⟨r17, hr17, h⟩ := ob_bd h
    obtain ⟨g18, h⟩ := ob_gd h
    refine nl_Iw (kV (As := [.int v9]) C0 (c_X11_chain l v9 hr17) ⟨wd_801, wd_798, wd_799, wd_800, wd_1⟩ kd_X11_chain ⟨Nat.le_of_ble_eq_true rfl, Nat.le_of_ble_eq_true rfl⟩ hP.1 (lay_X11 (P0 + 1) ct S) rfl rfl hl.1 rfl (Nat.le_of_ble_eq_true rfl) dL_holds_274 ⟨by show _ + _ ≤ 236; omega, by show _ + _ ≤ 2360; omega⟩) hP g18 hS (fun H locs hP hS => ?_)
    refine lv_iconst (v := 1) hx hb dL_holds_277 (by decide) ?_
    refine lv_icmp_ne (tgt := 330) hx hb dL_holds_278 (by decide) (fun z19 => ?_) (fun z19 => ?_)
    · have h := ob_f h z19
      exact w_L_holds_330 l C0 xL xs hE n0 ih0 v2 v3 (s1 + s0) v5 v6 v7 v8 v9 r17.2 h hP hS (lv_sub hl [1, 2, 3, 0, 4, 5, 6, 7, 8] rfl) ⟨by omega, by omega⟩
    · have h := ob_t h z19
      refine lv_iload hx hb dL_holds_281 (lv_at hl 9 rfl) ?_
      refine lv_bipush (v := 8) hx hb dL_holds_283 (by decide) ?_
      refine lv_isub hx hb dL_holds_285 ?_
      refine lv_aload_n hx hb dL_holds_286 rfl (lv_at hl 1 rfl) ?_
      refine xl_get (v := .int (gi r17.2 136 5)) C0 hP 5 (by decide) wd_254 rfl rfl dL_holds_287 ?_
      refine lv_icmp_ge (tgt := 330) hx hb dL_holds_290 (by decide) (fun z20 => ?_) (fun z20 => ?_)
      · have h := ob_t h z20
        exact w_L_holds_330 l C0 xL xs hE n0 ih0 v2 v3 (s1 + s0) v5 v6 v7 v8 v9 r17.2 h hP hS (lv_sub hl [1, 2, 3, 0, 4, 5, 6, 7, 8] rfl) ⟨by omega, by omega⟩
      · have h := ob_f h z20
        refine lv_aload_n hx hb dL_holds_293 rfl (lv_at hl 1 rfl) ?_
        refine xl_get (v := .ref (P0 + 1 + 0)) C0 hP 0 (by decide) wd_249 rfl rfl dL_holds_294 ?_
        refine lv_iload hx hb dL_holds_297 (lv_at hl 8 rfl) ?_
        refine lv_iconst (v := 0) hx hb dL_holds_299 (by decide) ?_
        obtain ⟨r21, hr21, h⟩ := ob_bd h
        obtain ⟨g22, h⟩ := ob_gd h
        refine nl_Iw (kV (As := [.int v9, .int 0]) C0 (c_X11_fate l v9 0 hr21) ⟨wd_616, wd_613, wd_614, wd_615, wd_1⟩ kd_X11_fate ⟨Nat.le_of_ble_eq_true rfl, Nat.le_of_ble_eq_true rfl⟩ hP.1 (lay_X11 (P0 + 1) ct r17.2) rfl rfl hl.1 rfl (Nat.le_of_ble_eq_true rfl) dL_holds_300 ⟨by show _ + _ ≤ 236; omega, by show _ + _ ≤ 2360; omega⟩) hP g22 hS (fun H locs hP hS => ?_)
        refine lv_aload_n hx hb dL_holds_303 rfl (lv_at hl 1 rfl) ?_
        refine xl_get (v := .ref (P0 + 1 + 152)) C0 hP 6 (by decide) wd_255 rfl rfl dL_holds_304 ?_
        refine lv_iload hx hb dL_holds_307 (lv_at hl 9 rfl) ?_
        refine lv_bipush (v := 8) hx hb dL_holds_309 (by decide) ?_
        refine lv_isub hx hb dL_holds_311 ?_
        obtain ⟨g23, h⟩ := ob_gd h
        obtain ⟨q24, eq24, h⟩ := ob_bd h
        refine x_aald (v := .ref (P0 + 1 + q24)) C0 hP.1 (lay_152 (P0 + 1) ct r21.2) rfl rfl g23 (by show va_rf ((gr r21.2 152 (v10 - 8).toNatClampNeg).map (P0 + 1 + ·)) = _; rw [eq24]; rfl) dL_holds_312 ?_
        refine lv_iconst (v := 1) hx hb dL_holds_313 (by decide) ?_
        obtain ⟨n26, en26, h⟩ := ob_bd h
        obtain ⟨g25, h⟩ := ob_gd h
        refine x_iald C0 hP.1 (lay_dy (P0 + 1) ct en26) g25 dL_holds_314 ?_
        refine lv_if_le (tgt := 322) hx hb dL_holds_315 (by decide) (fun z27 => ?_) (fun z27 => ?_)
        · have h := ob_t h z27
          refine lv_iconst (v := 2) hx hb dL_holds_322 (by decide) ?_
          exact w_L_holds_323 l C0 xL xs hE n0 ih0 v2 v3 (s1 + s0) v5 v6 v7 v8 v9 2 r21.1 r21.2 h hP hS (lv_sub hl [1, 2, 3, 0, 4, 5, 6, 7, 8] rfl) ⟨by omega, by omega⟩
        · have h := ob_f h z27
          refine lv_iconst (v := 1) hx hb dL_holds_318 (by decide) ?_
          refine lv_goto (tgt := 323) hx hb dL_holds_319 (by decide) ?_
          exact w_L_holds_323 l C0 xL xs hE n0 ih0 v2 v3 (s1 + s0) v5 v6 v7 v8 v9 1 r21.1 r21.2 h hP hS (lv_sub hl [1, 2, 3, 0, 4, 5, 6, 7, 8] rfl) ⟨by omega, by omega⟩
set_option maxRecDepth 100000 in
set_option maxHeartbeats 4000000 in
theorem w_L_holds_228 (l : Launch) {V : Int32 × St} (C0 : XC D ct p s m args meth c cL_holds 15 (some .boolean) RL) (xL : Nat) (xs : Nat → Int32) (hE : XS xb xL xs adK adV P0 s) (n0 : Nat) (ih0 : ∀ (v2 : Int32) (v3 : Int32) (v4 : Int32) (v5 : Int32) (v6 : Int32) (v7 : Int32) (v8 : Nat) (v9 : Int32) (S : St) (H : Heap) (locs : List Loc) (ls : Array Slot) (cells slots : Nat), (lp n0 (l_L_holds_43 xL xs) (v2, v3, v4, v5, v6, v7, v8, v9, S)).bind some = some V → ML D ct P0 Hb S H → va_S (AB P0) s.heap H locs → lv_has ls 15 [(0, .ref P0), (2, .int v2), (3, .int v3), (4, .int v4), (5, .int v5), (6, .int v6), (7, .int v7), (8, .ref (P0 + 1 + v8)), (9, .int v9)] → (cells + (n0 * 0 + 0) ≤ 236 ∧ slots + 10 * (n0 * 0 + 0) ≤ 2360) → W p l e { frames := 11, cells := 236, slots := 2360, locals := 251 } s m args below meth c H locs cells slots (MQ below (qLIw D ct P0 Hb V) args s 236 2360 (AB P0)) (F0 m 43 ls [])) (v2 : Int32) (v3 : Int32) (v4 : Int32) (v5 : Int32) (v6 : Int32) (v7 : Int32) (v8 : Nat) (v9 : Int32) (v10 : Int32) (v11 : Int32) (S : St) {H : Heap} {locs : List Loc} {ls : Array Slot} {cells slots : Nat} (h : (b_L_holds_228 xL xs v2 v3 v4 v5 v6 v7 v8 v9 v10 v11 S).bind (lpF n0 (l_L_holds_43 xL xs) some) = some V) (hP : ML D ct P0 Hb S H) (hS : va_S (AB P0) s.heap H locs) (hl : lv_has ls 15 [(0, .ref P0), (2, .int v2), (3, .int v3), (4, .int v4), (5, .int v5), (6, .int v6), (7, .int v7), (8, .ref (P0 + 1 + v8)), (9, .int v9), (10, .int v10), (11, .int v11)]) (hc : cells + (0 + (n0 * 0 + 0)) ≤ 236 ∧ slots + 10 * (0 + (n0 * 0 + 0)) ≤ 2360) : W p l e { frames := 11, cells := 236, slots := 2360, locals := 251 } s m args below meth c H locs cells slots (MQ below (qLIw D ct P0 Hb V) args s 236 2360 (AB P0)) (F0 m 228 ls []) := by
  obtain ⟨hx, hb, hr, hml, hown, hts, hK, hlocks, hN⟩ := id C0
  unfold b_L_holds_228 at h
  refine lv_iload hx hb dL_holds_228 (lv_at hl 9 rfl) ?_
  refine lv_if_lt (tgt := 425) hx hb dL_holds_230 (by decide) (fun z1 => ?_) (fun z1 => ?_)
  · have h := ob_t h z1
    exact w_L_holds_425 l C0 xL xs hE n0 ih0 v2 v3 v4 v5 v6 v7 v8 v9 S h hP hS (lv_sub hl [0, 1, 2, 3, 4, 5, 6, 7, 8] rfl) ⟨by omega, by omega⟩
  · have h := ob_f h z1
    refine lv_iinc (v := v5 + 1) (lv' := [(5, .int (v5 + 1)), (0, .ref P0), (2, .int v2), (3, .int v3), (4, .int v4), (6, .int v6), (7, .int v7), (8, .ref (P0 + 1 + v8)), (9, .int v9), (10, .int v10), (11, .int v11)]) hx hb dL_holds_233 hl (k := 4) rfl rfl (by decide) rfl (fun ls hl => ?_)
    refine lv_iload hx hb dL_holds_236 (lv_at hl 5 rfl) ?_
    refine lv_iload hx hb dL_holds_238 (lv_at hl 10 rfl) ?_
    refine lv_iadd hx hb dL_holds_240 ?_
    refine lv_istore (lv' := [(6, .int (v6 + v11)), (5, .int (v5 + 1)), (0, .ref P0), (2, .int v2), (3, .int v3), (4, .int v4), (7, .int v7), (8, .ref (P0 + 1 + v8)), (9, .int v9), (10, .int v10), (11, .int v11)]) hx hb dL_holds_241 hl (by decide) rfl (fun ls hl => ?_)
    refine lv_iload hx hb dL_holds_243 (lv_at hl 5 rfl) ?_
    refine lv_iload hx hb dL_holds_245 (lv_at hl 9 rfl) ?_
    refine lv_bipush (v := 7) hx hb dL_holds_247 (by decide) ?_
    refine lv_icmp_le (tgt := 257) hx hb dL_holds_249 (by decide) (fun z2 => ?_) (fun z2 => ?_)
    · have h := ob_t h z2
      refine lv_iconst (v := 0) hx hb dL_holds_257 (by decide) ?_
      exact w_L_holds_258 l C0 xL xs hE n0 ih0 v2 v3 (v5 + 1) (v6 + v11) v7 v8 v9 v10 0 v4 S h hP hS (lv_sub hl [2, 3, 4, 1, 0, 6, 7, 8, 9] rfl) ⟨by omega, by omega⟩
    · have h := ob_f h z2
      refine lv_iload hx hb dL_holds_252 (lv_at hl 10 rfl) ?_
      refine lv_goto (tgt := 258) hx hb dL_holds_254 (by decide) ?_
      exact w_L_holds_258 l C0 xL xs hE n0 ih0 v2 v3 (v5 + 1) (v6 + v11) v7 v8 v9 v10 v11 v4 S h hP hS (lv_sub hl [2, 3, 4, 1, 0, 6, 7, 8, 9] rfl) ⟨by omega, by omega⟩
set_option maxRecDepth 100000 in
set_option maxHeartbeats 4000000 in
theorem w_L_holds_181 (l : Launch) {V : Int32 × St} (C0 : XC D ct p s m args meth c cL_holds 15 (some .boolean) RL) (xL : Nat) (xs : Nat → Int32) (hE : XS xb xL xs adK adV P0 s) (S : St) {H : Heap} {locs : List Loc} {ls : Array Slot} {cells slots : Nat} (h : (b_L_holds_181 xL xs S).bind some = some V) (hP : ML D ct P0 Hb S H) (hS : va_S (AB P0) s.heap H locs) (hl : lv_has ls 15 []) (hc : cells + 0 ≤ 236 ∧ slots + 10 * 0 ≤ 2360) : W p l e { frames := 11, cells := 236, slots := 2360, locals := 251 } s m args below meth c H locs cells slots (MQ below (qLIw D ct P0 Hb V) args s 236 2360 (AB P0)) (F0 m 181 ls []) := by
  obtain ⟨hx, hb, hr, hml, hown, hts, hK, hlocks, hN⟩ := id C0
  unfold b_L_holds_181 at h
  refine lv_goto (tgt := 226) hx hb dL_holds_181 (by decide) ?_
  refine lv_iconst (v := 0) hx hb dL_holds_226 (by decide) ?_
  refine W.widen (k := 236) (n := 2360) (by omega) (by omega) ?_
  exact rl_Zw C0 hP hS bool_0 h dL_holds_227
set_option maxRecDepth 100000 in
set_option maxHeartbeats 4000000 in
theorem w_L_holds_165 (l : Launch) {V : Int32 × St} (C0 : XC D ct p s m args meth c cL_holds 15 (some .boolean) RL) (xL : Nat) (xs : Nat → Int32) (hE : XS xb xL xs adK adV P0 s) (n0 : Nat) (ih0 : ∀ (v2 : Int32) (v3 : Int32) (v4 : Int32) (v5 : Int32) (v6 : Int32) (v7 : Int32) (v8 : Nat) (v9 : Int32) (S : St) (H : Heap) (locs : List Loc) (ls : Array Slot) (cells slots : Nat), (lp n0 (l_L_holds_43 xL xs) (v2, v3, v4, v5, v6, v7, v8, v9, S)).bind some = some V → ML D ct P0 Hb S H → va_S (AB P0) s.heap H locs → lv_has ls 15 [(0, .ref P0), (2, .int v2), (3, .int v3), (4, .int v4), (5, .int v5), (6, .int v6), (7, .int v7), (8, .ref (P0 + 1 + v8)), (9, .int v9)] → (cells + (n0 * 0 + 0) ≤ 236 ∧ slots + 10 * (n0 * 0 + 0) ≤ 2360) → W p l e { frames := 11, cells := 236, slots := 2360, locals := 251 } s m args below meth c H locs cells slots (MQ below (qLIw D ct P0 Hb V) args s 236 2360 (AB P0)) (F0 m 43 ls [])) (v2 : Int32) (v3 : Int32) (v4 : Int32) (v5 : Int32) (v6 : Int32) (v7 : Int32) (v8 : Nat) (v9 : Int32) (v10 : Int32) (v11 : Int32) (s0 : Int32) (S : St) {H : Heap} {locs : List Loc} {ls : Array Slot} {cells slots : Nat} (h : (b_L_holds_165 xL xs v2 v3 v4 v5 v6 v7 v8 v9 v10 v11 s0 S).bind (lpF n0 (l_L_holds_43 xL xs) some) = some V) (hP : ML D ct P0 Hb S H) (hS : va_S (AB P0) s.heap H locs) (hl : lv_has ls 15 [(0, .ref P0), (2, .int v2), (3, .int v3), (4, .int v4), (5, .int v5), (6, .int v6), (7, .int v7), (8, .ref (P0 + 1 + v8)), (9, .int v9), (10, .int v10), (11, .int v11)]) (hc : cells + (0 + (n0 * 0 + 0)) ≤ 236 ∧ slots + 10 * (0 + (n0 * 0 + 0)) ≤ 2360) : W p l e { frames := 11, cells := 236, slots := 2360, locals := 251 } s m args below meth c H locs cells slots (MQ below (qLIw D ct P0 Hb V) args s 236 2360 (AB P0)) (F0 m 165 ls [.int s0]) := by
  obtain ⟨hx, hb, hr, hml, hown, hts, hK, hlocks, hN⟩ := id C0
  unfold b_L_holds_165 at h
  obtain ⟨r1, hr1, h⟩ := ob_bd h
  refine nL_I (kLS (As := [.int s0]) C0 hE hS (c_L_told l xL xs s0 hr1) ⟨wd_813, wd_811, wd_812, wd_0⟩ kd_L_told ⟨Nat.le_of_ble_eq_true rfl, Nat.le_of_ble_eq_true rfl⟩ hP rfl hl.1 rfl (Nat.le_of_ble_eq_true rfl) dL_holds_165 ⟨by show _ + _ ≤ 236; omega, by show _ + _ ≤ 2360; omega⟩) hS (fun H locs hP hS => ?_)
  refine lv_aload_n hx hb dL_holds_168 rfl (lv_at hl 0 rfl) ?_
  refine xl_get (v := .ref (P0 + 1 + 0)) C0 hP 0 (by decide) wd_249 rfl rfl dL_holds_169 ?_
  refine lv_iload hx hb dL_holds_172 (lv_at hl 8 rfl) ?_
  refine lv_iconst (v := 0) hx hb dL_holds_174 (by decide) ?_
  obtain ⟨r2, hr2, h⟩ := ob_bd h
  obtain ⟨g3, h⟩ := ob_gd h
  refine nl_Iw (kV (As := [.int v9, .int 0]) C0 (c_X11_fate l v9 0 hr2) ⟨wd_616, wd_613, wd_614, wd_615, wd_1⟩ kd_X11_fate ⟨Nat.le_of_ble_eq_true rfl, Nat.le_of_ble_eq_true rfl⟩ hP.1 (lay_X11 (P0 + 1) ct S) rfl rfl hl.1 rfl (Nat.le_of_ble_eq_true rfl) dL_holds_175 ⟨by show _ + _ ≤ 236; omega, by show _ + _ ≤ 2360; omega⟩) hP g3 hS (fun H locs hP hS => ?_)
  refine lv_icmp_eq (tgt := 228) hx hb dL_holds_178 (by decide) (fun z4 => ?_) (fun z4 => ?_)
  · have h := ob_t h z4
    exact w_L_holds_228 l C0 xL xs hE n0 ih0 v2 v3 v4 v5 v6 v7 v8 v9 v10 v11 r2.2 h hP hS (lv_sub hl [0, 1, 2, 3, 4, 5, 6, 7, 8, 9, 10] rfl) ⟨by omega, by omega⟩
  · have h := ob_f h z4
    have h := ob_mp h
    exact w_L_holds_181 l C0 xL xs hE r2.2 h hP hS (lv_sub hl [] rfl) ⟨by omega, by omega⟩
set_option maxRecDepth 100000 in
set_option maxHeartbeats 4000000 in
theorem w_L_holds_43 (l : Launch) {V : Int32 × St} (C0 : XC D ct p s m args meth c cL_holds 15 (some .boolean) RL) (xL : Nat) (xs : Nat → Int32) (hE : XS xb xL xs adK adV P0 s) (n0 : Nat) (ih0 : ∀ (v2 : Int32) (v3 : Int32) (v4 : Int32) (v5 : Int32) (v6 : Int32) (v7 : Int32) (v8 : Nat) (v9 : Int32) (S : St) (H : Heap) (locs : List Loc) (ls : Array Slot) (cells slots : Nat), (lp n0 (l_L_holds_43 xL xs) (v2, v3, v4, v5, v6, v7, v8, v9, S)).bind some = some V → ML D ct P0 Hb S H → va_S (AB P0) s.heap H locs → lv_has ls 15 [(0, .ref P0), (2, .int v2), (3, .int v3), (4, .int v4), (5, .int v5), (6, .int v6), (7, .int v7), (8, .ref (P0 + 1 + v8)), (9, .int v9)] → (cells + (n0 * 0 + 0) ≤ 236 ∧ slots + 10 * (n0 * 0 + 0) ≤ 2360) → W p l e { frames := 11, cells := 236, slots := 2360, locals := 251 } s m args below meth c H locs cells slots (MQ below (qLIw D ct P0 Hb V) args s 236 2360 (AB P0)) (F0 m 43 ls [])) (v2 : Int32) (v3 : Int32) (v4 : Int32) (v5 : Int32) (v6 : Int32) (v7 : Int32) (v8 : Nat) (v9 : Int32) (S : St) {H : Heap} {locs : List Loc} {ls : Array Slot} {cells slots : Nat} (h : (b_L_holds_43 xL xs v2 v3 v4 v5 v6 v7 v8 v9 S).bind (lpF n0 (l_L_holds_43 xL xs) some) = some V) (hP : ML D ct P0 Hb S H) (hS : va_S (AB P0) s.heap H locs) (hl : lv_has ls 15 [(0, .ref P0), (2, .int v2), (3, .int v3), (4, .int v4), (5, .int v5), (6, .int v6), (7, .int v7), (8, .ref (P0 + 1 + v8)), (9, .int v9)]) (hc : cells + ((n0 + 1) * 0 + 0) ≤ 236 ∧ slots + 10 * ((n0 + 1) * 0 + 0) ≤ 2360) : W p l e { frames := 11, cells := 236, slots := 2360, locals := 251 } s m args below meth c H locs cells slots (MQ below (qLIw D ct P0 Hb V) args s 236 2360 (AB P0)) (F0 m 43 ls []) := by
  obtain ⟨hx, hb, hr, hml, hown, hts, hK, hlocks, hN⟩ := id C0
  unfold b_L_holds_43 at h
  refine lv_iload hx hb dL_holds_43 (lv_at hl 8 rfl) ?_
  refine lv_aload_n hx hb dL_holds_45 rfl (lv_at hl 0 rfl) ?_
  refine xl_get (v := .int (gi S 136 1)) C0 hP 1 (by decide) wd_250 rfl rfl dL_holds_46 ?_
  refine lv_icmp_ge (tgt := 626) hx hb dL_holds_49 (by decide) (fun z1 => ?_) (fun z1 => ?_)
  · have h := ob_t h z1
    have h := ob_mp h
    exact w_L_holds_626 l C0 xL xs hE v2 v3 v4 v5 v6 v7 v8 S h hP hS (lv_sub hl [0, 1, 2, 3, 4, 5, 6, 7] rfl) ⟨by omega, by omega⟩
  · have h := ob_f h z1
    refine lv_aload_n hx hb dL_holds_52 rfl (lv_at hl 0 rfl) ?_
    refine xl_get (v := .ref (P0 + 1 + 0)) C0 hP 0 (by decide) wd_249 rfl rfl dL_holds_53 ?_
    refine lv_iload hx hb dL_holds_56 (lv_at hl 8 rfl) ?_
    refine lv_iconst (v := 2) hx hb dL_holds_58 (by decide) ?_
    obtain ⟨r2, hr2, h⟩ := ob_bd h
    obtain ⟨g3, h⟩ := ob_gd h
    refine nl_Iw (kV (As := [.int v9, .int 2]) C0 (c_X11_fate l v9 2 hr2) ⟨wd_616, wd_613, wd_614, wd_615, wd_1⟩ kd_X11_fate ⟨Nat.le_of_ble_eq_true rfl, Nat.le_of_ble_eq_true rfl⟩ hP.1 (lay_X11 (P0 + 1) ct S) rfl rfl hl.1 rfl (Nat.le_of_ble_eq_true rfl) dL_holds_59 ⟨by show _ + _ ≤ 236; omega, by show _ + _ ≤ 2360; omega⟩) hP g3 hS (fun H locs hP hS => ?_)
    refine lv_istore (lv' := [(10, .int r2.1), (0, .ref P0), (2, .int v2), (3, .int v3), (4, .int v4), (5, .int v5), (6, .int v6), (7, .int v7), (8, .ref (P0 + 1 + v8)), (9, .int v9)]) hx hb dL_holds_62 hl (by decide) rfl (fun ls hl => ?_)
    refine lv_aload_n hx hb dL_holds_64 rfl (lv_at hl 1 rfl) ?_
    refine xl_get (v := .ref (P0 + 1 + 0)) C0 hP 0 (by decide) wd_249 rfl rfl dL_holds_65 ?_
    refine lv_iload hx hb dL_holds_68 (lv_at hl 9 rfl) ?_
    refine lv_iconst (v := 3) hx hb dL_holds_70 (by decide) ?_
    obtain ⟨r4, hr4, h⟩ := ob_bd h
    obtain ⟨g5, h⟩ := ob_gd h
    refine nl_Iw (kV (As := [.int v9, .int 3]) C0 (c_X11_fate l v9 3 hr4) ⟨wd_616, wd_613, wd_614, wd_615, wd_1⟩ kd_X11_fate ⟨Nat.le_of_ble_eq_true rfl, Nat.le_of_ble_eq_true rfl⟩ hP.1 (lay_X11 (P0 + 1) ct r2.2) rfl rfl hl.1 rfl (Nat.le_of_ble_eq_true rfl) dL_holds_71 ⟨by show _ + _ ≤ 236; omega, by show _ + _ ≤ 2360; omega⟩) hP g5 hS (fun H locs hP hS => ?_)
    refine lv_istore (lv' := [(11, .int r4.1), (10, .int r2.1), (0, .ref P0), (2, .int v2), (3, .int v3), (4, .int v4), (5, .int v5), (6, .int v6), (7, .int v7), (8, .ref (P0 + 1 + v8)), (9, .int v9)]) hx hb dL_holds_74 hl (by decide) rfl (fun ls hl => ?_)
    refine lv_iload_n hx hb dL_holds_76 rfl (lv_at hl 3 rfl) ?_
    refine lv_aload_n hx hb dL_holds_77 rfl (lv_at hl 2 rfl) ?_
    refine xl_get (v := .ref (P0 + 1 + 0)) C0 hP 0 (by decide) wd_249 rfl rfl dL_holds_78 ?_
    refine lv_iload hx hb dL_holds_81 (lv_at hl 10 rfl) ?_
    refine lv_iconst (v := 4) hx hb dL_holds_83 (by decide) ?_
    obtain ⟨r6, hr6, h⟩ := ob_bd h
    obtain ⟨g7, h⟩ := ob_gd h
    refine nl_Iw (kV (As := [.int v9, .int 4]) C0 (c_X11_fate l v9 4 hr6) ⟨wd_616, wd_613, wd_614, wd_615, wd_1⟩ kd_X11_fate ⟨Nat.le_of_ble_eq_true rfl, Nat.le_of_ble_eq_true rfl⟩ hP.1 (lay_X11 (P0 + 1) ct r4.2) rfl rfl hl.1 rfl (Nat.le_of_ble_eq_true rfl) dL_holds_84 ⟨by show _ + _ ≤ 236; omega, by show _ + _ ≤ 2360; omega⟩) hP g7 hS (fun H locs hP hS => ?_)
    refine lv_iadd hx hb dL_holds_87 ?_
    refine lv_istore_n (lv' := [(2, .int (v2 + r6.1)), (11, .int r4.1), (10, .int r2.1), (0, .ref P0), (3, .int v3), (4, .int v4), (5, .int v5), (6, .int v6), (7, .int v7), (8, .ref (P0 + 1 + v8)), (9, .int v9)]) hx hb dL_holds_88 rfl hl (by decide) rfl (fun ls hl => ?_)
    refine lv_aload hx hb dL_holds_89 (lv_at hl 9 rfl) ?_
    refine lv_aload_n hx hb dL_holds_91 rfl (lv_at hl 3 rfl) ?_
    refine xl_get (v := .ref (P0 + 1 + 0)) C0 hP 0 (by decide) wd_249 rfl rfl dL_holds_92 ?_
    refine lv_iload hx hb dL_holds_95 (lv_at hl 10 rfl) ?_
    refine lv_iconst (v := 0) hx hb dL_holds_97 (by decide) ?_
    obtain ⟨r8, hr8, h⟩ := ob_bd h
    obtain ⟨g9, h⟩ := ob_gd h
    refine nl_Iw (kV (As := [.int v9, .int 0]) C0 (c_X11_fate l v9 0 hr8) ⟨wd_616, wd_613, wd_614, wd_615, wd_1⟩ kd_X11_fate ⟨Nat.le_of_ble_eq_true rfl, Nat.le_of_ble_eq_true rfl⟩ hP.1 (lay_X11 (P0 + 1) ct r6.2) rfl rfl hl.1 rfl (Nat.le_of_ble_eq_true rfl) dL_holds_98 ⟨by show _ + _ ≤ 236; omega, by show _ + _ ≤ 2360; omega⟩) hP g9 hS (fun H locs hP hS => ?_)
    refine lv_dup2_11 hx hb dL_holds_101 rfl rfl ?_
    obtain ⟨n11, en11, h⟩ := ob_bd h
    obtain ⟨g10, h⟩ := ob_gd h
    refine x_iald C0 hP.1 (lay_dy (P0 + 1) ct en11) g10 dL_holds_102 ?_
    refine lv_iconst (v := 1) hx hb dL_holds_103 (by decide) ?_
    refine lv_iadd hx hb dL_holds_104 ?_
    obtain ⟨n12, en12, h⟩ := ob_bd h
    obtain ⟨g13, h⟩ := ob_gd h
    obtain ⟨S14, eS14, h⟩ := ob_nm h
    refine xl_iast C0 hP hS en12 g13 dL_holds_105 (fun H locs hP hS => ?_)
    rw [← eS14] at hP
    refine lv_iload hx hb dL_holds_106 (lv_at hl 2 rfl) ?_
    refine lv_bipush (v := (-4)) hx hb dL_holds_108 (by decide) ?_
    refine lv_icmp_ne (tgt := 184) hx hb dL_holds_110 (by decide) (fun z15 => ?_) (fun z15 => ?_)
    · have h := ob_f h z15
      refine lv_iload hx hb dL_holds_184 (lv_at hl 1 rfl) ?_
      refine lv_if_lt (tgt := 226) hx hb dL_holds_186 (by decide) (fun z16 => ?_) (fun z16 => ?_)
      · have h := ob_t h z16
        refine lv_iconst (v := 0) hx hb dL_holds_226 (by decide) ?_
        refine W.widen (k := 236) (n := 2360) (by omega) (by omega) ?_
        exact rl_Zw C0 hP hS bool_0 h dL_holds_227
      · have h := ob_f h z16
        refine lv_iload hx hb dL_holds_189 (lv_at hl 1 rfl) ?_
        refine lv_aload_n hx hb dL_holds_191 rfl (lv_at hl 3 rfl) ?_
        refine xl_get (v := .ref (P0 + 1 + 0)) C0 hP 0 (by decide) wd_249 rfl rfl dL_holds_192 ?_
        refine lv_iload hx hb dL_holds_195 (lv_at hl 10 rfl) ?_
        refine lv_iconst (v := 5) hx hb dL_holds_197 (by decide) ?_
        obtain ⟨r17, hr17, h⟩ := ob_bd h
        refine nl_I (kV (As := [.int v9, .int 5]) C0 (c_X11_person l v9 5 hr17) ⟨wd_817, wd_814, wd_815, wd_816, wd_1⟩ kd_X11_person ⟨Nat.le_of_ble_eq_true rfl, Nat.le_of_ble_eq_true rfl⟩ hP.1 (lay_X11 (P0 + 1) ct S14) rfl rfl hl.1 rfl (Nat.le_of_ble_eq_true rfl) dL_holds_198 ⟨by show _ + _ ≤ 236; omega, by show _ + _ ≤ 2360; omega⟩) hP hS (fun H locs hP hS => ?_)
        refine lv_bipush (v := 99) hx hb dL_holds_201 (by decide) ?_
        refine lv_aload_n hx hb dL_holds_203 rfl (lv_at hl 3 rfl) ?_
        refine xl_get (v := .int (gi S14 136 1)) C0 hP 1 (by decide) wd_250 rfl rfl dL_holds_204 ?_
        refine lv_imul hx hb dL_holds_207 ?_
        refine lv_iadd hx hb dL_holds_208 ?_
        refine lv_icmp_gt (tgt := 226) hx hb dL_holds_209 (by decide) (fun z18 => ?_) (fun z18 => ?_)
        · have h := ob_t h z18
          refine lv_iconst (v := 0) hx hb dL_holds_226 (by decide) ?_
          refine W.widen (k := 236) (n := 2360) (by omega) (by omega) ?_
          exact rl_Zw C0 hP hS bool_0 h dL_holds_227
        · have h := ob_f h z18
          refine lv_aload_n hx hb dL_holds_212 rfl (lv_at hl 3 rfl) ?_
          refine xl_get (v := .ref (P0 + 1 + 0)) C0 hP 0 (by decide) wd_249 rfl rfl dL_holds_213 ?_
          refine lv_iload hx hb dL_holds_216 (lv_at hl 10 rfl) ?_
          refine lv_iconst (v := 0) hx hb dL_holds_218 (by decide) ?_
          obtain ⟨r19, hr19, h⟩ := ob_bd h
          refine nl_I (kV (As := [.int v9, .int 0]) C0 (c_X11_person l v9 0 hr19) ⟨wd_817, wd_814, wd_815, wd_816, wd_1⟩ kd_X11_person ⟨Nat.le_of_ble_eq_true rfl, Nat.le_of_ble_eq_true rfl⟩ hP.1 (lay_X11 (P0 + 1) ct S14) rfl rfl hl.1 rfl (Nat.le_of_ble_eq_true rfl) dL_holds_219 ⟨by show _ + _ ≤ 236; omega, by show _ + _ ≤ 2360; omega⟩) hP hS (fun H locs hP hS => ?_)
          refine lv_iconst (v := 3) hx hb dL_holds_222 (by decide) ?_
          refine lv_icmp_ne (tgt := 228) hx hb dL_holds_223 (by decide) (fun z20 => ?_) (fun z20 => ?_)
          · have h := ob_f h z20
            exact w_L_holds_228 l C0 xL xs hE n0 ih0 (v2 + r6.1) v3 v4 v5 v6 v7 v8 v9 r2.1 r4.1 S14 h hP hS (lv_sub hl [3, 0, 4, 5, 6, 7, 8, 9, 10, 2, 1] rfl) ⟨by omega, by omega⟩
          · have h := ob_t h z20
            refine lv_iconst (v := 0) hx hb dL_holds_226 (by decide) ?_
            refine W.widen (k := 236) (n := 2360) (by omega) (by omega) ?_
            exact rl_Zw C0 hP hS bool_0 h dL_holds_227
    · have h := ob_t h z15
      refine lv_iload hx hb dL_holds_113 (lv_at hl 1 rfl) ?_
      refine lv_bipush (v := (-4)) hx hb dL_holds_115 (by decide) ?_
      refine lv_icmp_ne (tgt := 226) hx hb dL_holds_117 (by decide) (fun z21 => ?_) (fun z21 => ?_)
      · have h := ob_f h z21
        refine lv_iconst (v := 0) hx hb dL_holds_226 (by decide) ?_
        refine W.widen (k := 236) (n := 2360) (by omega) (by omega) ?_
        exact rl_Zw C0 hP hS bool_0 h dL_holds_227
      · have h := ob_t h z21
        refine lv_aload_n hx hb dL_holds_120 rfl (lv_at hl 3 rfl) ?_
        refine xl_get (v := .ref (P0 + 1 + 0)) C0 hP 0 (by decide) wd_249 rfl rfl dL_holds_121 ?_
        refine lv_iload hx hb dL_holds_124 (lv_at hl 10 rfl) ?_
        obtain ⟨r22, hr22, h⟩ := ob_bd h
        obtain ⟨g23, h⟩ := ob_gd h
        refine nl_Iw (kV (As := [.int v9]) C0 (c_X11_chain l v9 hr22) ⟨wd_801, wd_798, wd_799, wd_800, wd_1⟩ kd_X11_chain ⟨Nat.le_of_ble_eq_true rfl, Nat.le_of_ble_eq_true rfl⟩ hP.1 (lay_X11 (P0 + 1) ct S14) rfl rfl hl.1 rfl (Nat.le_of_ble_eq_true rfl) dL_holds_126 ⟨by show _ + _ ≤ 236; omega, by show _ + _ ≤ 2360; omega⟩) hP g23 hS (fun H locs hP hS => ?_)
        refine lv_if_ne (tgt := 226) hx hb dL_holds_129 (by decide) (fun z24 => ?_) (fun z24 => ?_)
        · have h := ob_f h z24
          refine lv_iconst (v := 0) hx hb dL_holds_226 (by decide) ?_
          refine W.widen (k := 236) (n := 2360) (by omega) (by omega) ?_
          exact rl_Zw C0 hP hS bool_0 h dL_holds_227
        · have h := ob_t h z24
          refine lv_aload_n hx hb dL_holds_132 rfl (lv_at hl 3 rfl) ?_
          refine xl_get (v := .ref (P0 + 1 + 0)) C0 hP 0 (by decide) wd_249 rfl rfl dL_holds_133 ?_
          refine lv_iload hx hb dL_holds_136 (lv_at hl 10 rfl) ?_
          obtain ⟨r25, hr25, h⟩ := ob_bd h
          obtain ⟨g26, h⟩ := ob_gd h
          refine nl_Iw (kV (As := [.int v9]) C0 (c_X11_sum l v9 hr25) ⟨wd_809, wd_806, wd_807, wd_808, wd_1⟩ kd_X11_sum ⟨Nat.le_of_ble_eq_true rfl, Nat.le_of_ble_eq_true rfl⟩ hP.1 (lay_X11 (P0 + 1) ct r22.2) rfl rfl hl.1 rfl (Nat.le_of_ble_eq_true rfl) dL_holds_138 ⟨by show _ + _ ≤ 236; omega, by show _ + _ ≤ 2360; omega⟩) hP g26 hS (fun H locs hP hS => ?_)
          refine lv_if_le (tgt := 148) hx hb dL_holds_141 (by decide) (fun z27 => ?_) (fun z27 => ?_)
          · have h := ob_t h z27
            refine lv_aload_n hx hb dL_holds_148 rfl (lv_at hl 3 rfl) ?_
            refine xl_get (v := .ref (P0 + 1 + 0)) C0 hP 0 (by decide) wd_249 rfl rfl dL_holds_149 ?_
            refine lv_iload hx hb dL_holds_152 (lv_at hl 10 rfl) ?_
            obtain ⟨r28, hr28, h⟩ := ob_bd h
            obtain ⟨g29, h⟩ := ob_gd h
            refine nl_Iw (kV (As := [.int v9]) C0 (c_X11_sum l v9 hr28) ⟨wd_809, wd_806, wd_807, wd_808, wd_1⟩ kd_X11_sum ⟨Nat.le_of_ble_eq_true rfl, Nat.le_of_ble_eq_true rfl⟩ hP.1 (lay_X11 (P0 + 1) ct r25.2) rfl rfl hl.1 rfl (Nat.le_of_ble_eq_true rfl) dL_holds_154 ⟨by show _ + _ ≤ 236; omega, by show _ + _ ≤ 2360; omega⟩) hP g29 hS (fun H locs hP hS => ?_)
            refine lv_if_ge (tgt := 164) hx hb dL_holds_157 (by decide) (fun z30 => ?_) (fun z30 => ?_)
            · have h := ob_t h z30
              refine lv_iconst (v := 0) hx hb dL_holds_164 (by decide) ?_
              exact w_L_holds_165 l C0 xL xs hE n0 ih0 (v2 + r6.1) v3 v4 v5 v6 v7 v8 v9 r2.1 r4.1 0 r28.2 h hP hS (lv_sub hl [3, 0, 4, 5, 6, 7, 8, 9, 10, 2, 1] rfl) ⟨by omega, by omega⟩
            · have h := ob_f h z30
              refine lv_iconst (v := (-1)) hx hb dL_holds_160 (by decide) ?_
              refine lv_goto (tgt := 165) hx hb dL_holds_161 (by decide) ?_
              exact w_L_holds_165 l C0 xL xs hE n0 ih0 (v2 + r6.1) v3 v4 v5 v6 v7 v8 v9 r2.1 r4.1 ((-1)) r28.2 h hP hS (lv_sub hl [3, 0, 4, 5, 6, 7, 8, 9, 10, 2, 1] rfl) ⟨by omega, by omega⟩
          · have h := ob_f h z27
            refine lv_iconst (v := 1) hx hb dL_holds_144 (by decide) ?_
            refine lv_goto (tgt := 165) hx hb dL_holds_145 (by decide) ?_
            exact w_L_holds_165 l C0 xL xs hE n0 ih0 (v2 + r6.1) v3 v4 v5 v6 v7 v8 v9 r2.1 r4.1 1 r25.2 h hP hS (lv_sub hl [3, 0, 4, 5, 6, 7, 8, 9, 10, 2, 1] rfl) ⟨by omega, by omega⟩
set_option maxRecDepth 100000 in
set_option maxHeartbeats 4000000 in
theorem wl_L_holds_43 (l : Launch) {V : Int32 × St} (C0 : XC D ct p s m args meth c cL_holds 15 (some .boolean) RL) (xL : Nat) (xs : Nat → Int32) (hE : XS xb xL xs adK adV P0 s)  : ∀ (n0 : Nat) (v2 : Int32) (v3 : Int32) (v4 : Int32) (v5 : Int32) (v6 : Int32) (v7 : Int32) (v8 : Nat) (v9 : Int32) (S : St) {H : Heap} {locs : List Loc} {ls : Array Slot} {cells slots : Nat}, (lp n0 (l_L_holds_43 xL xs) (v2, v3, v4, v5, v6, v7, v8, v9, S)).bind some = some V → ML D ct P0 Hb S H → va_S (AB P0) s.heap H locs → lv_has ls 15 [(0, .ref P0), (2, .int v2), (3, .int v3), (4, .int v4), (5, .int v5), (6, .int v6), (7, .int v7), (8, .ref (P0 + 1 + v8)), (9, .int v9)] → (cells + (n0 * 0 + 0) ≤ 236 ∧ slots + 10 * (n0 * 0 + 0) ≤ 2360) → W p l e { frames := 11, cells := 236, slots := 2360, locals := 251 } s m args below meth c H locs cells slots (MQ below (qLIw D ct P0 Hb V) args s 236 2360 (AB P0)) (F0 m 43 ls []) := by
  intro n0
  induction n0 with
  | zero =>
    intro v2 v3 v4 v5 v6 v7 v8 v9 S H locs ls cells slots h hP hS hl hc
    exact (lp_0 h).elim
  | succ n0 ih0 =>
    intro v2 v3 v4 v5 v6 v7 v8 v9 S H locs ls cells slots h hP hS hl hc
    have h := lp_s h
    exact w_L_holds_43 l C0 xL xs hE n0 (fun v2 v3 v4 v5 v6 v7 v8 v9 S H locs ls cells slots h hP hS hl hc => ih0 v2 v3 v4 v5 v6 v7 v8 v9 S h hP hS hl hc) v2 v3 v4 v5 v6 v7 v8 v9 S h hP hS hl ⟨by omega, by omega⟩
set_option maxRecDepth 100000 in
set_option maxHeartbeats 4000000 in
theorem w_L_holds_0 (l : Launch) {V : Int32 × St} (C0 : XC D ct p s m args meth c cL_holds 15 (some .boolean) RL) (xL : Nat) (xs : Nat → Int32) (hE : XS xb xL xs adK adV P0 s) (S : St) {H : Heap} {locs : List Loc} {ls : Array Slot} {cells slots : Nat} (h : (b_L_holds_0 xL xs S).bind some = some V) (hP : ML D ct P0 Hb S H) (hS : va_S (AB P0) s.heap H locs) (hl : lv_has ls 15 [(0, .ref P0), (1, .ref xb)]) (hc : cells + 236 ≤ 236 ∧ slots + 10 * 236 ≤ 2360) : W p l e { frames := 11, cells := 236, slots := 2360, locals := 251 } s m args below meth c H locs cells slots (MQ below (qLIw D ct P0 Hb V) args s 236 2360 (AB P0)) (F0 m 0 ls []) := by
  obtain ⟨hx, hb, hr, hml, hown, hts, hK, hlocks, hN⟩ := id C0
  unfold b_L_holds_0 at h
  refine lv_aload_n hx hb dL_holds_0 rfl (lv_at hl 0 rfl) ?_
  refine lv_aload_n hx hb dL_holds_1 rfl (lv_at hl 1 rfl) ?_
  refine lv_iconst (v := 0) hx hb dL_holds_2 (by decide) ?_
  obtain ⟨r1, hr1, h⟩ := ob_bd h
  refine nL_Iw (kLV (As := [.ref xb, .int 0]) C0 hE hS (c_L_begin l xL xs 0 hr1) ⟨wd_319, wd_316, wd_318, wp_1, wd_0⟩ kd_L_begin ⟨Nat.le_of_ble_eq_true rfl, Nat.le_of_ble_eq_true rfl⟩ hP rfl hl.1 rfl (Nat.le_of_ble_eq_true rfl) dL_holds_3 ⟨by show _ + _ ≤ 236; omega, by show _ + _ ≤ 2360; omega⟩) hS (fun H locs hP hS => ?_)
  refine lv_if_ne (tgt := 11) hx hb dL_holds_6 (by decide) (fun z2 => ?_) (fun z2 => ?_)
  · have h := ob_f h z2
    refine lv_iconst (v := 0) hx hb dL_holds_11 (by decide) ?_
    refine lv_istore_n (lv' := [(2, .int 0), (0, .ref P0), (1, .ref xb)]) hx hb dL_holds_12 rfl hl (by decide) rfl (fun ls hl => ?_)
    refine lv_aload_n hx hb dL_holds_13 rfl (lv_at hl 1 rfl) ?_
    refine xl_get (v := .ref (P0 + 1 + 0)) C0 hP 0 (by decide) wd_249 rfl rfl dL_holds_14 ?_
    refine lv_bipush (v := 6) hx hb dL_holds_17 (by decide) ?_
    obtain ⟨r3, hr3, h⟩ := ob_bd h
    refine nl_I (kV (As := [.int 6]) C0 (c_X11_count l 6 hr3) ⟨wd_604, wd_601, wd_602, wd_603, wd_1⟩ kd_X11_count ⟨Nat.le_of_ble_eq_true rfl, Nat.le_of_ble_eq_true rfl⟩ hP.1 (lay_X11 (P0 + 1) ct r1.2) rfl rfl hl.1 rfl (Nat.le_of_ble_eq_true rfl) dL_holds_19 ⟨by show _ + _ ≤ 236; omega, by show _ + _ ≤ 2360; omega⟩) hP hS (fun H locs hP hS => ?_)
    refine lv_istore_n (lv' := [(3, .int r3), (2, .int 0), (0, .ref P0), (1, .ref xb)]) hx hb dL_holds_22 rfl hl (by decide) rfl (fun ls hl => ?_)
    refine lv_iconst (v := 0) hx hb dL_holds_23 (by decide) ?_
    refine lv_istore (lv' := [(4, .int 0), (3, .int r3), (2, .int 0), (0, .ref P0), (1, .ref xb)]) hx hb dL_holds_24 hl (by decide) rfl (fun ls hl => ?_)
    refine lv_iconst (v := 0) hx hb dL_holds_26 (by decide) ?_
    refine lv_istore (lv' := [(5, .int 0), (4, .int 0), (3, .int r3), (2, .int 0), (0, .ref P0), (1, .ref xb)]) hx hb dL_holds_27 hl (by decide) rfl (fun ls hl => ?_)
    refine lv_iconst (v := 0) hx hb dL_holds_29 (by decide) ?_
    refine lv_istore (lv' := [(6, .int 0), (5, .int 0), (4, .int 0), (3, .int r3), (2, .int 0), (0, .ref P0), (1, .ref xb)]) hx hb dL_holds_30 hl (by decide) rfl (fun ls hl => ?_)
    refine lv_iconst (v := 0) hx hb dL_holds_32 (by decide) ?_
    refine lv_istore (lv' := [(7, .int 0), (6, .int 0), (5, .int 0), (4, .int 0), (3, .int r3), (2, .int 0), (0, .ref P0), (1, .ref xb)]) hx hb dL_holds_33 hl (by decide) rfl (fun ls hl => ?_)
    refine lv_iconst (v := 3) hx hb dL_holds_35 (by decide) ?_
    obtain ⟨g4, h⟩ := ob_gd h
    obtain ⟨k5, ek5, h⟩ := ob_nm h
    obtain ⟨S6, eS6, h⟩ := ob_nm h
    refine xl_newI (N := 3) C0 hP hS wd_142 (of_decide_eq_true g4) (by decide) (by decide) (by decide) (by show _ + _ ≤ 236; omega) (by show _ + _ ≤ 2360; omega) dL_holds_36 (fun H hP hS => ?_)
    rw [← ek5]
    rw [← eS6] at hP
    refine lv_astore (lv' := [(8, .ref (P0 + 1 + k5)), (7, .int 0), (6, .int 0), (5, .int 0), (4, .int 0), (3, .int r3), (2, .int 0), (0, .ref P0), (1, .ref xb)]) hx hb dL_holds_38 hl (by decide) rfl (fun ls hl => ?_)
    refine lv_iconst (v := 0) hx hb dL_holds_40 (by decide) ?_
    refine lv_istore (lv' := [(9, .int 0), (8, .ref (P0 + 1 + k5)), (7, .int 0), (6, .int 0), (5, .int 0), (4, .int 0), (3, .int r3), (2, .int 0), (0, .ref P0), (1, .ref xb)]) hx hb dL_holds_41 hl (by decide) rfl (fun ls hl => ?_)
    exact wl_L_holds_43 l C0 xL xs hE 1000 0 r3 0 0 0 0 k5 0 S6 h hP hS (lv_sub hl [8, 7, 6, 5, 4, 3, 2, 1, 0] rfl) ⟨by omega, by omega⟩
  · have h := ob_t h z2
    refine lv_iconst (v := 0) hx hb dL_holds_9 (by decide) ?_
    refine W.widen (k := 236) (n := 2360) (by omega) (by omega) ?_
    exact rl_Zw C0 hP hS bool_0 h dL_holds_10
set_option maxRecDepth 100000 in
set_option maxHeartbeats 4000000 in
theorem c_L_holds (l : Launch) (xL : Nat) (xs : Nat → Int32) {D : va_G} {ct : Nat → ClassId} {P0 : Nat} {Hb : Heap} {xb : Nat} {adK adV : Nat → Nat} {S : St} {V : Int32 × St} (h : L_L_holds xL xs S = some V) : Met l yL_holds (Cond.code yL_holds cL_holds 15 (some .boolean) :: tG) { frames := 11, cells := 236, slots := 2360, locals := 251 } (va_Pc [.ref P0, .ref xb] (MLK D ct P0 Hb xb xL xs adK adV S)) (qLIw D ct P0 Hb V) 236 2360 (AB P0) := by
  refine mk_metL (by decide +kernel) (Nat.le_of_ble_eq_true rfl) (fun p e s m args below meth c ls C0 hE hP hl _ => ?_)
  have h := ob_of h
  exact w_L_holds_0 l C0 xL xs hE S h hP va_S.rf (lv_sub hl [0, 1] rfl) ⟨by omega, by omega⟩
end WALKS
