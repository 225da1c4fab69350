/-! The law: begin. -/

theorem dL_begin_0 : decode cL_begin 0 = .ok (.aload_n 1, 1) := by decide +kernel
theorem dL_begin_1 : decode cL_begin 1 = .ok (.iload_n 2, 1) := by decide +kernel
theorem dL_begin_2 : decode cL_begin 2 = .ok (.bipush 7, 2) := by decide +kernel
theorem dL_begin_4 : decode cL_begin 4 = .ok (.invokestatic 147, 3) := by decide +kernel
theorem dL_begin_7 : decode cL_begin 7 = .ok (.istore_n 3, 1) := by decide +kernel
theorem dL_begin_8 : decode cL_begin 8 = .ok (.iconst 0, 1) := by decide +kernel
theorem dL_begin_9 : decode cL_begin 9 = .ok (.istore 4, 2) := by decide +kernel
theorem dL_begin_11 : decode cL_begin 11 = .ok (.iload 4, 2) := by decide +kernel
theorem dL_begin_13 : decode cL_begin 13 = .ok (.iload_n 3, 1) := by decide +kernel
theorem dL_begin_14 : decode cL_begin 14 = .ok (.if_icmp .ge 190, 3) := by decide +kernel
theorem dL_begin_17 : decode cL_begin 17 = .ok (.aload_n 1, 1) := by decide +kernel
theorem dL_begin_18 : decode cL_begin 18 = .ok (.iload_n 2, 1) := by decide +kernel
theorem dL_begin_19 : decode cL_begin 19 = .ok (.iconst 1, 1) := by decide +kernel
theorem dL_begin_20 : decode cL_begin 20 = .ok (.iadd, 1) := by decide +kernel
theorem dL_begin_21 : decode cL_begin 21 = .ok (.iload 4, 2) := by decide +kernel
theorem dL_begin_23 : decode cL_begin 23 = .ok (.iadd, 1) := by decide +kernel
theorem dL_begin_24 : decode cL_begin 24 = .ok (.invokestatic 50, 3) := by decide +kernel
theorem dL_begin_27 : decode cL_begin 27 = .ok (.ldc 54, 2) := by decide +kernel
theorem dL_begin_29 : decode cL_begin 29 = .ok (.iand, 1) := by decide +kernel
theorem dL_begin_30 : decode cL_begin 30 = .ok (.istore 5, 2) := by decide +kernel
theorem dL_begin_32 : decode cL_begin 32 = .ok (.aload_n 0, 1) := by decide +kernel
theorem dL_begin_33 : decode cL_begin 33 = .ok (.getfield 21, 3) := by decide +kernel
theorem dL_begin_36 : decode cL_begin 36 = .ok (.iload 4, 2) := by decide +kernel
theorem dL_begin_38 : decode cL_begin 38 = .ok (.iconst 4, 1) := by decide +kernel
theorem dL_begin_39 : decode cL_begin 39 = .ok (.newarray .int, 2) := by decide +kernel
theorem dL_begin_41 : decode cL_begin 41 = .ok (.dup, 1) := by decide +kernel
theorem dL_begin_42 : decode cL_begin 42 = .ok (.iconst 0, 1) := by decide +kernel
theorem dL_begin_43 : decode cL_begin 43 = .ok (.iload 5, 2) := by decide +kernel
theorem dL_begin_45 : decode cL_begin 45 = .ok (.iconst 3, 1) := by decide +kernel
theorem dL_begin_46 : decode cL_begin 46 = .ok (.irem, 1) := by decide +kernel
theorem dL_begin_47 : decode cL_begin 47 = .ok (.iconst 2, 1) := by decide +kernel
theorem dL_begin_48 : decode cL_begin 48 = .ok (.irem, 1) := by decide +kernel
theorem dL_begin_49 : decode cL_begin 49 = .ok (.iload 5, 2) := by decide +kernel
theorem dL_begin_51 : decode cL_begin 51 = .ok (.iconst 3, 1) := by decide +kernel
theorem dL_begin_52 : decode cL_begin 52 = .ok (.idiv, 1) := by decide +kernel
theorem dL_begin_53 : decode cL_begin 53 = .ok (.iconst 2, 1) := by decide +kernel
theorem dL_begin_54 : decode cL_begin 54 = .ok (.irem, 1) := by decide +kernel
theorem dL_begin_55 : decode cL_begin 55 = .ok (.iload 5, 2) := by decide +kernel
theorem dL_begin_57 : decode cL_begin 57 = .ok (.iconst 2, 1) := by decide +kernel
theorem dL_begin_58 : decode cL_begin 58 = .ok (.irem, 1) := by decide +kernel
theorem dL_begin_59 : decode cL_begin 59 = .ok (.imul, 1) := by decide +kernel
theorem dL_begin_60 : decode cL_begin 60 = .ok (.iadd, 1) := by decide +kernel
theorem dL_begin_61 : decode cL_begin 61 = .ok (.iastore, 1) := by decide +kernel
theorem dL_begin_62 : decode cL_begin 62 = .ok (.dup, 1) := by decide +kernel
theorem dL_begin_63 : decode cL_begin 63 = .ok (.iconst 1, 1) := by decide +kernel
theorem dL_begin_64 : decode cL_begin 64 = .ok (.iload 5, 2) := by decide +kernel
theorem dL_begin_66 : decode cL_begin 66 = .ok (.bipush 6, 2) := by decide +kernel
theorem dL_begin_68 : decode cL_begin 68 = .ok (.idiv, 1) := by decide +kernel
theorem dL_begin_69 : decode cL_begin 69 = .ok (.bipush 19, 2) := by decide +kernel
theorem dL_begin_71 : decode cL_begin 71 = .ok (.irem, 1) := by decide +kernel
theorem dL_begin_72 : decode cL_begin 72 = .ok (.bipush 9, 2) := by decide +kernel
theorem dL_begin_74 : decode cL_begin 74 = .ok (.isub, 1) := by decide +kernel
theorem dL_begin_75 : decode cL_begin 75 = .ok (.iastore, 1) := by decide +kernel
theorem dL_begin_76 : decode cL_begin 76 = .ok (.dup, 1) := by decide +kernel
theorem dL_begin_77 : decode cL_begin 77 = .ok (.iconst 2, 1) := by decide +kernel
theorem dL_begin_78 : decode cL_begin 78 = .ok (.iload 5, 2) := by decide +kernel
theorem dL_begin_80 : decode cL_begin 80 = .ok (.bipush 114, 2) := by decide +kernel
theorem dL_begin_82 : decode cL_begin 82 = .ok (.idiv, 1) := by decide +kernel
theorem dL_begin_83 : decode cL_begin 83 = .ok (.bipush 24, 2) := by decide +kernel
theorem dL_begin_85 : decode cL_begin 85 = .ok (.irem, 1) := by decide +kernel
theorem dL_begin_86 : decode cL_begin 86 = .ok (.iastore, 1) := by decide +kernel
theorem dL_begin_87 : decode cL_begin 87 = .ok (.dup, 1) := by decide +kernel
theorem dL_begin_88 : decode cL_begin 88 = .ok (.iconst 3, 1) := by decide +kernel
theorem dL_begin_89 : decode cL_begin 89 = .ok (.bipush 10, 2) := by decide +kernel
theorem dL_begin_91 : decode cL_begin 91 = .ok (.iastore, 1) := by decide +kernel
theorem dL_begin_92 : decode cL_begin 92 = .ok (.aastore, 1) := by decide +kernel
theorem dL_begin_93 : decode cL_begin 93 = .ok (.aload_n 0, 1) := by decide +kernel
theorem dL_begin_94 : decode cL_begin 94 = .ok (.dup, 1) := by decide +kernel
theorem dL_begin_95 : decode cL_begin 95 = .ok (.getfield 78, 3) := by decide +kernel
theorem dL_begin_98 : decode cL_begin 98 = .ok (.iconst 1, 1) := by decide +kernel
theorem dL_begin_99 : decode cL_begin 99 = .ok (.iadd, 1) := by decide +kernel
theorem dL_begin_100 : decode cL_begin 100 = .ok (.putfield 78, 3) := by decide +kernel
theorem dL_begin_103 : decode cL_begin 103 = .ok (.aload_n 0, 1) := by decide +kernel
theorem dL_begin_104 : decode cL_begin 104 = .ok (.getfield 10, 3) := by decide +kernel
theorem dL_begin_107 : decode cL_begin 107 = .ok (.aload_n 0, 1) := by decide +kernel
theorem dL_begin_108 : decode cL_begin 108 = .ok (.getfield 21, 3) := by decide +kernel
theorem dL_begin_111 : decode cL_begin 111 = .ok (.iload 4, 2) := by decide +kernel
theorem dL_begin_113 : decode cL_begin 113 = .ok (.aaload, 1) := by decide +kernel
theorem dL_begin_114 : decode cL_begin 114 = .ok (.iconst 0, 1) := by decide +kernel
theorem dL_begin_115 : decode cL_begin 115 = .ok (.iaload, 1) := by decide +kernel
theorem dL_begin_116 : decode cL_begin 116 = .ok (.aload_n 0, 1) := by decide +kernel
theorem dL_begin_117 : decode cL_begin 117 = .ok (.getfield 21, 3) := by decide +kernel
theorem dL_begin_120 : decode cL_begin 120 = .ok (.iload 4, 2) := by decide +kernel
theorem dL_begin_122 : decode cL_begin 122 = .ok (.aaload, 1) := by decide +kernel
theorem dL_begin_123 : decode cL_begin 123 = .ok (.iconst 1, 1) := by decide +kernel
theorem dL_begin_124 : decode cL_begin 124 = .ok (.iaload, 1) := by decide +kernel
theorem dL_begin_125 : decode cL_begin 125 = .ok (.aload_n 0, 1) := by decide +kernel
theorem dL_begin_126 : decode cL_begin 126 = .ok (.getfield 21, 3) := by decide +kernel
theorem dL_begin_129 : decode cL_begin 129 = .ok (.iload 4, 2) := by decide +kernel
theorem dL_begin_131 : decode cL_begin 131 = .ok (.aaload, 1) := by decide +kernel
theorem dL_begin_132 : decode cL_begin 132 = .ok (.iconst 2, 1) := by decide +kernel
theorem dL_begin_133 : decode cL_begin 133 = .ok (.iaload, 1) := by decide +kernel
theorem dL_begin_134 : decode cL_begin 134 = .ok (.invokevirtual 151, 3) := by decide +kernel
theorem dL_begin_137 : decode cL_begin 137 = .ok (.iload 4, 2) := by decide +kernel
theorem dL_begin_139 : decode cL_begin 139 = .ok (.if_icmp .eq 5, 3) := by decide +kernel
theorem dL_begin_142 : decode cL_begin 142 = .ok (.iconst 0, 1) := by decide +kernel
theorem dL_begin_143 : decode cL_begin 143 = .ok (.ireturn, 1) := by decide +kernel
theorem dL_begin_144 : decode cL_begin 144 = .ok (.iload 5, 2) := by decide +kernel
theorem dL_begin_146 : decode cL_begin 146 = .ok (.sipush 2736, 3) := by decide +kernel
theorem dL_begin_149 : decode cL_begin 149 = .ok (.idiv, 1) := by decide +kernel
theorem dL_begin_150 : decode cL_begin 150 = .ok (.iconst 2, 1) := by decide +kernel
theorem dL_begin_151 : decode cL_begin 151 = .ok (.irem, 1) := by decide +kernel
theorem dL_begin_152 : decode cL_begin 152 = .ok (.ifCond .ne 46, 3) := by decide +kernel
theorem dL_begin_155 : decode cL_begin 155 = .ok (.aload_n 0, 1) := by decide +kernel
theorem dL_begin_156 : decode cL_begin 156 = .ok (.getfield 21, 3) := by decide +kernel
theorem dL_begin_159 : decode cL_begin 159 = .ok (.iload 4, 2) := by decide +kernel
theorem dL_begin_161 : decode cL_begin 161 = .ok (.aaload, 1) := by decide +kernel
theorem dL_begin_162 : decode cL_begin 162 = .ok (.iconst 3, 1) := by decide +kernel
theorem dL_begin_163 : decode cL_begin 163 = .ok (.iload 5, 2) := by decide +kernel
theorem dL_begin_165 : decode cL_begin 165 = .ok (.sipush 5472, 3) := by decide +kernel
theorem dL_begin_168 : decode cL_begin 168 = .ok (.idiv, 1) := by decide +kernel
theorem dL_begin_169 : decode cL_begin 169 = .ok (.bipush 11, 2) := by decide +kernel
theorem dL_begin_171 : decode cL_begin 171 = .ok (.irem, 1) := by decide +kernel
theorem dL_begin_172 : decode cL_begin 172 = .ok (.iastore, 1) := by decide +kernel
theorem dL_begin_173 : decode cL_begin 173 = .ok (.aload_n 0, 1) := by decide +kernel
theorem dL_begin_174 : decode cL_begin 174 = .ok (.getfield 10, 3) := by decide +kernel
theorem dL_begin_177 : decode cL_begin 177 = .ok (.iload 4, 2) := by decide +kernel
theorem dL_begin_179 : decode cL_begin 179 = .ok (.aload_n 0, 1) := by decide +kernel
theorem dL_begin_180 : decode cL_begin 180 = .ok (.getfield 21, 3) := by decide +kernel
theorem dL_begin_183 : decode cL_begin 183 = .ok (.iload 4, 2) := by decide +kernel
theorem dL_begin_185 : decode cL_begin 185 = .ok (.aaload, 1) := by decide +kernel
theorem dL_begin_186 : decode cL_begin 186 = .ok (.iconst 3, 1) := by decide +kernel
theorem dL_begin_187 : decode cL_begin 187 = .ok (.iaload, 1) := by decide +kernel
theorem dL_begin_188 : decode cL_begin 188 = .ok (.invokevirtual 153, 3) := by decide +kernel
theorem dL_begin_191 : decode cL_begin 191 = .ok (.bipush 10, 2) := by decide +kernel
theorem dL_begin_193 : decode cL_begin 193 = .ok (.if_icmp .eq 5, 3) := by decide +kernel
theorem dL_begin_196 : decode cL_begin 196 = .ok (.iconst 0, 1) := by decide +kernel
theorem dL_begin_197 : decode cL_begin 197 = .ok (.ireturn, 1) := by decide +kernel
theorem dL_begin_198 : decode cL_begin 198 = .ok (.iinc 4 1, 3) := by decide +kernel
theorem dL_begin_201 : decode cL_begin 201 = .ok (.goto (-190), 3) := by decide +kernel
theorem dL_begin_204 : decode cL_begin 204 = .ok (.aload_n 1, 1) := by decide +kernel
theorem dL_begin_205 : decode cL_begin 205 = .ok (.iload_n 2, 1) := by decide +kernel
theorem dL_begin_206 : decode cL_begin 206 = .ok (.bipush 7, 2) := by decide +kernel
theorem dL_begin_208 : decode cL_begin 208 = .ok (.iadd, 1) := by decide +kernel
theorem dL_begin_209 : decode cL_begin 209 = .ok (.bipush 9, 2) := by decide +kernel
theorem dL_begin_211 : decode cL_begin 211 = .ok (.invokestatic 147, 3) := by decide +kernel
theorem dL_begin_214 : decode cL_begin 214 = .ok (.istore 4, 2) := by decide +kernel
theorem dL_begin_216 : decode cL_begin 216 = .ok (.iconst 0, 1) := by decide +kernel
theorem dL_begin_217 : decode cL_begin 217 = .ok (.istore 5, 2) := by decide +kernel
theorem dL_begin_219 : decode cL_begin 219 = .ok (.iload 5, 2) := by decide +kernel
theorem dL_begin_221 : decode cL_begin 221 = .ok (.iload 4, 2) := by decide +kernel
theorem dL_begin_223 : decode cL_begin 223 = .ok (.if_icmp .ge 253, 3) := by decide +kernel
theorem dL_begin_226 : decode cL_begin 226 = .ok (.aload_n 1, 1) := by decide +kernel
theorem dL_begin_227 : decode cL_begin 227 = .ok (.iload_n 2, 1) := by decide +kernel
theorem dL_begin_228 : decode cL_begin 228 = .ok (.bipush 8, 2) := by decide +kernel
theorem dL_begin_230 : decode cL_begin 230 = .ok (.iadd, 1) := by decide +kernel
theorem dL_begin_231 : decode cL_begin 231 = .ok (.iload 5, 2) := by decide +kernel
theorem dL_begin_233 : decode cL_begin 233 = .ok (.iadd, 1) := by decide +kernel
theorem dL_begin_234 : decode cL_begin 234 = .ok (.invokestatic 50, 3) := by decide +kernel
theorem dL_begin_237 : decode cL_begin 237 = .ok (.ldc 54, 2) := by decide +kernel
theorem dL_begin_239 : decode cL_begin 239 = .ok (.iand, 1) := by decide +kernel
theorem dL_begin_240 : decode cL_begin 240 = .ok (.istore 6, 2) := by decide +kernel
theorem dL_begin_242 : decode cL_begin 242 = .ok (.aload_n 1, 1) := by decide +kernel
theorem dL_begin_243 : decode cL_begin 243 = .ok (.iload_n 2, 1) := by decide +kernel
theorem dL_begin_244 : decode cL_begin 244 = .ok (.bipush 16, 2) := by decide +kernel
theorem dL_begin_246 : decode cL_begin 246 = .ok (.iadd, 1) := by decide +kernel
theorem dL_begin_247 : decode cL_begin 247 = .ok (.iload 5, 2) := by decide +kernel
theorem dL_begin_249 : decode cL_begin 249 = .ok (.iadd, 1) := by decide +kernel
theorem dL_begin_250 : decode cL_begin 250 = .ok (.invokestatic 50, 3) := by decide +kernel
theorem dL_begin_253 : decode cL_begin 253 = .ok (.ldc 54, 2) := by decide +kernel
theorem dL_begin_255 : decode cL_begin 255 = .ok (.iand, 1) := by decide +kernel
theorem dL_begin_256 : decode cL_begin 256 = .ok (.istore 7, 2) := by decide +kernel
theorem dL_begin_258 : decode cL_begin 258 = .ok (.aload_n 0, 1) := by decide +kernel
theorem dL_begin_259 : decode cL_begin 259 = .ok (.getfield 18, 3) := by decide +kernel
theorem dL_begin_262 : decode cL_begin 262 = .ok (.iload 5, 2) := by decide +kernel
theorem dL_begin_264 : decode cL_begin 264 = .ok (.bipush 6, 2) := by decide +kernel
theorem dL_begin_266 : decode cL_begin 266 = .ok (.newarray .int, 2) := by decide +kernel
theorem dL_begin_268 : decode cL_begin 268 = .ok (.dup, 1) := by decide +kernel
theorem dL_begin_269 : decode cL_begin 269 = .ok (.iconst 0, 1) := by decide +kernel
theorem dL_begin_270 : decode cL_begin 270 = .ok (.iload 6, 2) := by decide +kernel
theorem dL_begin_272 : decode cL_begin 272 = .ok (.bipush 8, 2) := by decide +kernel
theorem dL_begin_274 : decode cL_begin 274 = .ok (.irem, 1) := by decide +kernel
theorem dL_begin_275 : decode cL_begin 275 = .ok (.iastore, 1) := by decide +kernel
theorem dL_begin_276 : decode cL_begin 276 = .ok (.dup, 1) := by decide +kernel
theorem dL_begin_277 : decode cL_begin 277 = .ok (.iconst 1, 1) := by decide +kernel
theorem dL_begin_278 : decode cL_begin 278 = .ok (.iload 6, 2) := by decide +kernel
theorem dL_begin_280 : decode cL_begin 280 = .ok (.bipush 8, 2) := by decide +kernel
theorem dL_begin_282 : decode cL_begin 282 = .ok (.idiv, 1) := by decide +kernel
theorem dL_begin_283 : decode cL_begin 283 = .ok (.bipush 10, 2) := by decide +kernel
theorem dL_begin_285 : decode cL_begin 285 = .ok (.irem, 1) := by decide +kernel
theorem dL_begin_286 : decode cL_begin 286 = .ok (.iastore, 1) := by decide +kernel
theorem dL_begin_287 : decode cL_begin 287 = .ok (.dup, 1) := by decide +kernel
theorem dL_begin_288 : decode cL_begin 288 = .ok (.iconst 2, 1) := by decide +kernel
theorem dL_begin_289 : decode cL_begin 289 = .ok (.iload 6, 2) := by decide +kernel
theorem dL_begin_291 : decode cL_begin 291 = .ok (.bipush 80, 2) := by decide +kernel
theorem dL_begin_293 : decode cL_begin 293 = .ok (.idiv, 1) := by decide +kernel
theorem dL_begin_294 : decode cL_begin 294 = .ok (.iconst 5, 1) := by decide +kernel
theorem dL_begin_295 : decode cL_begin 295 = .ok (.irem, 1) := by decide +kernel
theorem dL_begin_296 : decode cL_begin 296 = .ok (.iconst 3, 1) := by decide +kernel
theorem dL_begin_297 : decode cL_begin 297 = .ok (.irem, 1) := by decide +kernel
theorem dL_begin_298 : decode cL_begin 298 = .ok (.iastore, 1) := by decide +kernel
theorem dL_begin_299 : decode cL_begin 299 = .ok (.dup, 1) := by decide +kernel
theorem dL_begin_300 : decode cL_begin 300 = .ok (.iconst 3, 1) := by decide +kernel
theorem dL_begin_301 : decode cL_begin 301 = .ok (.iload 7, 2) := by decide +kernel
theorem dL_begin_303 : decode cL_begin 303 = .ok (.iconst 2, 1) := by decide +kernel
theorem dL_begin_304 : decode cL_begin 304 = .ok (.irem, 1) := by decide +kernel
theorem dL_begin_305 : decode cL_begin 305 = .ok (.ifCond .ne 13, 3) := by decide +kernel
theorem dL_begin_308 : decode cL_begin 308 = .ok (.iload 7, 2) := by decide +kernel
theorem dL_begin_310 : decode cL_begin 310 = .ok (.iconst 2, 1) := by decide +kernel
theorem dL_begin_311 : decode cL_begin 311 = .ok (.idiv, 1) := by decide +kernel
theorem dL_begin_312 : decode cL_begin 312 = .ok (.bipush 24, 2) := by decide +kernel
theorem dL_begin_314 : decode cL_begin 314 = .ok (.irem, 1) := by decide +kernel
theorem dL_begin_315 : decode cL_begin 315 = .ok (.goto 13, 3) := by decide +kernel
theorem dL_begin_318 : decode cL_begin 318 = .ok (.bipush 8, 2) := by decide +kernel
theorem dL_begin_320 : decode cL_begin 320 = .ok (.iload 7, 2) := by decide +kernel
theorem dL_begin_322 : decode cL_begin 322 = .ok (.iconst 2, 1) := by decide +kernel
theorem dL_begin_323 : decode cL_begin 323 = .ok (.idiv, 1) := by decide +kernel
theorem dL_begin_324 : decode cL_begin 324 = .ok (.bipush 14, 2) := by decide +kernel
theorem dL_begin_326 : decode cL_begin 326 = .ok (.irem, 1) := by decide +kernel
theorem dL_begin_327 : decode cL_begin 327 = .ok (.iadd, 1) := by decide +kernel
theorem dL_begin_328 : decode cL_begin 328 = .ok (.iastore, 1) := by decide +kernel
theorem dL_begin_329 : decode cL_begin 329 = .ok (.dup, 1) := by decide +kernel
theorem dL_begin_330 : decode cL_begin 330 = .ok (.iconst 4, 1) := by decide +kernel
theorem dL_begin_331 : decode cL_begin 331 = .ok (.iload 7, 2) := by decide +kernel
theorem dL_begin_333 : decode cL_begin 333 = .ok (.bipush 48, 2) := by decide +kernel
theorem dL_begin_335 : decode cL_begin 335 = .ok (.idiv, 1) := by decide +kernel
theorem dL_begin_336 : decode cL_begin 336 = .ok (.bipush 19, 2) := by decide +kernel
theorem dL_begin_338 : decode cL_begin 338 = .ok (.irem, 1) := by decide +kernel
theorem dL_begin_339 : decode cL_begin 339 = .ok (.bipush 9, 2) := by decide +kernel
theorem dL_begin_341 : decode cL_begin 341 = .ok (.isub, 1) := by decide +kernel
theorem dL_begin_342 : decode cL_begin 342 = .ok (.iastore, 1) := by decide +kernel
theorem dL_begin_343 : decode cL_begin 343 = .ok (.dup, 1) := by decide +kernel
theorem dL_begin_344 : decode cL_begin 344 = .ok (.iconst 5, 1) := by decide +kernel
theorem dL_begin_345 : decode cL_begin 345 = .ok (.iload 7, 2) := by decide +kernel
theorem dL_begin_347 : decode cL_begin 347 = .ok (.sipush 912, 3) := by decide +kernel
theorem dL_begin_350 : decode cL_begin 350 = .ok (.idiv, 1) := by decide +kernel
theorem dL_begin_351 : decode cL_begin 351 = .ok (.iconst 4, 1) := by decide +kernel
theorem dL_begin_352 : decode cL_begin 352 = .ok (.irem, 1) := by decide +kernel
theorem dL_begin_353 : decode cL_begin 353 = .ok (.ifCond .ne 15, 3) := by decide +kernel
theorem dL_begin_356 : decode cL_begin 356 = .ok (.iload 7, 2) := by decide +kernel
theorem dL_begin_358 : decode cL_begin 358 = .ok (.sipush 3648, 3) := by decide +kernel
theorem dL_begin_361 : decode cL_begin 361 = .ok (.idiv, 1) := by decide +kernel
theorem dL_begin_362 : decode cL_begin 362 = .ok (.bipush 100, 2) := by decide +kernel
theorem dL_begin_364 : decode cL_begin 364 = .ok (.irem, 1) := by decide +kernel
theorem dL_begin_365 : decode cL_begin 365 = .ok (.goto 12, 3) := by decide +kernel
theorem dL_begin_368 : decode cL_begin 368 = .ok (.iload 7, 2) := by decide +kernel
theorem dL_begin_370 : decode cL_begin 370 = .ok (.sipush 3648, 3) := by decide +kernel
theorem dL_begin_373 : decode cL_begin 373 = .ok (.idiv, 1) := by decide +kernel
theorem dL_begin_374 : decode cL_begin 374 = .ok (.bipush 20, 2) := by decide +kernel
theorem dL_begin_376 : decode cL_begin 376 = .ok (.irem, 1) := by decide +kernel
theorem dL_begin_377 : decode cL_begin 377 = .ok (.iastore, 1) := by decide +kernel
theorem dL_begin_378 : decode cL_begin 378 = .ok (.aastore, 1) := by decide +kernel
theorem dL_begin_379 : decode cL_begin 379 = .ok (.aload_n 0, 1) := by decide +kernel
theorem dL_begin_380 : decode cL_begin 380 = .ok (.dup, 1) := by decide +kernel
theorem dL_begin_381 : decode cL_begin 381 = .ok (.getfield 128, 3) := by decide +kernel
theorem dL_begin_384 : decode cL_begin 384 = .ok (.iconst 1, 1) := by decide +kernel
theorem dL_begin_385 : decode cL_begin 385 = .ok (.iadd, 1) := by decide +kernel
theorem dL_begin_386 : decode cL_begin 386 = .ok (.putfield 128, 3) := by decide +kernel
theorem dL_begin_389 : decode cL_begin 389 = .ok (.aload_n 0, 1) := by decide +kernel
theorem dL_begin_390 : decode cL_begin 390 = .ok (.getfield 10, 3) := by decide +kernel
theorem dL_begin_393 : decode cL_begin 393 = .ok (.iconst 0, 1) := by decide +kernel
theorem dL_begin_394 : decode cL_begin 394 = .ok (.iconst 1, 1) := by decide +kernel
theorem dL_begin_395 : decode cL_begin 395 = .ok (.aload_n 0, 1) := by decide +kernel
theorem dL_begin_396 : decode cL_begin 396 = .ok (.getfield 18, 3) := by decide +kernel
theorem dL_begin_399 : decode cL_begin 399 = .ok (.iload 5, 2) := by decide +kernel
theorem dL_begin_401 : decode cL_begin 401 = .ok (.aaload, 1) := by decide +kernel
theorem dL_begin_402 : decode cL_begin 402 = .ok (.iconst 0, 1) := by decide +kernel
theorem dL_begin_403 : decode cL_begin 403 = .ok (.iaload, 1) := by decide +kernel
theorem dL_begin_404 : decode cL_begin 404 = .ok (.aload_n 0, 1) := by decide +kernel
theorem dL_begin_405 : decode cL_begin 405 = .ok (.getfield 18, 3) := by decide +kernel
theorem dL_begin_408 : decode cL_begin 408 = .ok (.iload 5, 2) := by decide +kernel
theorem dL_begin_410 : decode cL_begin 410 = .ok (.aaload, 1) := by decide +kernel
theorem dL_begin_411 : decode cL_begin 411 = .ok (.iconst 1, 1) := by decide +kernel
theorem dL_begin_412 : decode cL_begin 412 = .ok (.iaload, 1) := by decide +kernel
theorem dL_begin_413 : decode cL_begin 413 = .ok (.invokevirtual 156, 3) := by decide +kernel
theorem dL_begin_416 : decode cL_begin 416 = .ok (.ifCond .ne 52, 3) := by decide +kernel
theorem dL_begin_419 : decode cL_begin 419 = .ok (.aload_n 0, 1) := by decide +kernel
theorem dL_begin_420 : decode cL_begin 420 = .ok (.getfield 10, 3) := by decide +kernel
theorem dL_begin_423 : decode cL_begin 423 = .ok (.iconst 0, 1) := by decide +kernel
theorem dL_begin_424 : decode cL_begin 424 = .ok (.aload_n 0, 1) := by decide +kernel
theorem dL_begin_425 : decode cL_begin 425 = .ok (.getfield 18, 3) := by decide +kernel
theorem dL_begin_428 : decode cL_begin 428 = .ok (.iload 5, 2) := by decide +kernel
theorem dL_begin_430 : decode cL_begin 430 = .ok (.aaload, 1) := by decide +kernel
theorem dL_begin_431 : decode cL_begin 431 = .ok (.iconst 2, 1) := by decide +kernel
theorem dL_begin_432 : decode cL_begin 432 = .ok (.iaload, 1) := by decide +kernel
theorem dL_begin_433 : decode cL_begin 433 = .ok (.aload_n 0, 1) := by decide +kernel
theorem dL_begin_434 : decode cL_begin 434 = .ok (.getfield 18, 3) := by decide +kernel
theorem dL_begin_437 : decode cL_begin 437 = .ok (.iload 5, 2) := by decide +kernel
theorem dL_begin_439 : decode cL_begin 439 = .ok (.aaload, 1) := by decide +kernel
theorem dL_begin_440 : decode cL_begin 440 = .ok (.iconst 3, 1) := by decide +kernel
theorem dL_begin_441 : decode cL_begin 441 = .ok (.iaload, 1) := by decide +kernel
theorem dL_begin_442 : decode cL_begin 442 = .ok (.aload_n 0, 1) := by decide +kernel
theorem dL_begin_443 : decode cL_begin 443 = .ok (.getfield 18, 3) := by decide +kernel
theorem dL_begin_446 : decode cL_begin 446 = .ok (.iload 5, 2) := by decide +kernel
theorem dL_begin_448 : decode cL_begin 448 = .ok (.aaload, 1) := by decide +kernel
theorem dL_begin_449 : decode cL_begin 449 = .ok (.iconst 4, 1) := by decide +kernel
theorem dL_begin_450 : decode cL_begin 450 = .ok (.iaload, 1) := by decide +kernel
theorem dL_begin_451 : decode cL_begin 451 = .ok (.aload_n 0, 1) := by decide +kernel
theorem dL_begin_452 : decode cL_begin 452 = .ok (.getfield 18, 3) := by decide +kernel
theorem dL_begin_455 : decode cL_begin 455 = .ok (.iload 5, 2) := by decide +kernel
theorem dL_begin_457 : decode cL_begin 457 = .ok (.aaload, 1) := by decide +kernel
theorem dL_begin_458 : decode cL_begin 458 = .ok (.iconst 5, 1) := by decide +kernel
theorem dL_begin_459 : decode cL_begin 459 = .ok (.iaload, 1) := by decide +kernel
theorem dL_begin_460 : decode cL_begin 460 = .ok (.invokevirtual 160, 3) := by decide +kernel
theorem dL_begin_463 : decode cL_begin 463 = .ok (.iload 5, 2) := by decide +kernel
theorem dL_begin_465 : decode cL_begin 465 = .ok (.if_icmp .eq 5, 3) := by decide +kernel
theorem dL_begin_468 : decode cL_begin 468 = .ok (.iconst 0, 1) := by decide +kernel
theorem dL_begin_469 : decode cL_begin 469 = .ok (.ireturn, 1) := by decide +kernel
theorem dL_begin_470 : decode cL_begin 470 = .ok (.iinc 5 1, 3) := by decide +kernel
theorem dL_begin_473 : decode cL_begin 473 = .ok (.goto (-254), 3) := by decide +kernel
theorem dL_begin_476 : decode cL_begin 476 = .ok (.aload_n 1, 1) := by decide +kernel
theorem dL_begin_477 : decode cL_begin 477 = .ok (.iload_n 2, 1) := by decide +kernel
theorem dL_begin_478 : decode cL_begin 478 = .ok (.bipush 24, 2) := by decide +kernel
theorem dL_begin_480 : decode cL_begin 480 = .ok (.iadd, 1) := by decide +kernel
theorem dL_begin_481 : decode cL_begin 481 = .ok (.iconst 5, 1) := by decide +kernel
theorem dL_begin_482 : decode cL_begin 482 = .ok (.invokestatic 147, 3) := by decide +kernel
theorem dL_begin_485 : decode cL_begin 485 = .ok (.istore 5, 2) := by decide +kernel
theorem dL_begin_487 : decode cL_begin 487 = .ok (.iload 5, 2) := by decide +kernel
theorem dL_begin_489 : decode cL_begin 489 = .ok (.ifCond .le 126, 3) := by decide +kernel
theorem dL_begin_492 : decode cL_begin 492 = .ok (.aload_n 1, 1) := by decide +kernel
theorem dL_begin_493 : decode cL_begin 493 = .ok (.iload_n 2, 1) := by decide +kernel
theorem dL_begin_494 : decode cL_begin 494 = .ok (.bipush 24, 2) := by decide +kernel
theorem dL_begin_496 : decode cL_begin 496 = .ok (.iadd, 1) := by decide +kernel
theorem dL_begin_497 : decode cL_begin 497 = .ok (.iload 5, 2) := by decide +kernel
theorem dL_begin_499 : decode cL_begin 499 = .ok (.iadd, 1) := by decide +kernel
theorem dL_begin_500 : decode cL_begin 500 = .ok (.iconst 3, 1) := by decide +kernel
theorem dL_begin_501 : decode cL_begin 501 = .ok (.invokestatic 147, 3) := by decide +kernel
theorem dL_begin_504 : decode cL_begin 504 = .ok (.istore 6, 2) := by decide +kernel
theorem dL_begin_506 : decode cL_begin 506 = .ok (.iload 6, 2) := by decide +kernel
theorem dL_begin_508 : decode cL_begin 508 = .ok (.iconst 1, 1) := by decide +kernel
theorem dL_begin_509 : decode cL_begin 509 = .ok (.iadd, 1) := by decide +kernel
theorem dL_begin_510 : decode cL_begin 510 = .ok (.aload_n 1, 1) := by decide +kernel
theorem dL_begin_511 : decode cL_begin 511 = .ok (.iload_n 2, 1) := by decide +kernel
theorem dL_begin_512 : decode cL_begin 512 = .ok (.bipush 28, 2) := by decide +kernel
theorem dL_begin_514 : decode cL_begin 514 = .ok (.iadd, 1) := by decide +kernel
theorem dL_begin_515 : decode cL_begin 515 = .ok (.iload 5, 2) := by decide +kernel
theorem dL_begin_517 : decode cL_begin 517 = .ok (.iadd, 1) := by decide +kernel
theorem dL_begin_518 : decode cL_begin 518 = .ok (.iconst 2, 1) := by decide +kernel
theorem dL_begin_519 : decode cL_begin 519 = .ok (.invokestatic 147, 3) := by decide +kernel
theorem dL_begin_522 : decode cL_begin 522 = .ok (.iadd, 1) := by decide +kernel
theorem dL_begin_523 : decode cL_begin 523 = .ok (.iconst 3, 1) := by decide +kernel
theorem dL_begin_524 : decode cL_begin 524 = .ok (.irem, 1) := by decide +kernel
theorem dL_begin_525 : decode cL_begin 525 = .ok (.istore 7, 2) := by decide +kernel
theorem dL_begin_527 : decode cL_begin 527 = .ok (.aload_n 0, 1) := by decide +kernel
theorem dL_begin_528 : decode cL_begin 528 = .ok (.getfield 29, 3) := by decide +kernel
theorem dL_begin_531 : decode cL_begin 531 = .ok (.iload 6, 2) := by decide +kernel
theorem dL_begin_533 : decode cL_begin 533 = .ok (.aaload, 1) := by decide +kernel
theorem dL_begin_534 : decode cL_begin 534 = .ok (.iload 7, 2) := by decide +kernel
theorem dL_begin_536 : decode cL_begin 536 = .ok (.aload_n 0, 1) := by decide +kernel
theorem dL_begin_537 : decode cL_begin 537 = .ok (.getfield 29, 3) := by decide +kernel
theorem dL_begin_540 : decode cL_begin 540 = .ok (.iload 6, 2) := by decide +kernel
theorem dL_begin_542 : decode cL_begin 542 = .ok (.aaload, 1) := by decide +kernel
theorem dL_begin_543 : decode cL_begin 543 = .ok (.iload 7, 2) := by decide +kernel
theorem dL_begin_545 : decode cL_begin 545 = .ok (.baload, 1) := by decide +kernel
theorem dL_begin_546 : decode cL_begin 546 = .ok (.ifCond .ne 7, 3) := by decide +kernel
theorem dL_begin_549 : decode cL_begin 549 = .ok (.iconst 1, 1) := by decide +kernel
theorem dL_begin_550 : decode cL_begin 550 = .ok (.goto 4, 3) := by decide +kernel
theorem dL_begin_553 : decode cL_begin 553 = .ok (.iconst 0, 1) := by decide +kernel
theorem dL_begin_554 : decode cL_begin 554 = .ok (.bastore, 1) := by decide +kernel
theorem dL_begin_555 : decode cL_begin 555 = .ok (.aload_n 0, 1) := by decide +kernel
theorem dL_begin_556 : decode cL_begin 556 = .ok (.getfield 29, 3) := by decide +kernel
theorem dL_begin_559 : decode cL_begin 559 = .ok (.iload 7, 2) := by decide +kernel
theorem dL_begin_561 : decode cL_begin 561 = .ok (.aaload, 1) := by decide +kernel
theorem dL_begin_562 : decode cL_begin 562 = .ok (.iload 6, 2) := by decide +kernel
theorem dL_begin_564 : decode cL_begin 564 = .ok (.aload_n 0, 1) := by decide +kernel
theorem dL_begin_565 : decode cL_begin 565 = .ok (.getfield 29, 3) := by decide +kernel
theorem dL_begin_568 : decode cL_begin 568 = .ok (.iload 6, 2) := by decide +kernel
theorem dL_begin_570 : decode cL_begin 570 = .ok (.aaload, 1) := by decide +kernel
theorem dL_begin_571 : decode cL_begin 571 = .ok (.iload 7, 2) := by decide +kernel
theorem dL_begin_573 : decode cL_begin 573 = .ok (.baload, 1) := by decide +kernel
theorem dL_begin_574 : decode cL_begin 574 = .ok (.bastore, 1) := by decide +kernel
theorem dL_begin_575 : decode cL_begin 575 = .ok (.aload_n 0, 1) := by decide +kernel
theorem dL_begin_576 : decode cL_begin 576 = .ok (.getfield 10, 3) := by decide +kernel
theorem dL_begin_579 : decode cL_begin 579 = .ok (.iload 6, 2) := by decide +kernel
theorem dL_begin_581 : decode cL_begin 581 = .ok (.iload 7, 2) := by decide +kernel
theorem dL_begin_583 : decode cL_begin 583 = .ok (.invokevirtual 164, 3) := by decide +kernel
theorem dL_begin_586 : decode cL_begin 586 = .ok (.aload_n 0, 1) := by decide +kernel
theorem dL_begin_587 : decode cL_begin 587 = .ok (.getfield 29, 3) := by decide +kernel
theorem dL_begin_590 : decode cL_begin 590 = .ok (.iload 6, 2) := by decide +kernel
theorem dL_begin_592 : decode cL_begin 592 = .ok (.aaload, 1) := by decide +kernel
theorem dL_begin_593 : decode cL_begin 593 = .ok (.iload 7, 2) := by decide +kernel
theorem dL_begin_595 : decode cL_begin 595 = .ok (.baload, 1) := by decide +kernel
theorem dL_begin_596 : decode cL_begin 596 = .ok (.ifCond .eq 7, 3) := by decide +kernel
theorem dL_begin_599 : decode cL_begin 599 = .ok (.iconst 1, 1) := by decide +kernel
theorem dL_begin_600 : decode cL_begin 600 = .ok (.goto 4, 3) := by decide +kernel
theorem dL_begin_603 : decode cL_begin 603 = .ok (.iconst 0, 1) := by decide +kernel
theorem dL_begin_604 : decode cL_begin 604 = .ok (.if_icmp .eq 5, 3) := by decide +kernel
theorem dL_begin_607 : decode cL_begin 607 = .ok (.iconst 0, 1) := by decide +kernel
theorem dL_begin_608 : decode cL_begin 608 = .ok (.ireturn, 1) := by decide +kernel
theorem dL_begin_609 : decode cL_begin 609 = .ok (.iinc 5 (-1), 3) := by decide +kernel
theorem dL_begin_612 : decode cL_begin 612 = .ok (.goto (-125), 3) := by decide +kernel
theorem dL_begin_615 : decode cL_begin 615 = .ok (.aload_n 1, 1) := by decide +kernel
theorem dL_begin_616 : decode cL_begin 616 = .ok (.iload_n 2, 1) := by decide +kernel
theorem dL_begin_617 : decode cL_begin 617 = .ok (.bipush 33, 2) := by decide +kernel
theorem dL_begin_619 : decode cL_begin 619 = .ok (.iadd, 1) := by decide +kernel
theorem dL_begin_620 : decode cL_begin 620 = .ok (.iconst 2, 1) := by decide +kernel
theorem dL_begin_621 : decode cL_begin 621 = .ok (.invokestatic 147, 3) := by decide +kernel
theorem dL_begin_624 : decode cL_begin 624 = .ok (.ifCond .ne 16, 3) := by decide +kernel
theorem dL_begin_627 : decode cL_begin 627 = .ok (.aload_n 1, 1) := by decide +kernel
theorem dL_begin_628 : decode cL_begin 628 = .ok (.iload_n 2, 1) := by decide +kernel
theorem dL_begin_629 : decode cL_begin 629 = .ok (.bipush 34, 2) := by decide +kernel
theorem dL_begin_631 : decode cL_begin 631 = .ok (.iadd, 1) := by decide +kernel
theorem dL_begin_632 : decode cL_begin 632 = .ok (.bipush 24, 2) := by decide +kernel
theorem dL_begin_634 : decode cL_begin 634 = .ok (.invokestatic 147, 3) := by decide +kernel
theorem dL_begin_637 : decode cL_begin 637 = .ok (.goto 16, 3) := by decide +kernel
theorem dL_begin_640 : decode cL_begin 640 = .ok (.bipush 8, 2) := by decide +kernel
theorem dL_begin_642 : decode cL_begin 642 = .ok (.aload_n 1, 1) := by decide +kernel
theorem dL_begin_643 : decode cL_begin 643 = .ok (.iload_n 2, 1) := by decide +kernel
theorem dL_begin_644 : decode cL_begin 644 = .ok (.bipush 34, 2) := by decide +kernel
theorem dL_begin_646 : decode cL_begin 646 = .ok (.iadd, 1) := by decide +kernel
theorem dL_begin_647 : decode cL_begin 647 = .ok (.bipush 9, 2) := by decide +kernel
theorem dL_begin_649 : decode cL_begin 649 = .ok (.invokestatic 147, 3) := by decide +kernel
theorem dL_begin_652 : decode cL_begin 652 = .ok (.iadd, 1) := by decide +kernel
theorem dL_begin_653 : decode cL_begin 653 = .ok (.istore 5, 2) := by decide +kernel
theorem dL_begin_655 : decode cL_begin 655 = .ok (.aload_n 0, 1) := by decide +kernel
theorem dL_begin_656 : decode cL_begin 656 = .ok (.getfield 10, 3) := by decide +kernel
theorem dL_begin_659 : decode cL_begin 659 = .ok (.iconst 0, 1) := by decide +kernel
theorem dL_begin_660 : decode cL_begin 660 = .ok (.iload 5, 2) := by decide +kernel
theorem dL_begin_662 : decode cL_begin 662 = .ok (.invokevirtual 166, 3) := by decide +kernel
theorem dL_begin_665 : decode cL_begin 665 = .ok (.bipush 15, 2) := by decide +kernel
theorem dL_begin_667 : decode cL_begin 667 = .ok (.if_icmp .eq 5, 3) := by decide +kernel
theorem dL_begin_670 : decode cL_begin 670 = .ok (.iconst 0, 1) := by decide +kernel
theorem dL_begin_671 : decode cL_begin 671 = .ok (.ireturn, 1) := by decide +kernel
theorem dL_begin_672 : decode cL_begin 672 = .ok (.aload_n 0, 1) := by decide +kernel
theorem dL_begin_673 : decode cL_begin 673 = .ok (.iload 5, 2) := by decide +kernel
theorem dL_begin_675 : decode cL_begin 675 = .ok (.putfield 33, 3) := by decide +kernel
theorem dL_begin_678 : decode cL_begin 678 = .ok (.aload_n 0, 1) := by decide +kernel
theorem dL_begin_679 : decode cL_begin 679 = .ok (.aload_n 1, 1) := by decide +kernel
theorem dL_begin_680 : decode cL_begin 680 = .ok (.iload_n 2, 1) := by decide +kernel
theorem dL_begin_681 : decode cL_begin 681 = .ok (.bipush 35, 2) := by decide +kernel
theorem dL_begin_683 : decode cL_begin 683 = .ok (.iadd, 1) := by decide +kernel
theorem dL_begin_684 : decode cL_begin 684 = .ok (.iconst 2, 1) := by decide +kernel
theorem dL_begin_685 : decode cL_begin 685 = .ok (.invokestatic 147, 3) := by decide +kernel
theorem dL_begin_688 : decode cL_begin 688 = .ok (.ifCond .ne 16, 3) := by decide +kernel
theorem dL_begin_691 : decode cL_begin 691 = .ok (.aload_n 1, 1) := by decide +kernel
theorem dL_begin_692 : decode cL_begin 692 = .ok (.iload_n 2, 1) := by decide +kernel
theorem dL_begin_693 : decode cL_begin 693 = .ok (.bipush 36, 2) := by decide +kernel
theorem dL_begin_695 : decode cL_begin 695 = .ok (.iadd, 1) := by decide +kernel
theorem dL_begin_696 : decode cL_begin 696 = .ok (.bipush 10, 2) := by decide +kernel
theorem dL_begin_698 : decode cL_begin 698 = .ok (.invokestatic 147, 3) := by decide +kernel
theorem dL_begin_701 : decode cL_begin 701 = .ok (.goto 12, 3) := by decide +kernel
theorem dL_begin_704 : decode cL_begin 704 = .ok (.aload_n 1, 1) := by decide +kernel
theorem dL_begin_705 : decode cL_begin 705 = .ok (.iload_n 2, 1) := by decide +kernel
theorem dL_begin_706 : decode cL_begin 706 = .ok (.bipush 36, 2) := by decide +kernel
theorem dL_begin_708 : decode cL_begin 708 = .ok (.iadd, 1) := by decide +kernel
theorem dL_begin_709 : decode cL_begin 709 = .ok (.iconst 3, 1) := by decide +kernel
theorem dL_begin_710 : decode cL_begin 710 = .ok (.invokestatic 147, 3) := by decide +kernel
theorem dL_begin_713 : decode cL_begin 713 = .ok (.putfield 37, 3) := by decide +kernel
theorem dL_begin_716 : decode cL_begin 716 = .ok (.aload_n 0, 1) := by decide +kernel
theorem dL_begin_717 : decode cL_begin 717 = .ok (.iconst 1, 1) := by decide +kernel
theorem dL_begin_718 : decode cL_begin 718 = .ok (.aload_n 1, 1) := by decide +kernel
theorem dL_begin_719 : decode cL_begin 719 = .ok (.iload_n 2, 1) := by decide +kernel
theorem dL_begin_720 : decode cL_begin 720 = .ok (.bipush 37, 2) := by decide +kernel
theorem dL_begin_722 : decode cL_begin 722 = .ok (.iadd, 1) := by decide +kernel
theorem dL_begin_723 : decode cL_begin 723 = .ok (.bipush 9, 2) := by decide +kernel
theorem dL_begin_725 : decode cL_begin 725 = .ok (.invokestatic 147, 3) := by decide +kernel
theorem dL_begin_728 : decode cL_begin 728 = .ok (.iadd, 1) := by decide +kernel
theorem dL_begin_729 : decode cL_begin 729 = .ok (.putfield 40, 3) := by decide +kernel
theorem dL_begin_732 : decode cL_begin 732 = .ok (.aload_n 0, 1) := by decide +kernel
theorem dL_begin_733 : decode cL_begin 733 = .ok (.getfield 10, 3) := by decide +kernel
theorem dL_begin_736 : decode cL_begin 736 = .ok (.iconst 1, 1) := by decide +kernel
theorem dL_begin_737 : decode cL_begin 737 = .ok (.aload_n 0, 1) := by decide +kernel
theorem dL_begin_738 : decode cL_begin 738 = .ok (.getfield 37, 3) := by decide +kernel
theorem dL_begin_741 : decode cL_begin 741 = .ok (.invokevirtual 166, 3) := by decide +kernel
theorem dL_begin_744 : decode cL_begin 744 = .ok (.iconst 1, 1) := by decide +kernel
theorem dL_begin_745 : decode cL_begin 745 = .ok (.if_icmp .ne 19, 3) := by decide +kernel
theorem dL_begin_748 : decode cL_begin 748 = .ok (.aload_n 0, 1) := by decide +kernel
theorem dL_begin_749 : decode cL_begin 749 = .ok (.getfield 10, 3) := by decide +kernel
theorem dL_begin_752 : decode cL_begin 752 = .ok (.iconst 2, 1) := by decide +kernel
theorem dL_begin_753 : decode cL_begin 753 = .ok (.aload_n 0, 1) := by decide +kernel
theorem dL_begin_754 : decode cL_begin 754 = .ok (.getfield 40, 3) := by decide +kernel
theorem dL_begin_757 : decode cL_begin 757 = .ok (.invokevirtual 166, 3) := by decide +kernel
theorem dL_begin_760 : decode cL_begin 760 = .ok (.iconst 4, 1) := by decide +kernel
theorem dL_begin_761 : decode cL_begin 761 = .ok (.if_icmp .eq 5, 3) := by decide +kernel
theorem dL_begin_764 : decode cL_begin 764 = .ok (.iconst 0, 1) := by decide +kernel
theorem dL_begin_765 : decode cL_begin 765 = .ok (.ireturn, 1) := by decide +kernel
theorem dL_begin_766 : decode cL_begin 766 = .ok (.aload_n 1, 1) := by decide +kernel
theorem dL_begin_767 : decode cL_begin 767 = .ok (.iload_n 2, 1) := by decide +kernel
theorem dL_begin_768 : decode cL_begin 768 = .ok (.bipush 38, 2) := by decide +kernel
theorem dL_begin_770 : decode cL_begin 770 = .ok (.iadd, 1) := by decide +kernel
theorem dL_begin_771 : decode cL_begin 771 = .ok (.iconst 4, 1) := by decide +kernel
theorem dL_begin_772 : decode cL_begin 772 = .ok (.invokestatic 147, 3) := by decide +kernel
theorem dL_begin_775 : decode cL_begin 775 = .ok (.istore 6, 2) := by decide +kernel
theorem dL_begin_777 : decode cL_begin 777 = .ok (.iload 6, 2) := by decide +kernel
theorem dL_begin_779 : decode cL_begin 779 = .ok (.ifCond .le 273, 3) := by decide +kernel
theorem dL_begin_782 : decode cL_begin 782 = .ok (.aload_n 1, 1) := by decide +kernel
theorem dL_begin_783 : decode cL_begin 783 = .ok (.iload_n 2, 1) := by decide +kernel
theorem dL_begin_784 : decode cL_begin 784 = .ok (.bipush 38, 2) := by decide +kernel
theorem dL_begin_786 : decode cL_begin 786 = .ok (.iadd, 1) := by decide +kernel
theorem dL_begin_787 : decode cL_begin 787 = .ok (.iload 6, 2) := by decide +kernel
theorem dL_begin_789 : decode cL_begin 789 = .ok (.iadd, 1) := by decide +kernel
theorem dL_begin_790 : decode cL_begin 790 = .ok (.invokestatic 50, 3) := by decide +kernel
theorem dL_begin_793 : decode cL_begin 793 = .ok (.ldc 54, 2) := by decide +kernel
theorem dL_begin_795 : decode cL_begin 795 = .ok (.iand, 1) := by decide +kernel
theorem dL_begin_796 : decode cL_begin 796 = .ok (.istore 7, 2) := by decide +kernel
theorem dL_begin_798 : decode cL_begin 798 = .ok (.iconst 5, 1) := by decide +kernel
theorem dL_begin_799 : decode cL_begin 799 = .ok (.newarray .int, 2) := by decide +kernel
theorem dL_begin_801 : decode cL_begin 801 = .ok (.dup, 1) := by decide +kernel
theorem dL_begin_802 : decode cL_begin 802 = .ok (.iconst 0, 1) := by decide +kernel
theorem dL_begin_803 : decode cL_begin 803 = .ok (.iload 7, 2) := by decide +kernel
theorem dL_begin_805 : decode cL_begin 805 = .ok (.iconst 3, 1) := by decide +kernel
theorem dL_begin_806 : decode cL_begin 806 = .ok (.irem, 1) := by decide +kernel
theorem dL_begin_807 : decode cL_begin 807 = .ok (.iastore, 1) := by decide +kernel
theorem dL_begin_808 : decode cL_begin 808 = .ok (.dup, 1) := by decide +kernel
theorem dL_begin_809 : decode cL_begin 809 = .ok (.iconst 1, 1) := by decide +kernel
theorem dL_begin_810 : decode cL_begin 810 = .ok (.iload 7, 2) := by decide +kernel
theorem dL_begin_812 : decode cL_begin 812 = .ok (.iconst 3, 1) := by decide +kernel
theorem dL_begin_813 : decode cL_begin 813 = .ok (.idiv, 1) := by decide +kernel
theorem dL_begin_814 : decode cL_begin 814 = .ok (.iconst 2, 1) := by decide +kernel
theorem dL_begin_815 : decode cL_begin 815 = .ok (.irem, 1) := by decide +kernel
theorem dL_begin_816 : decode cL_begin 816 = .ok (.ifCond .ne 7, 3) := by decide +kernel
theorem dL_begin_819 : decode cL_begin 819 = .ok (.iconst 1, 1) := by decide +kernel
theorem dL_begin_820 : decode cL_begin 820 = .ok (.goto 4, 3) := by decide +kernel
theorem dL_begin_823 : decode cL_begin 823 = .ok (.iconst (-1), 1) := by decide +kernel
theorem dL_begin_824 : decode cL_begin 824 = .ok (.iastore, 1) := by decide +kernel
theorem dL_begin_825 : decode cL_begin 825 = .ok (.dup, 1) := by decide +kernel
theorem dL_begin_826 : decode cL_begin 826 = .ok (.iconst 2, 1) := by decide +kernel
theorem dL_begin_827 : decode cL_begin 827 = .ok (.iconst 1, 1) := by decide +kernel
theorem dL_begin_828 : decode cL_begin 828 = .ok (.iload 7, 2) := by decide +kernel
theorem dL_begin_830 : decode cL_begin 830 = .ok (.bipush 6, 2) := by decide +kernel
theorem dL_begin_832 : decode cL_begin 832 = .ok (.idiv, 1) := by decide +kernel
theorem dL_begin_833 : decode cL_begin 833 = .ok (.bipush 60, 2) := by decide +kernel
theorem dL_begin_835 : decode cL_begin 835 = .ok (.irem, 1) := by decide +kernel
theorem dL_begin_836 : decode cL_begin 836 = .ok (.iadd, 1) := by decide +kernel
theorem dL_begin_837 : decode cL_begin 837 = .ok (.iastore, 1) := by decide +kernel
theorem dL_begin_838 : decode cL_begin 838 = .ok (.dup, 1) := by decide +kernel
theorem dL_begin_839 : decode cL_begin 839 = .ok (.iconst 3, 1) := by decide +kernel
theorem dL_begin_840 : decode cL_begin 840 = .ok (.iload 7, 2) := by decide +kernel
theorem dL_begin_842 : decode cL_begin 842 = .ok (.sipush 360, 3) := by decide +kernel
theorem dL_begin_845 : decode cL_begin 845 = .ok (.idiv, 1) := by decide +kernel
theorem dL_begin_846 : decode cL_begin 846 = .ok (.iconst 3, 1) := by decide +kernel
theorem dL_begin_847 : decode cL_begin 847 = .ok (.irem, 1) := by decide +kernel
theorem dL_begin_848 : decode cL_begin 848 = .ok (.ifCond .ne 15, 3) := by decide +kernel
theorem dL_begin_851 : decode cL_begin 851 = .ok (.iload 7, 2) := by decide +kernel
theorem dL_begin_853 : decode cL_begin 853 = .ok (.sipush 1080, 3) := by decide +kernel
theorem dL_begin_856 : decode cL_begin 856 = .ok (.idiv, 1) := by decide +kernel
theorem dL_begin_857 : decode cL_begin 857 = .ok (.bipush 100, 2) := by decide +kernel
theorem dL_begin_859 : decode cL_begin 859 = .ok (.irem, 1) := by decide +kernel
theorem dL_begin_860 : decode cL_begin 860 = .ok (.goto 12, 3) := by decide +kernel
theorem dL_begin_863 : decode cL_begin 863 = .ok (.iload 7, 2) := by decide +kernel
theorem dL_begin_865 : decode cL_begin 865 = .ok (.sipush 1080, 3) := by decide +kernel
theorem dL_begin_868 : decode cL_begin 868 = .ok (.idiv, 1) := by decide +kernel
theorem dL_begin_869 : decode cL_begin 869 = .ok (.bipush 12, 2) := by decide +kernel
theorem dL_begin_871 : decode cL_begin 871 = .ok (.irem, 1) := by decide +kernel
theorem dL_begin_872 : decode cL_begin 872 = .ok (.iastore, 1) := by decide +kernel
theorem dL_begin_873 : decode cL_begin 873 = .ok (.dup, 1) := by decide +kernel
theorem dL_begin_874 : decode cL_begin 874 = .ok (.iconst 4, 1) := by decide +kernel
theorem dL_begin_875 : decode cL_begin 875 = .ok (.iload 7, 2) := by decide +kernel
theorem dL_begin_877 : decode cL_begin 877 = .ok (.ldc 169, 2) := by decide +kernel
theorem dL_begin_879 : decode cL_begin 879 = .ok (.idiv, 1) := by decide +kernel
theorem dL_begin_880 : decode cL_begin 880 = .ok (.bipush 24, 2) := by decide +kernel
theorem dL_begin_882 : decode cL_begin 882 = .ok (.irem, 1) := by decide +kernel
theorem dL_begin_883 : decode cL_begin 883 = .ok (.iastore, 1) := by decide +kernel
theorem dL_begin_884 : decode cL_begin 884 = .ok (.astore 8, 2) := by decide +kernel
theorem dL_begin_886 : decode cL_begin 886 = .ok (.aload_n 0, 1) := by decide +kernel
theorem dL_begin_887 : decode cL_begin 887 = .ok (.getfield 24, 3) := by decide +kernel
theorem dL_begin_890 : decode cL_begin 890 = .ok (.aload_n 0, 1) := by decide +kernel
theorem dL_begin_891 : decode cL_begin 891 = .ok (.getfield 131, 3) := by decide +kernel
theorem dL_begin_894 : decode cL_begin 894 = .ok (.aload 8, 2) := by decide +kernel
theorem dL_begin_896 : decode cL_begin 896 = .ok (.aastore, 1) := by decide +kernel
theorem dL_begin_897 : decode cL_begin 897 = .ok (.aload_n 0, 1) := by decide +kernel
theorem dL_begin_898 : decode cL_begin 898 = .ok (.dup, 1) := by decide +kernel
theorem dL_begin_899 : decode cL_begin 899 = .ok (.getfield 131, 3) := by decide +kernel
theorem dL_begin_902 : decode cL_begin 902 = .ok (.iconst 1, 1) := by decide +kernel
theorem dL_begin_903 : decode cL_begin 903 = .ok (.iadd, 1) := by decide +kernel
theorem dL_begin_904 : decode cL_begin 904 = .ok (.putfield 131, 3) := by decide +kernel
theorem dL_begin_907 : decode cL_begin 907 = .ok (.bipush 10, 2) := by decide +kernel
theorem dL_begin_909 : decode cL_begin 909 = .ok (.newarray .int, 2) := by decide +kernel
theorem dL_begin_911 : decode cL_begin 911 = .ok (.dup, 1) := by decide +kernel
theorem dL_begin_912 : decode cL_begin 912 = .ok (.iconst 0, 1) := by decide +kernel
theorem dL_begin_913 : decode cL_begin 913 = .ok (.bipush 116, 2) := by decide +kernel
theorem dL_begin_915 : decode cL_begin 915 = .ok (.iastore, 1) := by decide +kernel
theorem dL_begin_916 : decode cL_begin 916 = .ok (.dup, 1) := by decide +kernel
theorem dL_begin_917 : decode cL_begin 917 = .ok (.iconst 1, 1) := by decide +kernel
theorem dL_begin_918 : decode cL_begin 918 = .ok (.bipush 48, 2) := by decide +kernel
theorem dL_begin_920 : decode cL_begin 920 = .ok (.aload 8, 2) := by decide +kernel
theorem dL_begin_922 : decode cL_begin 922 = .ok (.iconst 0, 1) := by decide +kernel
theorem dL_begin_923 : decode cL_begin 923 = .ok (.iaload, 1) := by decide +kernel
theorem dL_begin_924 : decode cL_begin 924 = .ok (.iadd, 1) := by decide +kernel
theorem dL_begin_925 : decode cL_begin 925 = .ok (.iastore, 1) := by decide +kernel
theorem dL_begin_926 : decode cL_begin 926 = .ok (.dup, 1) := by decide +kernel
theorem dL_begin_927 : decode cL_begin 927 = .ok (.iconst 2, 1) := by decide +kernel
theorem dL_begin_928 : decode cL_begin 928 = .ok (.aload 8, 2) := by decide +kernel
theorem dL_begin_930 : decode cL_begin 930 = .ok (.iconst 1, 1) := by decide +kernel
theorem dL_begin_931 : decode cL_begin 931 = .ok (.iaload, 1) := by decide +kernel
theorem dL_begin_932 : decode cL_begin 932 = .ok (.ifCond .le 8, 3) := by decide +kernel
theorem dL_begin_935 : decode cL_begin 935 = .ok (.bipush 43, 2) := by decide +kernel
theorem dL_begin_937 : decode cL_begin 937 = .ok (.goto 5, 3) := by decide +kernel
theorem dL_begin_940 : decode cL_begin 940 = .ok (.bipush 45, 2) := by decide +kernel
theorem dL_begin_942 : decode cL_begin 942 = .ok (.iastore, 1) := by decide +kernel
theorem dL_begin_943 : decode cL_begin 943 = .ok (.dup, 1) := by decide +kernel
theorem dL_begin_944 : decode cL_begin 944 = .ok (.iconst 3, 1) := by decide +kernel
theorem dL_begin_945 : decode cL_begin 945 = .ok (.bipush 48, 2) := by decide +kernel
theorem dL_begin_947 : decode cL_begin 947 = .ok (.aload 8, 2) := by decide +kernel
theorem dL_begin_949 : decode cL_begin 949 = .ok (.iconst 2, 1) := by decide +kernel
theorem dL_begin_950 : decode cL_begin 950 = .ok (.iaload, 1) := by decide +kernel
theorem dL_begin_951 : decode cL_begin 951 = .ok (.bipush 10, 2) := by decide +kernel
theorem dL_begin_953 : decode cL_begin 953 = .ok (.idiv, 1) := by decide +kernel
theorem dL_begin_954 : decode cL_begin 954 = .ok (.iadd, 1) := by decide +kernel
theorem dL_begin_955 : decode cL_begin 955 = .ok (.iastore, 1) := by decide +kernel
theorem dL_begin_956 : decode cL_begin 956 = .ok (.dup, 1) := by decide +kernel
theorem dL_begin_957 : decode cL_begin 957 = .ok (.iconst 4, 1) := by decide +kernel
theorem dL_begin_958 : decode cL_begin 958 = .ok (.bipush 48, 2) := by decide +kernel
theorem dL_begin_960 : decode cL_begin 960 = .ok (.aload 8, 2) := by decide +kernel
theorem dL_begin_962 : decode cL_begin 962 = .ok (.iconst 2, 1) := by decide +kernel
theorem dL_begin_963 : decode cL_begin 963 = .ok (.iaload, 1) := by decide +kernel
theorem dL_begin_964 : decode cL_begin 964 = .ok (.bipush 10, 2) := by decide +kernel
theorem dL_begin_966 : decode cL_begin 966 = .ok (.irem, 1) := by decide +kernel
theorem dL_begin_967 : decode cL_begin 967 = .ok (.iadd, 1) := by decide +kernel
theorem dL_begin_968 : decode cL_begin 968 = .ok (.iastore, 1) := by decide +kernel
theorem dL_begin_969 : decode cL_begin 969 = .ok (.dup, 1) := by decide +kernel
theorem dL_begin_970 : decode cL_begin 970 = .ok (.iconst 5, 1) := by decide +kernel
theorem dL_begin_971 : decode cL_begin 971 = .ok (.bipush 48, 2) := by decide +kernel
theorem dL_begin_973 : decode cL_begin 973 = .ok (.aload 8, 2) := by decide +kernel
theorem dL_begin_975 : decode cL_begin 975 = .ok (.iconst 3, 1) := by decide +kernel
theorem dL_begin_976 : decode cL_begin 976 = .ok (.iaload, 1) := by decide +kernel
theorem dL_begin_977 : decode cL_begin 977 = .ok (.bipush 10, 2) := by decide +kernel
theorem dL_begin_979 : decode cL_begin 979 = .ok (.idiv, 1) := by decide +kernel
theorem dL_begin_980 : decode cL_begin 980 = .ok (.iadd, 1) := by decide +kernel
theorem dL_begin_981 : decode cL_begin 981 = .ok (.iastore, 1) := by decide +kernel
theorem dL_begin_982 : decode cL_begin 982 = .ok (.dup, 1) := by decide +kernel
theorem dL_begin_983 : decode cL_begin 983 = .ok (.bipush 6, 2) := by decide +kernel
theorem dL_begin_985 : decode cL_begin 985 = .ok (.bipush 48, 2) := by decide +kernel
theorem dL_begin_987 : decode cL_begin 987 = .ok (.aload 8, 2) := by decide +kernel
theorem dL_begin_989 : decode cL_begin 989 = .ok (.iconst 3, 1) := by decide +kernel
theorem dL_begin_990 : decode cL_begin 990 = .ok (.iaload, 1) := by decide +kernel
theorem dL_begin_991 : decode cL_begin 991 = .ok (.bipush 10, 2) := by decide +kernel
theorem dL_begin_993 : decode cL_begin 993 = .ok (.irem, 1) := by decide +kernel
theorem dL_begin_994 : decode cL_begin 994 = .ok (.iadd, 1) := by decide +kernel
theorem dL_begin_995 : decode cL_begin 995 = .ok (.iastore, 1) := by decide +kernel
theorem dL_begin_996 : decode cL_begin 996 = .ok (.dup, 1) := by decide +kernel
theorem dL_begin_997 : decode cL_begin 997 = .ok (.bipush 7, 2) := by decide +kernel
theorem dL_begin_999 : decode cL_begin 999 = .ok (.bipush 48, 2) := by decide +kernel
theorem dL_begin_1001 : decode cL_begin 1001 = .ok (.aload 8, 2) := by decide +kernel
theorem dL_begin_1003 : decode cL_begin 1003 = .ok (.iconst 4, 1) := by decide +kernel
theorem dL_begin_1004 : decode cL_begin 1004 = .ok (.iaload, 1) := by decide +kernel
theorem dL_begin_1005 : decode cL_begin 1005 = .ok (.bipush 10, 2) := by decide +kernel
theorem dL_begin_1007 : decode cL_begin 1007 = .ok (.idiv, 1) := by decide +kernel
theorem dL_begin_1008 : decode cL_begin 1008 = .ok (.iadd, 1) := by decide +kernel
theorem dL_begin_1009 : decode cL_begin 1009 = .ok (.iastore, 1) := by decide +kernel
theorem dL_begin_1010 : decode cL_begin 1010 = .ok (.dup, 1) := by decide +kernel
theorem dL_begin_1011 : decode cL_begin 1011 = .ok (.bipush 8, 2) := by decide +kernel
theorem dL_begin_1013 : decode cL_begin 1013 = .ok (.bipush 48, 2) := by decide +kernel
theorem dL_begin_1015 : decode cL_begin 1015 = .ok (.aload 8, 2) := by decide +kernel
theorem dL_begin_1017 : decode cL_begin 1017 = .ok (.iconst 4, 1) := by decide +kernel
theorem dL_begin_1018 : decode cL_begin 1018 = .ok (.iaload, 1) := by decide +kernel
theorem dL_begin_1019 : decode cL_begin 1019 = .ok (.bipush 10, 2) := by decide +kernel
theorem dL_begin_1021 : decode cL_begin 1021 = .ok (.irem, 1) := by decide +kernel
theorem dL_begin_1022 : decode cL_begin 1022 = .ok (.iadd, 1) := by decide +kernel
theorem dL_begin_1023 : decode cL_begin 1023 = .ok (.iastore, 1) := by decide +kernel
theorem dL_begin_1024 : decode cL_begin 1024 = .ok (.dup, 1) := by decide +kernel
theorem dL_begin_1025 : decode cL_begin 1025 = .ok (.bipush 9, 2) := by decide +kernel
theorem dL_begin_1027 : decode cL_begin 1027 = .ok (.bipush 59, 2) := by decide +kernel
theorem dL_begin_1029 : decode cL_begin 1029 = .ok (.iastore, 1) := by decide +kernel
theorem dL_begin_1030 : decode cL_begin 1030 = .ok (.astore 9, 2) := by decide +kernel
theorem dL_begin_1032 : decode cL_begin 1032 = .ok (.aload_n 0, 1) := by decide +kernel
theorem dL_begin_1033 : decode cL_begin 1033 = .ok (.aload 9, 2) := by decide +kernel
theorem dL_begin_1035 : decode cL_begin 1035 = .ok (.bipush 10, 2) := by decide +kernel
theorem dL_begin_1037 : decode cL_begin 1037 = .ok (.invokevirtual 170, 3) := by decide +kernel
theorem dL_begin_1040 : decode cL_begin 1040 = .ok (.iconst 1, 1) := by decide +kernel
theorem dL_begin_1041 : decode cL_begin 1041 = .ok (.if_icmp .eq 5, 3) := by decide +kernel
theorem dL_begin_1044 : decode cL_begin 1044 = .ok (.iconst 0, 1) := by decide +kernel
theorem dL_begin_1045 : decode cL_begin 1045 = .ok (.ireturn, 1) := by decide +kernel
theorem dL_begin_1046 : decode cL_begin 1046 = .ok (.iinc 6 (-1), 3) := by decide +kernel
theorem dL_begin_1049 : decode cL_begin 1049 = .ok (.goto (-272), 3) := by decide +kernel
theorem dL_begin_1052 : decode cL_begin 1052 = .ok (.iconst 1, 1) := by decide +kernel
theorem dL_begin_1053 : decode cL_begin 1053 = .ok (.ireturn, 1) := by decide +kernel
def b_L_begin_942 (xL : Nat) (xs : Nat → Int32) (v2 : Int32) (v6 : Int32) (v8 : Nat) (s0 : Int32) (s1 : Int32) (s2 : Nat) (s3 : Nat) (S : St) : Option ((Int32 × Int32 × St) ⊕ (Int32 × St)) := (dyl S s2).bind fun n1 => gd (inb s1 n1) (nm (si S s2 s1.toNatClampNeg s0) fun S3 => (dyl S3 v8).bind fun n5 => gd (inb 2 n5) ((dyl S3 s3).bind fun n7 => gd (inb 3 n7) (nm (si S3 s3 (3 : Int32).toNatClampNeg (48 + ((gi S3 v8 (2 : Int32).toNatClampNeg) / 10))) fun S9 => (dyl S9 v8).bind fun n11 => gd (inb 2 n11) ((dyl S9 s3).bind fun n13 => gd (inb 4 n13) (nm (si S9 s3 (4 : Int32).toNatClampNeg (48 + ((gi S9 v8 (2 : Int32).toNatClampNeg) - (gi S9 v8 (2 : Int32).toNatClampNeg) / 10 * 10))) fun S15 => (dyl S15 v8).bind fun n17 => gd (inb 3 n17) ((dyl S15 s3).bind fun n19 => gd (inb 5 n19) (nm (si S15 s3 (5 : Int32).toNatClampNeg (48 + ((gi S15 v8 (3 : Int32).toNatClampNeg) / 10))) fun S21 => (dyl S21 v8).bind fun n23 => gd (inb 3 n23) ((dyl S21 s3).bind fun n25 => gd (inb 6 n25) (nm (si S21 s3 (6 : Int32).toNatClampNeg (48 + ((gi S21 v8 (3 : Int32).toNatClampNeg) - (gi S21 v8 (3 : Int32).toNatClampNeg) / 10 * 10))) fun S27 => (dyl S27 v8).bind fun n29 => gd (inb 4 n29) ((dyl S27 s3).bind fun n31 => gd (inb 7 n31) (nm (si S27 s3 (7 : Int32).toNatClampNeg (48 + ((gi S27 v8 (4 : Int32).toNatClampNeg) / 10))) fun S33 => (dyl S33 v8).bind fun n35 => gd (inb 4 n35) ((dyl S33 s3).bind fun n37 => gd (inb 8 n37) (nm (si S33 s3 (8 : Int32).toNatClampNeg (48 + ((gi S33 v8 (4 : Int32).toNatClampNeg) - (gi S33 v8 (4 : Int32).toNatClampNeg) / 10 * 10))) fun S39 => (dyl S39 s3).bind fun n40 => gd (inb 9 n40) (nm (si S39 s3 (9 : Int32).toNatClampNeg 59) fun S42 => (L_L_tell xL xs s3 10 S42).bind fun r43 => (if (r43.1 : Int32) = 1 then some (.inl (v2, (v6 + (-1)), r43.2)) else some (.inr (0, r43.2)))))))))))))))))
def b_L_begin_872 (xL : Nat) (xs : Nat → Int32) (v2 : Int32) (v6 : Int32) (v7 : Int32) (s0 : Int32) (s1 : Int32) (s2 : Nat) (s3 : Nat) (S : St) : Option ((Int32 × Int32 × St) ⊕ (Int32 × St)) := (dyl S s2).bind fun n1 => gd (inb s1 n1) (nm (si S s2 s1.toNatClampNeg s0) fun S3 => (dyl S3 s3).bind fun n6 => gd (inb 4 n6) (nm (si S3 s3 (4 : Int32).toNatClampNeg ((v7 / 108000) - (v7 / 108000) / 24 * 24)) fun S8 => gd (inb (gi S8 136 5) 4) ((dyl S8 s3).bind fun n10 => nm (sr S8 152 (gi S8 136 5).toNatClampNeg (some s3)) fun S11 => nm (si S11 136 5 ((gi S11 136 5) + 1)) fun S12 => gd (decide (183 ≤ tp S12)) (nm (tp S12) fun k14 => nm (san S12 10) fun S15 => (dyl S15 k14).bind fun n16 => gd (inb 0 n16) (nm (si S15 k14 (0 : Int32).toNatClampNeg 116) fun S18 => (dyl S18 s3).bind fun n20 => gd (inb 0 n20) ((dyl S18 k14).bind fun n21 => gd (inb 1 n21) (nm (si S18 k14 (1 : Int32).toNatClampNeg (48 + (gi S18 s3 (0 : Int32).toNatClampNeg))) fun S23 => (dyl S23 s3).bind fun n25 => gd (inb 1 n25) ((if (gi S23 s3 (1 : Int32).toNatClampNeg : Int32) ≤ 0 then (b_L_begin_942 xL xs v2 v6 s3 45 2 k14 k14 S23) else (b_L_begin_942 xL xs v2 v6 s3 43 2 k14 k14 S23))))))))))
def b_L_begin_824 (xL : Nat) (xs : Nat → Int32) (v2 : Int32) (v6 : Int32) (v7 : Int32) (s0 : Int32) (s1 : Int32) (s2 : Nat) (s3 : Nat) (S : St) : Option ((Int32 × Int32 × St) ⊕ (Int32 × St)) := (dyl S s2).bind fun n1 => gd (inb s1 n1) (nm (si S s2 s1.toNatClampNeg s0) fun S3 => (dyl S3 s3).bind fun n6 => gd (inb 2 n6) (nm (si S3 s3 (2 : Int32).toNatClampNeg (1 + ((v7 / 6) - (v7 / 6) / 60 * 60))) fun S8 => (if ((v7 / 360) - (v7 / 360) / 3 * 3 : Int32) = 0 then (b_L_begin_872 xL xs v2 v6 v7 ((v7 / 1080) - (v7 / 1080) / 100 * 100) 3 s3 s3 S8) else (b_L_begin_872 xL xs v2 v6 v7 ((v7 / 1080) - (v7 / 1080) / 12 * 12) 3 s3 s3 S8))))
def b_L_begin_777 (xL : Nat) (xs : Nat → Int32) (v2 : Int32) (v6 : Int32) (S : St) : Option ((Int32 × Int32 × St) ⊕ (Int32 × St)) := (if (v6 : Int32) ≤ 0 then some (.inr (1, S)) else (L_L_cell xL xs ((v2 + 38) + v6) S).bind fun r2 => gd (decide (183 ≤ tp S)) (nm (tp S) fun k4 => nm (san S 5) fun S5 => (dyl S5 k4).bind fun n7 => gd (inb 0 n7) (nm (si S5 k4 (0 : Int32).toNatClampNeg ((r2 &&& 2147483647) - (r2 &&& 2147483647) / 3 * 3)) fun S9 => (if (((r2 &&& 2147483647) / 3) - ((r2 &&& 2147483647) / 3) / 2 * 2 : Int32) = 0 then (b_L_begin_824 xL xs v2 v6 (r2 &&& 2147483647) 1 1 k4 k4 S9) else (b_L_begin_824 xL xs v2 v6 (r2 &&& 2147483647) ((-1)) 1 k4 k4 S9)))))
def l_L_begin_777 (xL : Nat) (xs : Nat → Int32) (x : (Int32 × Int32 × St)) : Option ((Int32 × Int32 × St) ⊕ (Int32 × St)) := b_L_begin_777 xL xs x.1 x.2.1 x.2.2
def b_L_begin_713 (xL : Nat) (xs : Nat → Int32) (v2 : Int32) (s0 : Int32) (S : St) : Option (Int32 × St) := nm (si S 136 9 s0) fun S1 => (L_L_some xL xs (v2 + 37) 9 S1).bind fun r2 => nm (si S1 136 10 (1 + r2)) fun S3 => (L_X11_set 1 (gi S3 136 9) S3).bind fun r4 => gd (lq S3 r4.2) ((if (r4.1 : Int32) = 1 then (L_X11_set 2 (gi r4.2 136 10) r4.2).bind fun r7 => gd (lq r4.2 r7.2) ((if (r7.1 : Int32) = 4 then (L_L_some xL xs (v2 + 38) 4 r7.2).bind fun r10 => (lp 5 (l_L_begin_777 xL xs) (v2, r10, r7.2)) else some (0, r7.2))) else some (0, r4.2)))
def b_L_begin_653 (xL : Nat) (xs : Nat → Int32) (v2 : Int32) (s0 : Int32) (S : St) : Option (Int32 × St) := (L_X11_set 0 s0 S).bind fun r1 => gd (lq S r1.2) ((if (r1.1 : Int32) = 15 then nm (si r1.2 136 8 s0) fun S4 => (L_L_some xL xs (v2 + 35) 2 S4).bind fun r5 => (if (r5 : Int32) = 0 then (L_L_some xL xs (v2 + 36) 10 S4).bind fun r8 => (b_L_begin_713 xL xs v2 r8 S4) else (L_L_some xL xs (v2 + 36) 3 S4).bind fun r7 => (b_L_begin_713 xL xs v2 r7 S4)) else some (0, r1.2)))
def b_L_begin_615 (xL : Nat) (xs : Nat → Int32) (v2 : Int32) (S : St) : Option (Int32 × St) := (L_L_some xL xs (v2 + 33) 2 S).bind fun r1 => (if (r1 : Int32) = 0 then (L_L_some xL xs (v2 + 34) 24 S).bind fun r4 => (b_L_begin_653 xL xs v2 r4 S) else (L_L_some xL xs (v2 + 34) 9 S).bind fun r3 => (b_L_begin_653 xL xs v2 (8 + r3) S))
def b_L_begin_604 (xL : Nat) (xs : Nat → Int32) (v2 : Int32) (v5 : Int32) (s0 : Int32) (s1 : Int32) (S : St) : Option ((Int32 × Int32 × St) ⊕ (Int32 × St)) := (if (s1 : Int32) = s0 then some (.inl (v2, (v5 + (-1)), S)) else some (.inr (0, S)))
def b_L_begin_554 (xL : Nat) (xs : Nat → Int32) (v2 : Int32) (v5 : Int32) (v6 : Int32) (v7 : Int32) (s0 : Int32) (s1 : Int32) (s2 : Nat) (S : St) : Option ((Int32 × Int32 × St) ⊕ (Int32 × St)) := gd ((s0 : Int32) == 0 || (s0 : Int32) == 1) (gd (inb s1 4) (nm (si S (158 + 1 * s2) s1.toNatClampNeg s0) fun S3 => gd (inb v7 4) (gd (inb v6 4) (gd (inb v7 4) (gd ((gi S3 (158 + 1 * v6.toNatClampNeg) v7.toNatClampNeg : Int32) == 0 || (gi S3 (158 + 1 * v6.toNatClampNeg) v7.toNatClampNeg : Int32) == 1) (gd (inb v6 4) (nm (si S3 (158 + 1 * v7.toNatClampNeg) v6.toNatClampNeg (gi S3 (158 + 1 * v6.toNatClampNeg) v7.toNatClampNeg)) fun S9 => (L_X11_kin v6 v7 S9).bind fun r10 => gd (lq S9 r10.2) (gd (inb v6 4) (gd (inb v7 4) ((if (gi r10.2 (158 + 1 * v6.toNatClampNeg) v7.toNatClampNeg : Int32) = 0 then (b_L_begin_604 xL xs v2 v5 0 r10.1 r10.2) else (b_L_begin_604 xL xs v2 v5 1 r10.1 r10.2))))))))))))
def b_L_begin_487 (xL : Nat) (xs : Nat → Int32) (v2 : Int32) (v5 : Int32) (S : St) : Option ((Int32 × Int32 × St) ⊕ (Int32 × St)) := (if (v5 : Int32) ≤ 0 then ((b_L_begin_615 xL xs v2 S).map Sum.inr) else (L_L_some xL xs ((v2 + 24) + v5) 3 S).bind fun r2 => (L_L_some xL xs ((v2 + 28) + v5) 2 S).bind fun r3 => gd (inb r2 4) (gd (inb r2 4) (gd (inb (((r2 + 1) + r3) - ((r2 + 1) + r3) / 3 * 3) 4) ((if (gi S (158 + 1 * r2.toNatClampNeg) (((r2 + 1) + r3) - ((r2 + 1) + r3) / 3 * 3).toNatClampNeg : Int32) = 0 then (b_L_begin_554 xL xs v2 v5 r2 (((r2 + 1) + r3) - ((r2 + 1) + r3) / 3 * 3) 1 (((r2 + 1) + r3) - ((r2 + 1) + r3) / 3 * 3) r2.toNatClampNeg S) else (b_L_begin_554 xL xs v2 v5 r2 (((r2 + 1) + r3) - ((r2 + 1) + r3) / 3 * 3) 0 (((r2 + 1) + r3) - ((r2 + 1) + r3) / 3 * 3) r2.toNatClampNeg S))))))
def l_L_begin_487 (xL : Nat) (xs : Nat → Int32) (x : (Int32 × Int32 × St)) : Option ((Int32 × Int32 × St) ⊕ (Int32 × St)) := b_L_begin_487 xL xs x.1 x.2.1 x.2.2
def b_L_begin_476 (xL : Nat) (xs : Nat → Int32) (v2 : Int32) (S : St) : Option (Int32 × St) := (L_L_some xL xs (v2 + 24) 5 S).bind fun r1 => (lp 5 (l_L_begin_487 xL xs) (v2, r1, S))
def b_L_begin_377 (xL : Nat) (xs : Nat → Int32) (v2 : Int32) (v4 : Int32) (v5 : Int32) (s0 : Int32) (s1 : Int32) (s2 : Nat) (s3 : Nat) (s4 : Int32) (S : St) : Option ((Int32 × Int32 × Int32 × St) ⊕ (Int32 × St)) := (dyl S s2).bind fun n1 => gd (inb s1 n1) (nm (si S s2 s1.toNatClampNeg s0) fun S3 => gd (inb s4 8) ((dyl S3 s3).bind fun n5 => nm (sr S3 136 s4.toNatClampNeg (some s3)) fun S6 => nm (si S6 136 1 ((gi S6 136 1) + 1)) fun S7 => gd (inb v5 8) ((gr S7 136 v5.toNatClampNeg).bind fun q9 => (dyl S7 q9).bind fun n11 => gd (inb 0 n11) (gd (inb v5 8) ((gr S7 136 v5.toNatClampNeg).bind fun q13 => (dyl S7 q13).bind fun n15 => gd (inb 1 n15) ((L_X11_keep 0 1 (gi S7 q9 (0 : Int32).toNatClampNeg) (gi S7 q13 (1 : Int32).toNatClampNeg) S7).bind fun r16 => gd (lq S7 r16.2) ((if (r16.1 : Int32) = 0 then gd (inb v5 8) ((gr r16.2 136 v5.toNatClampNeg).bind fun q20 => (dyl r16.2 q20).bind fun n22 => gd (inb 2 n22) (gd (inb v5 8) ((gr r16.2 136 v5.toNatClampNeg).bind fun q24 => (dyl r16.2 q24).bind fun n26 => gd (inb 3 n26) (gd (inb v5 8) ((gr r16.2 136 v5.toNatClampNeg).bind fun q28 => (dyl r16.2 q28).bind fun n30 => gd (inb 4 n30) (gd (inb v5 8) ((gr r16.2 136 v5.toNatClampNeg).bind fun q32 => (dyl r16.2 q32).bind fun n34 => gd (inb 5 n34) ((L_X11_comes 0 (gi r16.2 q20 (2 : Int32).toNatClampNeg) (gi r16.2 q24 (3 : Int32).toNatClampNeg) (gi r16.2 q28 (4 : Int32).toNatClampNeg) (gi r16.2 q32 (5 : Int32).toNatClampNeg) r16.2).bind fun r35 => gd (lq r16.2 r35.2) ((if (r35.1 : Int32) = v5 then some (.inl (v2, v4, (v5 + 1), r35.2)) else some (.inr (0, r35.2)))))))))))) else some (.inr (0, r16.2))))))))))
def b_L_begin_328 (xL : Nat) (xs : Nat → Int32) (v2 : Int32) (v4 : Int32) (v5 : Int32) (v7 : Int32) (s0 : Int32) (s1 : Int32) (s2 : Nat) (s3 : Nat) (s4 : Int32) (S : St) : Option ((Int32 × Int32 × Int32 × St) ⊕ (Int32 × St)) := (dyl S s2).bind fun n1 => gd (inb s1 n1) (nm (si S s2 s1.toNatClampNeg s0) fun S3 => (dyl S3 s3).bind fun n6 => gd (inb 4 n6) (nm (si S3 s3 (4 : Int32).toNatClampNeg (((v7 / 48) - (v7 / 48) / 19 * 19) - 9)) fun S8 => (if ((v7 / 912) - (v7 / 912) / 4 * 4 : Int32) = 0 then (b_L_begin_377 xL xs v2 v4 v5 ((v7 / 3648) - (v7 / 3648) / 100 * 100) 5 s3 s3 s4 S8) else (b_L_begin_377 xL xs v2 v4 v5 ((v7 / 3648) - (v7 / 3648) / 20 * 20) 5 s3 s3 s4 S8))))
def b_L_begin_219 (xL : Nat) (xs : Nat → Int32) (v2 : Int32) (v4 : Int32) (v5 : Int32) (S : St) : Option ((Int32 × Int32 × Int32 × St) ⊕ (Int32 × St)) := (if (v4 : Int32) ≤ v5 then ((b_L_begin_476 xL xs v2 S).map Sum.inr) else (L_L_cell xL xs ((v2 + 8) + v5) S).bind fun r2 => (L_L_cell xL xs ((v2 + 16) + v5) S).bind fun r3 => gd (decide (183 ≤ tp S)) (nm (tp S) fun k5 => nm (san S 6) fun S6 => (dyl S6 k5).bind fun n8 => gd (inb 0 n8) (nm (si S6 k5 (0 : Int32).toNatClampNeg ((r2 &&& 2147483647) - (r2 &&& 2147483647) / 8 * 8)) fun S10 => (dyl S10 k5).bind fun n13 => gd (inb 1 n13) (nm (si S10 k5 (1 : Int32).toNatClampNeg (((r2 &&& 2147483647) / 8) - ((r2 &&& 2147483647) / 8) / 10 * 10)) fun S15 => (dyl S15 k5).bind fun n19 => gd (inb 2 n19) (nm (si S15 k5 (2 : Int32).toNatClampNeg ((((r2 &&& 2147483647) / 80) - ((r2 &&& 2147483647) / 80) / 5 * 5) - (((r2 &&& 2147483647) / 80) - ((r2 &&& 2147483647) / 80) / 5 * 5) / 3 * 3)) fun S21 => (if ((r3 &&& 2147483647) - (r3 &&& 2147483647) / 2 * 2 : Int32) = 0 then (b_L_begin_328 xL xs v2 v4 v5 (r3 &&& 2147483647) (((r3 &&& 2147483647) / 2) - ((r3 &&& 2147483647) / 2) / 24 * 24) 3 k5 k5 v5 S21) else (b_L_begin_328 xL xs v2 v4 v5 (r3 &&& 2147483647) (8 + (((r3 &&& 2147483647) / 2) - ((r3 &&& 2147483647) / 2) / 14 * 14)) 3 k5 k5 v5 S21)))))))
def l_L_begin_219 (xL : Nat) (xs : Nat → Int32) (x : (Int32 × Int32 × Int32 × St)) : Option ((Int32 × Int32 × Int32 × St) ⊕ (Int32 × St)) := b_L_begin_219 xL xs x.1 x.2.1 x.2.2.1 x.2.2.2
def b_L_begin_204 (xL : Nat) (xs : Nat → Int32) (v2 : Int32) (S : St) : Option (Int32 × St) := (L_L_some xL xs (v2 + 7) 9 S).bind fun r1 => (lp 9 (l_L_begin_219 xL xs) (v2, r1, 0, S))
def b_L_begin_198 (xL : Nat) (xs : Nat → Int32) (v2 : Int32) (v3 : Int32) (v4 : Int32) (S : St) : Option ((Int32 × Int32 × Int32 × St) ⊕ (Int32 × St)) := some (.inl (v2, v3, (v4 + 1), S))
def b_L_begin_11 (xL : Nat) (xs : Nat → Int32) (v2 : Int32) (v3 : Int32) (v4 : Int32) (S : St) : Option ((Int32 × Int32 × Int32 × St) ⊕ (Int32 × St)) := (if (v3 : Int32) ≤ v4 then ((b_L_begin_204 xL xs v2 S).map Sum.inr) else (L_L_cell xL xs ((v2 + 1) + v4) S).bind fun r2 => gd (decide (183 ≤ tp S)) (nm (tp S) fun k4 => nm (san S 4) fun S5 => (dyl S5 k4).bind fun n11 => gd (inb 0 n11) (nm (si S5 k4 (0 : Int32).toNatClampNeg ((((r2 &&& 2147483647) - (r2 &&& 2147483647) / 3 * 3) - ((r2 &&& 2147483647) - (r2 &&& 2147483647) / 3 * 3) / 2 * 2) + ((((r2 &&& 2147483647) / 3) - ((r2 &&& 2147483647) / 3) / 2 * 2) * ((r2 &&& 2147483647) - (r2 &&& 2147483647) / 2 * 2)))) fun S13 => (dyl S13 k4).bind fun n16 => gd (inb 1 n16) (nm (si S13 k4 (1 : Int32).toNatClampNeg ((((r2 &&& 2147483647) / 6) - ((r2 &&& 2147483647) / 6) / 19 * 19) - 9)) fun S18 => (dyl S18 k4).bind fun n21 => gd (inb 2 n21) (nm (si S18 k4 (2 : Int32).toNatClampNeg (((r2 &&& 2147483647) / 114) - ((r2 &&& 2147483647) / 114) / 24 * 24)) fun S23 => (dyl S23 k4).bind fun n24 => gd (inb 3 n24) (nm (si S23 k4 (3 : Int32).toNatClampNeg 10) fun S26 => gd (inb v4 6) ((dyl S26 k4).bind fun n28 => nm (sr S26 145 v4.toNatClampNeg (some k4)) fun S29 => nm (si S29 136 3 ((gi S29 136 3) + 1)) fun S30 => gd (inb v4 6) ((gr S30 145 v4.toNatClampNeg).bind fun q32 => (dyl S30 q32).bind fun n34 => gd (inb 0 n34) (gd (inb v4 6) ((gr S30 145 v4.toNatClampNeg).bind fun q36 => (dyl S30 q36).bind fun n38 => gd (inb 1 n38) (gd (inb v4 6) ((gr S30 145 v4.toNatClampNeg).bind fun q40 => (dyl S30 q40).bind fun n42 => gd (inb 2 n42) ((L_X11_fact (gi S30 q32 (0 : Int32).toNatClampNeg) (gi S30 q36 (1 : Int32).toNatClampNeg) (gi S30 q40 (2 : Int32).toNatClampNeg) S30).bind fun r43 => gd (lq S30 r43.2) ((if (r43.1 : Int32) = v4 then (if (((r2 &&& 2147483647) / 2736) - ((r2 &&& 2147483647) / 2736) / 2 * 2 : Int32) = 0 then gd (inb v4 6) ((gr r43.2 145 v4.toNatClampNeg).bind fun q50 => (dyl r43.2 q50).bind fun n53 => gd (inb 3 n53) (nm (si r43.2 q50 (3 : Int32).toNatClampNeg (((r2 &&& 2147483647) / 5472) - ((r2 &&& 2147483647) / 5472) / 11 * 11)) fun S55 => gd (inb v4 6) ((gr S55 145 v4.toNatClampNeg).bind fun q57 => (dyl S55 q57).bind fun n59 => gd (inb 3 n59) ((L_X11_chance v4 (gi S55 q57 (3 : Int32).toNatClampNeg) S55).bind fun r60 => gd (lq S55 r60.2) ((if (r60.1 : Int32) = 10 then (b_L_begin_198 xL xs v2 v3 v4 r60.2) else some (.inr (0, r60.2)))))))) else (b_L_begin_198 xL xs v2 v3 v4 r43.2)) else some (.inr (0, r43.2)))))))))))))))))
def l_L_begin_11 (xL : Nat) (xs : Nat → Int32) (x : (Int32 × Int32 × Int32 × St)) : Option ((Int32 × Int32 × Int32 × St) ⊕ (Int32 × St)) := b_L_begin_11 xL xs x.1 x.2.1 x.2.2.1 x.2.2.2
def b_L_begin_0 (xL : Nat) (xs : Nat → Int32) (v2 : Int32) (S : St) : Option (Int32 × St) := (L_L_some xL xs v2 7 S).bind fun r1 => (lp 7 (l_L_begin_11 xL xs) (v2, r1, 0, S))
def L_L_begin (xL : Nat) (xs : Nat → Int32) (a2 : Int32) (S : St) : Option (Int32 × St) := b_L_begin_0 xL xs a2 S
section WALKS
variable {p : Program} {e : Env} {s : State} {m : MethodId} {args : Array Value} {below : List Frame} {meth : Method} {c : Code} {D : va_G} {ct : Nat → ClassId} {P0 : Nat} {Hb : Heap} {xb : Nat} {adK adV : Nat → Nat}
set_option maxRecDepth 100000 in
set_option maxHeartbeats 4000000 in
theorem w_L_begin_942 (l : Launch) {V : Int32 × St} (C0 : XC D ct p s m args meth c cL_begin 10 (some .boolean) RL) (xL : Nat) (xs : Nat → Int32) (hE : XS xb xL xs adK adV P0 s) (n0 : Nat) (ih0 : ∀ (v2 : Int32) (v6 : Int32) (S : St) (H : Heap) (locs : List Loc) (ls : Array Slot) (cells slots : Nat), (lp n0 (l_L_begin_777 xL xs) (v2, v6, S)).bind some = some V → ML D ct P0 Hb S H → va_S (AB P0) s.heap H locs → lv_has ls 10 [(0, .ref P0), (1, .ref xb), (2, .int v2), (6, .int v6)] → (cells + (n0 * 42 + 0) ≤ 235 ∧ slots + 10 * (n0 * 42 + 0) ≤ 2350) → W p l e { frames := 10, cells := 235, slots := 2350, locals := 222 } s m args below meth c H locs cells slots (MQ below (qLIw D ct P0 Hb V) args s 235 2350 (AB P0)) (F0 m 777 ls [])) (v2 : Int32) (v6 : Int32) (v8 : Nat) (s0 : Int32) (s1 : Int32) (s2 : Nat) (s3 : Nat) (S : St) {H : Heap} {locs : List Loc} {ls : Array Slot} {cells slots : Nat} (h : (b_L_begin_942 xL xs v2 v6 v8 s0 s1 s2 s3 S).bind (lpF n0 (l_L_begin_777 xL xs) some) = some V) (hP : ML D ct P0 Hb S H) (hS : va_S (AB P0) s.heap H locs) (hl : lv_has ls 10 [(0, .ref P0), (1, .ref xb), (2, .int v2), (6, .int v6), (8, .ref (P0 + 1 + v8))]) (hc : cells + (40 + (n0 * 42 + 0)) ≤ 235 ∧ slots + 10 * (40 + (n0 * 42 + 0)) ≤ 2350) : W p l e { frames := 10, cells := 235, slots := 2350, locals := 222 } s m args below meth c H locs cells slots (MQ below (qLIw D ct P0 Hb V) args s 235 2350 (AB P0)) (F0 m 942 ls [.int s0, .int s1, .ref (P0 + 1 + s2), .ref (P0 + 1 + s3)]) := by
  obtain ⟨hx, hb, hr, hml, hown, hts, hK, hlocks, hN⟩ := id C0
  unfold b_L_begin_942 at h
  obtain ⟨n1, en1, h⟩ := ob_bd h
  obtain ⟨g2, h⟩ := ob_gd h
  obtain ⟨S3, eS3, h⟩ := ob_nm h
  refine xl_iast C0 hP hS en1 g2 dL_begin_942 (fun H locs hP hS => ?_)
  rw [← eS3] at hP
  refine lv_dup hx hb dL_begin_943 rfl ?_
  refine lv_iconst (v := 3) hx hb dL_begin_944 (by decide) ?_
  refine lv_bipush (v := 48) hx hb dL_begin_945 (by decide) ?_
  refine lv_aload hx hb dL_begin_947 (lv_at hl 4 rfl) ?_
  refine lv_iconst (v := 2) hx hb dL_begin_949 (by decide) ?_
  obtain ⟨n5, en5, h⟩ := ob_bd h
  obtain ⟨g4, h⟩ := ob_gd h
  refine x_iald C0 hP.1 (lay_dy (P0 + 1) ct en5) g4 dL_begin_950 ?_
  refine lv_bipush (v := 10) hx hb dL_begin_951 (by decide) ?_
  refine lv_idiv hx hb dL_begin_953 (by decide) ?_
  refine lv_iadd hx hb dL_begin_954 ?_
  obtain ⟨n7, en7, h⟩ := ob_bd h
  obtain ⟨g8, h⟩ := ob_gd h
  obtain ⟨S9, eS9, h⟩ := ob_nm h
  refine xl_iast C0 hP hS en7 g8 dL_begin_955 (fun H locs hP hS => ?_)
  rw [← eS9] at hP
  refine lv_dup hx hb dL_begin_956 rfl ?_
  refine lv_iconst (v := 4) hx hb dL_begin_957 (by decide) ?_
  refine lv_bipush (v := 48) hx hb dL_begin_958 (by decide) ?_
  refine lv_aload hx hb dL_begin_960 (lv_at hl 4 rfl) ?_
  refine lv_iconst (v := 2) hx hb dL_begin_962 (by decide) ?_
  obtain ⟨n11, en11, h⟩ := ob_bd h
  obtain ⟨g10, h⟩ := ob_gd h
  refine x_iald C0 hP.1 (lay_dy (P0 + 1) ct en11) g10 dL_begin_963 ?_
  refine lv_bipush (v := 10) hx hb dL_begin_964 (by decide) ?_
  refine lv_irem hx hb dL_begin_966 (by decide) ?_
  refine lv_iadd hx hb dL_begin_967 ?_
  obtain ⟨n13, en13, h⟩ := ob_bd h
  obtain ⟨g14, h⟩ := ob_gd h
  obtain ⟨S15, eS15, h⟩ := ob_nm h
  refine xl_iast C0 hP hS en13 g14 dL_begin_968 (fun H locs hP hS => ?_)
  rw [← eS15] at hP
  refine lv_dup hx hb dL_begin_969 rfl ?_
  refine lv_iconst (v := 5) hx hb dL_begin_970 (by decide) ?_
  refine lv_bipush (v := 48) hx hb dL_begin_971 (by decide) ?_
  refine lv_aload hx hb dL_begin_973 (lv_at hl 4 rfl) ?_
  refine lv_iconst (v := 3) hx hb dL_begin_975 (by decide) ?_
  obtain ⟨n17, en17, h⟩ := ob_bd h
  obtain ⟨g16, h⟩ := ob_gd h
  refine x_iald C0 hP.1 (lay_dy (P0 + 1) ct en17) g16 dL_begin_976 ?_
  refine lv_bipush (v := 10) hx hb dL_begin_977 (by decide) ?_
  refine lv_idiv hx hb dL_begin_979 (by decide) ?_
  refine lv_iadd hx hb dL_begin_980 ?_
  obtain ⟨n19, en19, h⟩ := ob_bd h
  obtain ⟨g20, h⟩ := ob_gd h
  obtain ⟨S21, eS21, h⟩ := ob_nm h
  refine xl_iast C0 hP hS en19 g20 dL_begin_981 (fun H locs hP hS => ?_)
  rw [← eS21] at hP
  refine lv_dup hx hb dL_begin_982 rfl ?_
  refine lv_bipush (v := 6) hx hb dL_begin_983 (by decide) ?_
  refine lv_bipush (v := 48) hx hb dL_begin_985 (by decide) ?_
  refine lv_aload hx hb dL_begin_987 (lv_at hl 4 rfl) ?_
  refine lv_iconst (v := 3) hx hb dL_begin_989 (by decide) ?_
  obtain ⟨n23, en23, h⟩ := ob_bd h
  obtain ⟨g22, h⟩ := ob_gd h
  refine x_iald C0 hP.1 (lay_dy (P0 + 1) ct en23) g22 dL_begin_990 ?_
  refine lv_bipush (v := 10) hx hb dL_begin_991 (by decide) ?_
  refine lv_irem hx hb dL_begin_993 (by decide) ?_
  refine lv_iadd hx hb dL_begin_994 ?_
  obtain ⟨n25, en25, h⟩ := ob_bd h
  obtain ⟨g26, h⟩ := ob_gd h
  obtain ⟨S27, eS27, h⟩ := ob_nm h
  refine xl_iast C0 hP hS en25 g26 dL_begin_995 (fun H locs hP hS => ?_)
  rw [← eS27] at hP
  refine lv_dup hx hb dL_begin_996 rfl ?_
  refine lv_bipush (v := 7) hx hb dL_begin_997 (by decide) ?_
  refine lv_bipush (v := 48) hx hb dL_begin_999 (by decide) ?_
  refine lv_aload hx hb dL_begin_1001 (lv_at hl 4 rfl) ?_
  refine lv_iconst (v := 4) hx hb dL_begin_1003 (by decide) ?_
  obtain ⟨n29, en29, h⟩ := ob_bd h
  obtain ⟨g28, h⟩ := ob_gd h
  refine x_iald C0 hP.1 (lay_dy (P0 + 1) ct en29) g28 dL_begin_1004 ?_
  refine lv_bipush (v := 10) hx hb dL_begin_1005 (by decide) ?_
  refine lv_idiv hx hb dL_begin_1007 (by decide) ?_
  refine lv_iadd hx hb dL_begin_1008 ?_
  obtain ⟨n31, en31, h⟩ := ob_bd h
  obtain ⟨g32, h⟩ := ob_gd h
  obtain ⟨S33, eS33, h⟩ := ob_nm h
  refine xl_iast C0 hP hS en31 g32 dL_begin_1009 (fun H locs hP hS => ?_)
  rw [← eS33] at hP
  refine lv_dup hx hb dL_begin_1010 rfl ?_
  refine lv_bipush (v := 8) hx hb dL_begin_1011 (by decide) ?_
  refine lv_bipush (v := 48) hx hb dL_begin_1013 (by decide) ?_
  refine lv_aload hx hb dL_begin_1015 (lv_at hl 4 rfl) ?_
  refine lv_iconst (v := 4) hx hb dL_begin_1017 (by decide) ?_
  obtain ⟨n35, en35, h⟩ := ob_bd h
  obtain ⟨g34, h⟩ := ob_gd h
  refine x_iald C0 hP.1 (lay_dy (P0 + 1) ct en35) g34 dL_begin_1018 ?_
  refine lv_bipush (v := 10) hx hb dL_begin_1019 (by decide) ?_
  refine lv_irem hx hb dL_begin_1021 (by decide) ?_
  refine lv_iadd hx hb dL_begin_1022 ?_
  obtain ⟨n37, en37, h⟩ := ob_bd h
  obtain ⟨g38, h⟩ := ob_gd h
  obtain ⟨S39, eS39, h⟩ := ob_nm h
  refine xl_iast C0 hP hS en37 g38 dL_begin_1023 (fun H locs hP hS => ?_)
  rw [← eS39] at hP
  refine lv_dup hx hb dL_begin_1024 rfl ?_
  refine lv_bipush (v := 9) hx hb dL_begin_1025 (by decide) ?_
  refine lv_bipush (v := 59) hx hb dL_begin_1027 (by decide) ?_
  obtain ⟨n40, en40, h⟩ := ob_bd h
  obtain ⟨g41, h⟩ := ob_gd h
  obtain ⟨S42, eS42, h⟩ := ob_nm h
  refine xl_iast C0 hP hS en40 g41 dL_begin_1029 (fun H locs hP hS => ?_)
  rw [← eS42] at hP
  refine lv_astore (lv' := [(9, .ref (P0 + 1 + s3)), (0, .ref P0), (1, .ref xb), (2, .int v2), (6, .int v6), (8, .ref (P0 + 1 + v8))]) hx hb dL_begin_1030 hl (by decide) rfl (fun ls hl => ?_)
  refine lv_aload_n hx hb dL_begin_1032 rfl (lv_at hl 1 rfl) ?_
  refine lv_aload hx hb dL_begin_1033 (lv_at hl 0 rfl) ?_
  refine lv_bipush (v := 10) hx hb dL_begin_1035 (by decide) ?_
  obtain ⟨r43, hr43, h⟩ := ob_bd h
  refine nL_Iw (kLV (As := [.ref (P0 + 1 + s3), .int 10]) C0 hE hS (c_L_tell l xL xs s3 10 hr43) ⟨wd_461, wd_458, wd_460, wp_4, wd_0⟩ kd_L_tell ⟨Nat.le_of_ble_eq_true rfl, Nat.le_of_ble_eq_true rfl⟩ hP rfl hl.1 rfl (Nat.le_of_ble_eq_true rfl) dL_begin_1037 ⟨by show _ + _ ≤ 235; omega, by show _ + _ ≤ 2350; omega⟩) hS (fun H locs hP hS => ?_)
  refine lv_iconst (v := 1) hx hb dL_begin_1040 (by decide) ?_
  refine lv_icmp_eq (tgt := 1046) hx hb dL_begin_1041 (by decide) (fun z44 => ?_) (fun z44 => ?_)
  · have h := ob_t h z44
    refine lv_iinc (v := v6 + (-1)) (lv' := [(6, .int (v6 + (-1))), (9, .ref (P0 + 1 + s3)), (0, .ref P0), (1, .ref xb), (2, .int v2), (8, .ref (P0 + 1 + v8))]) hx hb dL_begin_1046 hl (k := 4) rfl rfl (by decide) rfl (fun ls hl => ?_)
    refine lv_goto (tgt := 777) hx hb dL_begin_1049 (by decide) ?_
    exact ih0 v2 (v6 + (-1)) r43.2 _ _ _ _ _ h hP hS (lv_sub hl [2, 3, 4, 0] rfl) ⟨by omega, by omega⟩
  · have h := ob_f h z44
    refine lv_iconst (v := 0) hx hb dL_begin_1044 (by decide) ?_
    refine W.widen (k := 235) (n := 2350) (by omega) (by omega) ?_
    exact rl_Zw C0 hP hS bool_0 h dL_begin_1045
set_option maxRecDepth 100000 in
set_option maxHeartbeats 4000000 in
theorem w_L_begin_872 (l : Launch) {V : Int32 × St} (C0 : XC D ct p s m args meth c cL_begin 10 (some .boolean) RL) (xL : Nat) (xs : Nat → Int32) (hE : XS xb xL xs adK adV P0 s) (n0 : Nat) (ih0 : ∀ (v2 : Int32) (v6 : Int32) (S : St) (H : Heap) (locs : List Loc) (ls : Array Slot) (cells slots : Nat), (lp n0 (l_L_begin_777 xL xs) (v2, v6, S)).bind some = some V → ML D ct P0 Hb S H → va_S (AB P0) s.heap H locs → lv_has ls 10 [(0, .ref P0), (1, .ref xb), (2, .int v2), (6, .int v6)] → (cells + (n0 * 42 + 0) ≤ 235 ∧ slots + 10 * (n0 * 42 + 0) ≤ 2350) → W p l e { frames := 10, cells := 235, slots := 2350, locals := 222 } s m args below meth c H locs cells slots (MQ below (qLIw D ct P0 Hb V) args s 235 2350 (AB P0)) (F0 m 777 ls [])) (v2 : Int32) (v6 : Int32) (v7 : Int32) (s0 : Int32) (s1 : Int32) (s2 : Nat) (s3 : Nat) (S : St) {H : Heap} {locs : List Loc} {ls : Array Slot} {cells slots : Nat} (h : (b_L_begin_872 xL xs v2 v6 v7 s0 s1 s2 s3 S).bind (lpF n0 (l_L_begin_777 xL xs) some) = some V) (hP : ML D ct P0 Hb S H) (hS : va_S (AB P0) s.heap H locs) (hl : lv_has ls 10 [(0, .ref P0), (1, .ref xb), (2, .int v2), (6, .int v6), (7, .int v7)]) (hc : cells + (41 + (n0 * 42 + 0)) ≤ 235 ∧ slots + 10 * (41 + (n0 * 42 + 0)) ≤ 2350) : W p l e { frames := 10, cells := 235, slots := 2350, locals := 222 } s m args below meth c H locs cells slots (MQ below (qLIw D ct P0 Hb V) args s 235 2350 (AB P0)) (F0 m 872 ls [.int s0, .int s1, .ref (P0 + 1 + s2), .ref (P0 + 1 + s3)]) := by
  obtain ⟨hx, hb, hr, hml, hown, hts, hK, hlocks, hN⟩ := id C0
  unfold b_L_begin_872 at h
  obtain ⟨n1, en1, h⟩ := ob_bd h
  obtain ⟨g2, h⟩ := ob_gd h
  obtain ⟨S3, eS3, h⟩ := ob_nm h
  refine xl_iast C0 hP hS en1 g2 dL_begin_872 (fun H locs hP hS => ?_)
  rw [← eS3] at hP
  refine lv_dup hx hb dL_begin_873 rfl ?_
  refine lv_iconst (v := 4) hx hb dL_begin_874 (by decide) ?_
  refine lv_iload hx hb dL_begin_875 (lv_at hl 4 rfl) ?_
  refine lv_ldc (v := 108000) hx hb hown (hts _ wd_457) dL_begin_877 ?_
  refine lv_idiv hx hb dL_begin_879 (by decide) ?_
  refine lv_bipush (v := 24) hx hb dL_begin_880 (by decide) ?_
  refine lv_irem hx hb dL_begin_882 (by decide) ?_
  obtain ⟨n6, en6, h⟩ := ob_bd h
  obtain ⟨g7, h⟩ := ob_gd h
  obtain ⟨S8, eS8, h⟩ := ob_nm h
  refine xl_iast C0 hP hS en6 g7 dL_begin_883 (fun H locs hP hS => ?_)
  rw [← eS8] at hP
  refine lv_astore (lv' := [(8, .ref (P0 + 1 + s3)), (0, .ref P0), (1, .ref xb), (2, .int v2), (6, .int v6), (7, .int v7)]) hx hb dL_begin_884 hl (by decide) rfl (fun ls hl => ?_)
  refine lv_aload_n hx hb dL_begin_886 rfl (lv_at hl 1 rfl) ?_
  refine xl_get (v := .ref (P0 + 1 + 152)) C0 hP 6 (by decide) wd_255 rfl rfl dL_begin_887 ?_
  refine lv_aload_n hx hb dL_begin_890 rfl (lv_at hl 1 rfl) ?_
  refine xl_get (v := .int (gi S8 136 5)) C0 hP 5 (by decide) wd_254 rfl rfl dL_begin_891 ?_
  refine lv_aload hx hb dL_begin_894 (lv_at hl 0 rfl) ?_
  obtain ⟨g9, h⟩ := ob_gd h
  obtain ⟨n10, en10, h⟩ := ob_bd h
  obtain ⟨S11, eS11, h⟩ := ob_nm h
  refine xl_astQ (k := 152) C0 hP hS (by decide) (fun S => lay_152 (P0 + 1) ct S) en10 g9 dL_begin_896 (fun H locs hP hS => ?_)
  rw [← eS11] at hP
  refine lv_aload_n hx hb dL_begin_897 rfl (lv_at hl 1 rfl) ?_
  refine lv_dup hx hb dL_begin_898 rfl ?_
  refine xl_get (v := .int (gi S11 136 5)) C0 hP 5 (by decide) wd_254 rfl rfl dL_begin_899 ?_
  refine lv_iconst (v := 1) hx hb dL_begin_902 (by decide) ?_
  refine lv_iadd hx hb dL_begin_903 ?_
  obtain ⟨S12, eS12, h⟩ := ob_nm h
  refine xl_put C0 hP hS 5 (by decide) wd_254 rfl (fsL_5 _ _ _) rfl dL_begin_904 (fun H locs hP hS => ?_)
  rw [← eS12] at hP
  refine lv_bipush (v := 10) hx hb dL_begin_907 (by decide) ?_
  obtain ⟨g13, h⟩ := ob_gd h
  obtain ⟨k14, ek14, h⟩ := ob_nm h
  obtain ⟨S15, eS15, h⟩ := ob_nm h
  refine xl_newI (N := 10) C0 hP hS wd_142 (of_decide_eq_true g13) (by decide) (by decide) (by decide) (by show _ + _ ≤ 235; omega) (by show _ + _ ≤ 2350; omega) dL_begin_909 (fun H hP hS => ?_)
  rw [← ek14]
  rw [← eS15] at hP
  refine lv_dup hx hb dL_begin_911 rfl ?_
  refine lv_iconst (v := 0) hx hb dL_begin_912 (by decide) ?_
  refine lv_bipush (v := 116) hx hb dL_begin_913 (by decide) ?_
  obtain ⟨n16, en16, h⟩ := ob_bd h
  obtain ⟨g17, h⟩ := ob_gd h
  obtain ⟨S18, eS18, h⟩ := ob_nm h
  refine xl_iast C0 hP hS en16 g17 dL_begin_915 (fun H locs hP hS => ?_)
  rw [← eS18] at hP
  refine lv_dup hx hb dL_begin_916 rfl ?_
  refine lv_iconst (v := 1) hx hb dL_begin_917 (by decide) ?_
  refine lv_bipush (v := 48) hx hb dL_begin_918 (by decide) ?_
  refine lv_aload hx hb dL_begin_920 (lv_at hl 0 rfl) ?_
  refine lv_iconst (v := 0) hx hb dL_begin_922 (by decide) ?_
  obtain ⟨n20, en20, h⟩ := ob_bd h
  obtain ⟨g19, h⟩ := ob_gd h
  refine x_iald C0 hP.1 (lay_dy (P0 + 1) ct en20) g19 dL_begin_923 ?_
  refine lv_iadd hx hb dL_begin_924 ?_
  obtain ⟨n21, en21, h⟩ := ob_bd h
  obtain ⟨g22, h⟩ := ob_gd h
  obtain ⟨S23, eS23, h⟩ := ob_nm h
  refine xl_iast C0 hP hS en21 g22 dL_begin_925 (fun H locs hP hS => ?_)
  rw [← eS23] at hP
  refine lv_dup hx hb dL_begin_926 rfl ?_
  refine lv_iconst (v := 2) hx hb dL_begin_927 (by decide) ?_
  refine lv_aload hx hb dL_begin_928 (lv_at hl 0 rfl) ?_
  refine lv_iconst (v := 1) hx hb dL_begin_930 (by decide) ?_
  obtain ⟨n25, en25, h⟩ := ob_bd h
  obtain ⟨g24, h⟩ := ob_gd h
  refine x_iald C0 hP.1 (lay_dy (P0 + 1) ct en25) g24 dL_begin_931 ?_
  refine lv_if_le (tgt := 940) hx hb dL_begin_932 (by decide) (fun z26 => ?_) (fun z26 => ?_)
  · have h := ob_t h z26
    refine lv_bipush (v := 45) hx hb dL_begin_940 (by decide) ?_
    exact w_L_begin_942 l C0 xL xs hE n0 ih0 v2 v6 s3 45 2 k14 k14 S23 h hP hS (lv_sub hl [1, 2, 3, 4, 0] rfl) ⟨by omega, by omega⟩
  · have h := ob_f h z26
    refine lv_bipush (v := 43) hx hb dL_begin_935 (by decide) ?_
    refine lv_goto (tgt := 942) hx hb dL_begin_937 (by decide) ?_
    exact w_L_begin_942 l C0 xL xs hE n0 ih0 v2 v6 s3 43 2 k14 k14 S23 h hP hS (lv_sub hl [1, 2, 3, 4, 0] rfl) ⟨by omega, by omega⟩
set_option maxRecDepth 100000 in
set_option maxHeartbeats 4000000 in
theorem w_L_begin_824 (l : Launch) {V : Int32 × St} (C0 : XC D ct p s m args meth c cL_begin 10 (some .boolean) RL) (xL : Nat) (xs : Nat → Int32) (hE : XS xb xL xs adK adV P0 s) (n0 : Nat) (ih0 : ∀ (v2 : Int32) (v6 : Int32) (S : St) (H : Heap) (locs : List Loc) (ls : Array Slot) (cells slots : Nat), (lp n0 (l_L_begin_777 xL xs) (v2, v6, S)).bind some = some V → ML D ct P0 Hb S H → va_S (AB P0) s.heap H locs → lv_has ls 10 [(0, .ref P0), (1, .ref xb), (2, .int v2), (6, .int v6)] → (cells + (n0 * 42 + 0) ≤ 235 ∧ slots + 10 * (n0 * 42 + 0) ≤ 2350) → W p l e { frames := 10, cells := 235, slots := 2350, locals := 222 } s m args below meth c H locs cells slots (MQ below (qLIw D ct P0 Hb V) args s 235 2350 (AB P0)) (F0 m 777 ls [])) (v2 : Int32) (v6 : Int32) (v7 : Int32) (s0 : Int32) (s1 : Int32) (s2 : Nat) (s3 : Nat) (S : St) {H : Heap} {locs : List Loc} {ls : Array Slot} {cells slots : Nat} (h : (b_L_begin_824 xL xs v2 v6 v7 s0 s1 s2 s3 S).bind (lpF n0 (l_L_begin_777 xL xs) some) = some V) (hP : ML D ct P0 Hb S H) (hS : va_S (AB P0) s.heap H locs) (hl : lv_has ls 10 [(0, .ref P0), (1, .ref xb), (2, .int v2), (6, .int v6), (7, .int v7)]) (hc : cells + (41 + (n0 * 42 + 0)) ≤ 235 ∧ slots + 10 * (41 + (n0 * 42 + 0)) ≤ 2350) : W p l e { frames := 10, cells := 235, slots := 2350, locals := 222 } s m args below meth c H locs cells slots (MQ below (qLIw D ct P0 Hb V) args s 235 2350 (AB P0)) (F0 m 824 ls [.int s0, .int s1, .ref (P0 + 1 + s2), .ref (P0 + 1 + s3)]) := by
  obtain ⟨hx, hb, hr, hml, hown, hts, hK, hlocks, hN⟩ := id C0
  unfold b_L_begin_824 at h
  obtain ⟨n1, en1, h⟩ := ob_bd h
  obtain ⟨g2, h⟩ := ob_gd h
  obtain ⟨S3, eS3, h⟩ := ob_nm h
  refine xl_iast C0 hP hS en1 g2 dL_begin_824 (fun H locs hP hS => ?_)
  rw [← eS3] at hP
  refine lv_dup hx hb dL_begin_825 rfl ?_
  refine lv_iconst (v := 2) hx hb dL_begin_826 (by decide) ?_
  refine lv_iconst (v := 1) hx hb dL_begin_827 (by decide) ?_
  refine lv_iload hx hb dL_begin_828 (lv_at hl 4 rfl) ?_
  refine lv_bipush (v := 6) hx hb dL_begin_830 (by decide) ?_
  refine lv_idiv hx hb dL_begin_832 (by decide) ?_
  refine lv_bipush (v := 60) hx hb dL_begin_833 (by decide) ?_
  refine lv_irem hx hb dL_begin_835 (by decide) ?_
  refine lv_iadd hx hb dL_begin_836 ?_
  obtain ⟨n6, en6, h⟩ := ob_bd h
  obtain ⟨g7, h⟩ := ob_gd h
  obtain ⟨S8, eS8, h⟩ := ob_nm h
  refine xl_iast C0 hP hS en6 g7 dL_begin_837 (fun H locs hP hS => ?_)
  rw [← eS8] at hP
  refine lv_dup hx hb dL_begin_838 rfl ?_
  refine lv_iconst (v := 3) hx hb dL_begin_839 (by decide) ?_
  refine lv_iload hx hb dL_begin_840 (lv_at hl 4 rfl) ?_
  refine lv_sipush (v := 360) hx hb dL_begin_842 (by decide) ?_
  refine lv_idiv hx hb dL_begin_845 (by decide) ?_
  refine lv_iconst (v := 3) hx hb dL_begin_846 (by decide) ?_
  refine lv_irem hx hb dL_begin_847 (by decide) ?_
  refine lv_if_ne (tgt := 863) hx hb dL_begin_848 (by decide) (fun z11 => ?_) (fun z11 => ?_)
  · have h := ob_f h z11
    refine lv_iload hx hb dL_begin_863 (lv_at hl 4 rfl) ?_
    refine lv_sipush (v := 1080) hx hb dL_begin_865 (by decide) ?_
    refine lv_idiv hx hb dL_begin_868 (by decide) ?_
    refine lv_bipush (v := 12) hx hb dL_begin_869 (by decide) ?_
    refine lv_irem hx hb dL_begin_871 (by decide) ?_
    exact w_L_begin_872 l C0 xL xs hE n0 ih0 v2 v6 v7 ((v7 / 1080) - (v7 / 1080) / 12 * 12) 3 s3 s3 S8 h hP hS (lv_sub hl [0, 1, 2, 3, 4] rfl) ⟨by omega, by omega⟩
  · have h := ob_t h z11
    refine lv_iload hx hb dL_begin_851 (lv_at hl 4 rfl) ?_
    refine lv_sipush (v := 1080) hx hb dL_begin_853 (by decide) ?_
    refine lv_idiv hx hb dL_begin_856 (by decide) ?_
    refine lv_bipush (v := 100) hx hb dL_begin_857 (by decide) ?_
    refine lv_irem hx hb dL_begin_859 (by decide) ?_
    refine lv_goto (tgt := 872) hx hb dL_begin_860 (by decide) ?_
    exact w_L_begin_872 l C0 xL xs hE n0 ih0 v2 v6 v7 ((v7 / 1080) - (v7 / 1080) / 100 * 100) 3 s3 s3 S8 h hP hS (lv_sub hl [0, 1, 2, 3, 4] rfl) ⟨by omega, by omega⟩
set_option maxRecDepth 100000 in
set_option maxHeartbeats 4000000 in
theorem w_L_begin_777 (l : Launch) {V : Int32 × St} (C0 : XC D ct p s m args meth c cL_begin 10 (some .boolean) RL) (xL : Nat) (xs : Nat → Int32) (hE : XS xb xL xs adK adV P0 s) (n0 : Nat) (ih0 : ∀ (v2 : Int32) (v6 : Int32) (S : St) (H : Heap) (locs : List Loc) (ls : Array Slot) (cells slots : Nat), (lp n0 (l_L_begin_777 xL xs) (v2, v6, S)).bind some = some V → ML D ct P0 Hb S H → va_S (AB P0) s.heap H locs → lv_has ls 10 [(0, .ref P0), (1, .ref xb), (2, .int v2), (6, .int v6)] → (cells + (n0 * 42 + 0) ≤ 235 ∧ slots + 10 * (n0 * 42 + 0) ≤ 2350) → W p l e { frames := 10, cells := 235, slots := 2350, locals := 222 } s m args below meth c H locs cells slots (MQ below (qLIw D ct P0 Hb V) args s 235 2350 (AB P0)) (F0 m 777 ls [])) (v2 : Int32) (v6 : Int32) (S : St) {H : Heap} {locs : List Loc} {ls : Array Slot} {cells slots : Nat} (h : (b_L_begin_777 xL xs v2 v6 S).bind (lpF n0 (l_L_begin_777 xL xs) some) = some V) (hP : ML D ct P0 Hb S H) (hS : va_S (AB P0) s.heap H locs) (hl : lv_has ls 10 [(0, .ref P0), (1, .ref xb), (2, .int v2), (6, .int v6)]) (hc : cells + ((n0 + 1) * 42 + 0) ≤ 235 ∧ slots + 10 * ((n0 + 1) * 42 + 0) ≤ 2350) : W p l e { frames := 10, cells := 235, slots := 2350, locals := 222 } s m args below meth c H locs cells slots (MQ below (qLIw D ct P0 Hb V) args s 235 2350 (AB P0)) (F0 m 777 ls []) := by
  obtain ⟨hx, hb, hr, hml, hown, hts, hK, hlocks, hN⟩ := id C0
  unfold b_L_begin_777 at h
  refine lv_iload hx hb dL_begin_777 (lv_at hl 3 rfl) ?_
  refine lv_if_le (tgt := 1052) hx hb dL_begin_779 (by decide) (fun z1 => ?_) (fun z1 => ?_)
  · have h := ob_t h z1
    refine lv_iconst (v := 1) hx hb dL_begin_1052 (by decide) ?_
    refine W.widen (k := 235) (n := 2350) (by omega) (by omega) ?_
    exact rl_Zw C0 hP hS bool_1 h dL_begin_1053
  · have h := ob_f h z1
    refine lv_aload_n hx hb dL_begin_782 rfl (lv_at hl 1 rfl) ?_
    refine lv_iload_n hx hb dL_begin_783 rfl (lv_at hl 2 rfl) ?_
    refine lv_bipush (v := 38) hx hb dL_begin_784 (by decide) ?_
    refine lv_iadd hx hb dL_begin_786 ?_
    refine lv_iload hx hb dL_begin_787 (lv_at hl 3 rfl) ?_
    refine lv_iadd hx hb dL_begin_789 ?_
    obtain ⟨r2, hr2, h⟩ := ob_bd h
    refine nL_I (kLS (As := [.ref xb, .int ((v2 + 38) + v6)]) C0 hE hS (c_L_cell l xL xs ((v2 + 38) + v6) hr2) ⟨wd_325, wd_323, wd_324, wd_0⟩ kd_L_cell ⟨Nat.le_of_ble_eq_true rfl, Nat.le_of_ble_eq_true rfl⟩ hP rfl hl.1 rfl (Nat.le_of_ble_eq_true rfl) dL_begin_790 ⟨by show _ + _ ≤ 235; omega, by show _ + _ ≤ 2350; omega⟩) hS (fun H locs hP hS => ?_)
    refine lv_ldc (v := 2147483647) hx hb hown (hts _ wd_327) dL_begin_793 ?_
    refine lv_iand hx hb dL_begin_795 ?_
    refine lv_istore (lv' := [(7, .int (r2 &&& 2147483647)), (0, .ref P0), (1, .ref xb), (2, .int v2), (6, .int v6)]) hx hb dL_begin_796 hl (by decide) rfl (fun ls hl => ?_)
    refine lv_iconst (v := 5) hx hb dL_begin_798 (by decide) ?_
    obtain ⟨g3, h⟩ := ob_gd h
    obtain ⟨k4, ek4, h⟩ := ob_nm h
    obtain ⟨S5, eS5, h⟩ := ob_nm h
    refine xl_newI (N := 5) C0 hP hS wd_142 (of_decide_eq_true g3) (by decide) (by decide) (by decide) (by show _ + _ ≤ 235; omega) (by show _ + _ ≤ 2350; omega) dL_begin_799 (fun H hP hS => ?_)
    rw [← ek4]
    rw [← eS5] at hP
    refine lv_dup hx hb dL_begin_801 rfl ?_
    refine lv_iconst (v := 0) hx hb dL_begin_802 (by decide) ?_
    refine lv_iload hx hb dL_begin_803 (lv_at hl 0 rfl) ?_
    refine lv_iconst (v := 3) hx hb dL_begin_805 (by decide) ?_
    refine lv_irem hx hb dL_begin_806 (by decide) ?_
    obtain ⟨n7, en7, h⟩ := ob_bd h
    obtain ⟨g8, h⟩ := ob_gd h
    obtain ⟨S9, eS9, h⟩ := ob_nm h
    refine xl_iast C0 hP hS en7 g8 dL_begin_807 (fun H locs hP hS => ?_)
    rw [← eS9] at hP
    refine lv_dup hx hb dL_begin_808 rfl ?_
    refine lv_iconst (v := 1) hx hb dL_begin_809 (by decide) ?_
    refine lv_iload hx hb dL_begin_810 (lv_at hl 0 rfl) ?_
    refine lv_iconst (v := 3) hx hb dL_begin_812 (by decide) ?_
    refine lv_idiv hx hb dL_begin_813 (by decide) ?_
    refine lv_iconst (v := 2) hx hb dL_begin_814 (by decide) ?_
    refine lv_irem hx hb dL_begin_815 (by decide) ?_
    refine lv_if_ne (tgt := 823) hx hb dL_begin_816 (by decide) (fun z12 => ?_) (fun z12 => ?_)
    · have h := ob_f h z12
      refine lv_iconst (v := (-1)) hx hb dL_begin_823 (by decide) ?_
      exact w_L_begin_824 l C0 xL xs hE n0 ih0 v2 v6 (r2 &&& 2147483647) ((-1)) 1 k4 k4 S9 h hP hS (lv_sub hl [1, 2, 3, 4, 0] rfl) ⟨by omega, by omega⟩
    · have h := ob_t h z12
      refine lv_iconst (v := 1) hx hb dL_begin_819 (by decide) ?_
      refine lv_goto (tgt := 824) hx hb dL_begin_820 (by decide) ?_
      exact w_L_begin_824 l C0 xL xs hE n0 ih0 v2 v6 (r2 &&& 2147483647) 1 1 k4 k4 S9 h hP hS (lv_sub hl [1, 2, 3, 4, 0] rfl) ⟨by omega, by omega⟩
set_option maxRecDepth 100000 in
set_option maxHeartbeats 4000000 in
theorem wl_L_begin_777 (l : Launch) {V : Int32 × St} (C0 : XC D ct p s m args meth c cL_begin 10 (some .boolean) RL) (xL : Nat) (xs : Nat → Int32) (hE : XS xb xL xs adK adV P0 s)  : ∀ (n0 : Nat) (v2 : Int32) (v6 : Int32) (S : St) {H : Heap} {locs : List Loc} {ls : Array Slot} {cells slots : Nat}, (lp n0 (l_L_begin_777 xL xs) (v2, v6, S)).bind some = some V → ML D ct P0 Hb S H → va_S (AB P0) s.heap H locs → lv_has ls 10 [(0, .ref P0), (1, .ref xb), (2, .int v2), (6, .int v6)] → (cells + (n0 * 42 + 0) ≤ 235 ∧ slots + 10 * (n0 * 42 + 0) ≤ 2350) → W p l e { frames := 10, cells := 235, slots := 2350, locals := 222 } s m args below meth c H locs cells slots (MQ below (qLIw D ct P0 Hb V) args s 235 2350 (AB P0)) (F0 m 777 ls []) := by
  intro n0
  induction n0 with
  | zero =>
    intro v2 v6 S H locs ls cells slots h hP hS hl hc
    exact (lp_0 h).elim
  | succ n0 ih0 =>
    intro v2 v6 S H locs ls cells slots h hP hS hl hc
    have h := lp_s h
    exact w_L_begin_777 l C0 xL xs hE n0 (fun v2 v6 S H locs ls cells slots h hP hS hl hc => ih0 v2 v6 S h hP hS hl hc) v2 v6 S h hP hS hl ⟨by omega, by omega⟩
set_option maxRecDepth 100000 in
set_option maxHeartbeats 4000000 in
theorem w_L_begin_713 (l : Launch) {V : Int32 × St} (C0 : XC D ct p s m args meth c cL_begin 10 (some .boolean) RL) (xL : Nat) (xs : Nat → Int32) (hE : XS xb xL xs adK adV P0 s) (v2 : Int32) (s0 : Int32) (S : St) {H : Heap} {locs : List Loc} {ls : Array Slot} {cells slots : Nat} (h : (b_L_begin_713 xL xs v2 s0 S).bind some = some V) (hP : ML D ct P0 Hb S H) (hS : va_S (AB P0) s.heap H locs) (hl : lv_has ls 10 [(0, .ref P0), (1, .ref xb), (2, .int v2)]) (hc : cells + 210 ≤ 235 ∧ slots + 10 * 210 ≤ 2350) : W p l e { frames := 10, cells := 235, slots := 2350, locals := 222 } s m args below meth c H locs cells slots (MQ below (qLIw D ct P0 Hb V) args s 235 2350 (AB P0)) (F0 m 713 ls [.int s0, .ref P0]) := by
  obtain ⟨hx, hb, hr, hml, hown, hts, hK, hlocks, hN⟩ := id C0
  unfold b_L_begin_713 at h
  obtain ⟨S1, eS1, h⟩ := ob_nm h
  refine xl_put C0 hP hS 9 (by decide) wd_258 rfl (fsL_9 _ _ _) rfl dL_begin_713 (fun H locs hP hS => ?_)
  rw [← eS1] at hP
  refine lv_aload_n hx hb dL_begin_716 rfl (lv_at hl 0 rfl) ?_
  refine lv_iconst (v := 1) hx hb dL_begin_717 (by decide) ?_
  refine lv_aload_n hx hb dL_begin_718 rfl (lv_at hl 1 rfl) ?_
  refine lv_iload_n hx hb dL_begin_719 rfl (lv_at hl 2 rfl) ?_
  refine lv_bipush (v := 37) hx hb dL_begin_720 (by decide) ?_
  refine lv_iadd hx hb dL_begin_722 ?_
  refine lv_bipush (v := 9) hx hb dL_begin_723 (by decide) ?_
  obtain ⟨r2, hr2, h⟩ := ob_bd h
  refine nL_I (kLS (As := [.ref xb, .int (v2 + 37), .int 9]) C0 hE hS (c_L_some l xL xs (v2 + 37) 9 hr2) ⟨wd_322, wd_320, wd_321, wd_0⟩ kd_L_some ⟨Nat.le_of_ble_eq_true rfl, Nat.le_of_ble_eq_true rfl⟩ hP rfl hl.1 rfl (Nat.le_of_ble_eq_true rfl) dL_begin_725 ⟨by show _ + _ ≤ 235; omega, by show _ + _ ≤ 2350; omega⟩) hS (fun H locs hP hS => ?_)
  refine lv_iadd hx hb dL_begin_728 ?_
  obtain ⟨S3, eS3, h⟩ := ob_nm h
  refine xl_put C0 hP hS 10 (by decide) wd_259 rfl (fsL_10 _ _ _) rfl dL_begin_729 (fun H locs hP hS => ?_)
  rw [← eS3] at hP
  refine lv_aload_n hx hb dL_begin_732 rfl (lv_at hl 0 rfl) ?_
  refine xl_get (v := .ref (P0 + 1 + 0)) C0 hP 0 (by decide) wd_249 rfl rfl dL_begin_733 ?_
  refine lv_iconst (v := 1) hx hb dL_begin_736 (by decide) ?_
  refine lv_aload_n hx hb dL_begin_737 rfl (lv_at hl 0 rfl) ?_
  refine xl_get (v := .int (gi S3 136 9)) C0 hP 9 (by decide) wd_258 rfl rfl dL_begin_738 ?_
  obtain ⟨r4, hr4, h⟩ := ob_bd h
  obtain ⟨g5, h⟩ := ob_gd h
  refine nl_Iw (kV (As := [.int 1, .int (gi S3 136 9)]) C0 (c_X11_set l 1 (gi S3 136 9) hr4) ⟨wd_452, wd_449, wd_450, wd_451, wd_1⟩ kd_X11_set ⟨Nat.le_of_ble_eq_true rfl, Nat.le_of_ble_eq_true rfl⟩ hP.1 (lay_X11 (P0 + 1) ct S3) rfl rfl hl.1 rfl (Nat.le_of_ble_eq_true rfl) dL_begin_741 ⟨by show _ + _ ≤ 235; omega, by show _ + _ ≤ 2350; omega⟩) hP g5 hS (fun H locs hP hS => ?_)
  refine lv_iconst (v := 1) hx hb dL_begin_744 (by decide) ?_
  refine lv_icmp_ne (tgt := 764) hx hb dL_begin_745 (by decide) (fun z6 => ?_) (fun z6 => ?_)
  · have h := ob_f h z6
    refine lv_iconst (v := 0) hx hb dL_begin_764 (by decide) ?_
    refine W.widen (k := 235) (n := 2350) (by omega) (by omega) ?_
    exact rl_Zw C0 hP hS bool_0 h dL_begin_765
  · have h := ob_t h z6
    refine lv_aload_n hx hb dL_begin_748 rfl (lv_at hl 0 rfl) ?_
    refine xl_get (v := .ref (P0 + 1 + 0)) C0 hP 0 (by decide) wd_249 rfl rfl dL_begin_749 ?_
    refine lv_iconst (v := 2) hx hb dL_begin_752 (by decide) ?_
    refine lv_aload_n hx hb dL_begin_753 rfl (lv_at hl 0 rfl) ?_
    refine xl_get (v := .int (gi r4.2 136 10)) C0 hP 10 (by decide) wd_259 rfl rfl dL_begin_754 ?_
    obtain ⟨r7, hr7, h⟩ := ob_bd h
    obtain ⟨g8, h⟩ := ob_gd h
    refine nl_Iw (kV (As := [.int 2, .int (gi r4.2 136 10)]) C0 (c_X11_set l 2 (gi r4.2 136 10) hr7) ⟨wd_452, wd_449, wd_450, wd_451, wd_1⟩ kd_X11_set ⟨Nat.le_of_ble_eq_true rfl, Nat.le_of_ble_eq_true rfl⟩ hP.1 (lay_X11 (P0 + 1) ct r4.2) rfl rfl hl.1 rfl (Nat.le_of_ble_eq_true rfl) dL_begin_757 ⟨by show _ + _ ≤ 235; omega, by show _ + _ ≤ 2350; omega⟩) hP g8 hS (fun H locs hP hS => ?_)
    refine lv_iconst (v := 4) hx hb dL_begin_760 (by decide) ?_
    refine lv_icmp_eq (tgt := 766) hx hb dL_begin_761 (by decide) (fun z9 => ?_) (fun z9 => ?_)
    · have h := ob_t h z9
      refine lv_aload_n hx hb dL_begin_766 rfl (lv_at hl 1 rfl) ?_
      refine lv_iload_n hx hb dL_begin_767 rfl (lv_at hl 2 rfl) ?_
      refine lv_bipush (v := 38) hx hb dL_begin_768 (by decide) ?_
      refine lv_iadd hx hb dL_begin_770 ?_
      refine lv_iconst (v := 4) hx hb dL_begin_771 (by decide) ?_
      obtain ⟨r10, hr10, h⟩ := ob_bd h
      refine nL_I (kLS (As := [.ref xb, .int (v2 + 38), .int 4]) C0 hE hS (c_L_some l xL xs (v2 + 38) 4 hr10) ⟨wd_322, wd_320, wd_321, wd_0⟩ kd_L_some ⟨Nat.le_of_ble_eq_true rfl, Nat.le_of_ble_eq_true rfl⟩ hP rfl hl.1 rfl (Nat.le_of_ble_eq_true rfl) dL_begin_772 ⟨by show _ + _ ≤ 235; omega, by show _ + _ ≤ 2350; omega⟩) hS (fun H locs hP hS => ?_)
      refine lv_istore (lv' := [(6, .int r10), (0, .ref P0), (1, .ref xb), (2, .int v2)]) hx hb dL_begin_775 hl (by decide) rfl (fun ls hl => ?_)
      exact wl_L_begin_777 l C0 xL xs hE 5 v2 r10 r7.2 h hP hS (lv_sub hl [1, 2, 3, 0] rfl) ⟨by omega, by omega⟩
    · have h := ob_f h z9
      refine lv_iconst (v := 0) hx hb dL_begin_764 (by decide) ?_
      refine W.widen (k := 235) (n := 2350) (by omega) (by omega) ?_
      exact rl_Zw C0 hP hS bool_0 h dL_begin_765
set_option maxRecDepth 100000 in
set_option maxHeartbeats 4000000 in
theorem w_L_begin_653 (l : Launch) {V : Int32 × St} (C0 : XC D ct p s m args meth c cL_begin 10 (some .boolean) RL) (xL : Nat) (xs : Nat → Int32) (hE : XS xb xL xs adK adV P0 s) (v2 : Int32) (s0 : Int32) (S : St) {H : Heap} {locs : List Loc} {ls : Array Slot} {cells slots : Nat} (h : (b_L_begin_653 xL xs v2 s0 S).bind some = some V) (hP : ML D ct P0 Hb S H) (hS : va_S (AB P0) s.heap H locs) (hl : lv_has ls 10 [(0, .ref P0), (1, .ref xb), (2, .int v2)]) (hc : cells + 210 ≤ 235 ∧ slots + 10 * 210 ≤ 2350) : W p l e { frames := 10, cells := 235, slots := 2350, locals := 222 } s m args below meth c H locs cells slots (MQ below (qLIw D ct P0 Hb V) args s 235 2350 (AB P0)) (F0 m 653 ls [.int s0]) := by
  obtain ⟨hx, hb, hr, hml, hown, hts, hK, hlocks, hN⟩ := id C0
  unfold b_L_begin_653 at h
  refine lv_istore (lv' := [(5, .int s0), (0, .ref P0), (1, .ref xb), (2, .int v2)]) hx hb dL_begin_653 hl (by decide) rfl (fun ls hl => ?_)
  refine lv_aload_n hx hb dL_begin_655 rfl (lv_at hl 1 rfl) ?_
  refine xl_get (v := .ref (P0 + 1 + 0)) C0 hP 0 (by decide) wd_249 rfl rfl dL_begin_656 ?_
  refine lv_iconst (v := 0) hx hb dL_begin_659 (by decide) ?_
  refine lv_iload hx hb dL_begin_660 (lv_at hl 0 rfl) ?_
  obtain ⟨r1, hr1, h⟩ := ob_bd h
  obtain ⟨g2, h⟩ := ob_gd h
  refine nl_Iw (kV (As := [.int 0, .int s0]) C0 (c_X11_set l 0 s0 hr1) ⟨wd_452, wd_449, wd_450, wd_451, wd_1⟩ kd_X11_set ⟨Nat.le_of_ble_eq_true rfl, Nat.le_of_ble_eq_true rfl⟩ hP.1 (lay_X11 (P0 + 1) ct S) rfl rfl hl.1 rfl (Nat.le_of_ble_eq_true rfl) dL_begin_662 ⟨by show _ + _ ≤ 235; omega, by show _ + _ ≤ 2350; omega⟩) hP g2 hS (fun H locs hP hS => ?_)
  refine lv_bipush (v := 15) hx hb dL_begin_665 (by decide) ?_
  refine lv_icmp_eq (tgt := 672) hx hb dL_begin_667 (by decide) (fun z3 => ?_) (fun z3 => ?_)
  · have h := ob_t h z3
    refine lv_aload_n hx hb dL_begin_672 rfl (lv_at hl 1 rfl) ?_
    refine lv_iload hx hb dL_begin_673 (lv_at hl 0 rfl) ?_
    obtain ⟨S4, eS4, h⟩ := ob_nm h
    refine xl_put C0 hP hS 8 (by decide) wd_257 rfl (fsL_8 _ _ _) rfl dL_begin_675 (fun H locs hP hS => ?_)
    rw [← eS4] at hP
    refine lv_aload_n hx hb dL_begin_678 rfl (lv_at hl 1 rfl) ?_
    refine lv_aload_n hx hb dL_begin_679 rfl (lv_at hl 2 rfl) ?_
    refine lv_iload_n hx hb dL_begin_680 rfl (lv_at hl 3 rfl) ?_
    refine lv_bipush (v := 35) hx hb dL_begin_681 (by decide) ?_
    refine lv_iadd hx hb dL_begin_683 ?_
    refine lv_iconst (v := 2) hx hb dL_begin_684 (by decide) ?_
    obtain ⟨r5, hr5, h⟩ := ob_bd h
    refine nL_I (kLS (As := [.ref xb, .int (v2 + 35), .int 2]) C0 hE hS (c_L_some l xL xs (v2 + 35) 2 hr5) ⟨wd_322, wd_320, wd_321, wd_0⟩ kd_L_some ⟨Nat.le_of_ble_eq_true rfl, Nat.le_of_ble_eq_true rfl⟩ hP rfl hl.1 rfl (Nat.le_of_ble_eq_true rfl) dL_begin_685 ⟨by show _ + _ ≤ 235; omega, by show _ + _ ≤ 2350; omega⟩) hS (fun H locs hP hS => ?_)
    refine lv_if_ne (tgt := 704) hx hb dL_begin_688 (by decide) (fun z6 => ?_) (fun z6 => ?_)
    · have h := ob_f h z6
      refine lv_aload_n hx hb dL_begin_704 rfl (lv_at hl 2 rfl) ?_
      refine lv_iload_n hx hb dL_begin_705 rfl (lv_at hl 3 rfl) ?_
      refine lv_bipush (v := 36) hx hb dL_begin_706 (by decide) ?_
      refine lv_iadd hx hb dL_begin_708 ?_
      refine lv_iconst (v := 3) hx hb dL_begin_709 (by decide) ?_
      obtain ⟨r7, hr7, h⟩ := ob_bd h
      refine nL_I (kLS (As := [.ref xb, .int (v2 + 36), .int 3]) C0 hE hS (c_L_some l xL xs (v2 + 36) 3 hr7) ⟨wd_322, wd_320, wd_321, wd_0⟩ kd_L_some ⟨Nat.le_of_ble_eq_true rfl, Nat.le_of_ble_eq_true rfl⟩ hP rfl hl.1 rfl (Nat.le_of_ble_eq_true rfl) dL_begin_710 ⟨by show _ + _ ≤ 235; omega, by show _ + _ ≤ 2350; omega⟩) hS (fun H locs hP hS => ?_)
      exact w_L_begin_713 l C0 xL xs hE v2 r7 S4 h hP hS (lv_sub hl [1, 2, 3] rfl) ⟨by omega, by omega⟩
    · have h := ob_t h z6
      refine lv_aload_n hx hb dL_begin_691 rfl (lv_at hl 2 rfl) ?_
      refine lv_iload_n hx hb dL_begin_692 rfl (lv_at hl 3 rfl) ?_
      refine lv_bipush (v := 36) hx hb dL_begin_693 (by decide) ?_
      refine lv_iadd hx hb dL_begin_695 ?_
      refine lv_bipush (v := 10) hx hb dL_begin_696 (by decide) ?_
      obtain ⟨r8, hr8, h⟩ := ob_bd h
      refine nL_I (kLS (As := [.ref xb, .int (v2 + 36), .int 10]) C0 hE hS (c_L_some l xL xs (v2 + 36) 10 hr8) ⟨wd_322, wd_320, wd_321, wd_0⟩ kd_L_some ⟨Nat.le_of_ble_eq_true rfl, Nat.le_of_ble_eq_true rfl⟩ hP rfl hl.1 rfl (Nat.le_of_ble_eq_true rfl) dL_begin_698 ⟨by show _ + _ ≤ 235; omega, by show _ + _ ≤ 2350; omega⟩) hS (fun H locs hP hS => ?_)
      refine lv_goto (tgt := 713) hx hb dL_begin_701 (by decide) ?_
      exact w_L_begin_713 l C0 xL xs hE v2 r8 S4 h hP hS (lv_sub hl [1, 2, 3] rfl) ⟨by omega, by omega⟩
  · have h := ob_f h z3
    refine lv_iconst (v := 0) hx hb dL_begin_670 (by decide) ?_
    refine W.widen (k := 235) (n := 2350) (by omega) (by omega) ?_
    exact rl_Zw C0 hP hS bool_0 h dL_begin_671
set_option maxRecDepth 100000 in
set_option maxHeartbeats 4000000 in
theorem w_L_begin_615 (l : Launch) {V : Int32 × St} (C0 : XC D ct p s m args meth c cL_begin 10 (some .boolean) RL) (xL : Nat) (xs : Nat → Int32) (hE : XS xb xL xs adK adV P0 s) (v2 : Int32) (S : St) {H : Heap} {locs : List Loc} {ls : Array Slot} {cells slots : Nat} (h : (b_L_begin_615 xL xs v2 S).bind some = some V) (hP : ML D ct P0 Hb S H) (hS : va_S (AB P0) s.heap H locs) (hl : lv_has ls 10 [(0, .ref P0), (1, .ref xb), (2, .int v2)]) (hc : cells + 210 ≤ 235 ∧ slots + 10 * 210 ≤ 2350) : W p l e { frames := 10, cells := 235, slots := 2350, locals := 222 } s m args below meth c H locs cells slots (MQ below (qLIw D ct P0 Hb V) args s 235 2350 (AB P0)) (F0 m 615 ls []) := by
  obtain ⟨hx, hb, hr, hml, hown, hts, hK, hlocks, hN⟩ := id C0
  unfold b_L_begin_615 at h
  refine lv_aload_n hx hb dL_begin_615 rfl (lv_at hl 1 rfl) ?_
  refine lv_iload_n hx hb dL_begin_616 rfl (lv_at hl 2 rfl) ?_
  refine lv_bipush (v := 33) hx hb dL_begin_617 (by decide) ?_
  refine lv_iadd hx hb dL_begin_619 ?_
  refine lv_iconst (v := 2) hx hb dL_begin_620 (by decide) ?_
  obtain ⟨r1, hr1, h⟩ := ob_bd h
  refine nL_I (kLS (As := [.ref xb, .int (v2 + 33), .int 2]) C0 hE hS (c_L_some l xL xs (v2 + 33) 2 hr1) ⟨wd_322, wd_320, wd_321, wd_0⟩ kd_L_some ⟨Nat.le_of_ble_eq_true rfl, Nat.le_of_ble_eq_true rfl⟩ hP rfl hl.1 rfl (Nat.le_of_ble_eq_true rfl) dL_begin_621 ⟨by show _ + _ ≤ 235; omega, by show _ + _ ≤ 2350; omega⟩) hS (fun H locs hP hS => ?_)
  refine lv_if_ne (tgt := 640) hx hb dL_begin_624 (by decide) (fun z2 => ?_) (fun z2 => ?_)
  · have h := ob_f h z2
    refine lv_bipush (v := 8) hx hb dL_begin_640 (by decide) ?_
    refine lv_aload_n hx hb dL_begin_642 rfl (lv_at hl 1 rfl) ?_
    refine lv_iload_n hx hb dL_begin_643 rfl (lv_at hl 2 rfl) ?_
    refine lv_bipush (v := 34) hx hb dL_begin_644 (by decide) ?_
    refine lv_iadd hx hb dL_begin_646 ?_
    refine lv_bipush (v := 9) hx hb dL_begin_647 (by decide) ?_
    obtain ⟨r3, hr3, h⟩ := ob_bd h
    refine nL_I (kLS (As := [.ref xb, .int (v2 + 34), .int 9]) C0 hE hS (c_L_some l xL xs (v2 + 34) 9 hr3) ⟨wd_322, wd_320, wd_321, wd_0⟩ kd_L_some ⟨Nat.le_of_ble_eq_true rfl, Nat.le_of_ble_eq_true rfl⟩ hP rfl hl.1 rfl (Nat.le_of_ble_eq_true rfl) dL_begin_649 ⟨by show _ + _ ≤ 235; omega, by show _ + _ ≤ 2350; omega⟩) hS (fun H locs hP hS => ?_)
    refine lv_iadd hx hb dL_begin_652 ?_
    exact w_L_begin_653 l C0 xL xs hE v2 (8 + r3) S h hP hS (lv_sub hl [0, 1, 2] rfl) ⟨by omega, by omega⟩
  · have h := ob_t h z2
    refine lv_aload_n hx hb dL_begin_627 rfl (lv_at hl 1 rfl) ?_
    refine lv_iload_n hx hb dL_begin_628 rfl (lv_at hl 2 rfl) ?_
    refine lv_bipush (v := 34) hx hb dL_begin_629 (by decide) ?_
    refine lv_iadd hx hb dL_begin_631 ?_
    refine lv_bipush (v := 24) hx hb dL_begin_632 (by decide) ?_
    obtain ⟨r4, hr4, h⟩ := ob_bd h
    refine nL_I (kLS (As := [.ref xb, .int (v2 + 34), .int 24]) C0 hE hS (c_L_some l xL xs (v2 + 34) 24 hr4) ⟨wd_322, wd_320, wd_321, wd_0⟩ kd_L_some ⟨Nat.le_of_ble_eq_true rfl, Nat.le_of_ble_eq_true rfl⟩ hP rfl hl.1 rfl (Nat.le_of_ble_eq_true rfl) dL_begin_634 ⟨by show _ + _ ≤ 235; omega, by show _ + _ ≤ 2350; omega⟩) hS (fun H locs hP hS => ?_)
    refine lv_goto (tgt := 653) hx hb dL_begin_637 (by decide) ?_
    exact w_L_begin_653 l C0 xL xs hE v2 r4 S h hP hS (lv_sub hl [0, 1, 2] rfl) ⟨by omega, by omega⟩
set_option maxRecDepth 100000 in
set_option maxHeartbeats 4000000 in
theorem w_L_begin_604 (l : Launch) {V : Int32 × St} (C0 : XC D ct p s m args meth c cL_begin 10 (some .boolean) RL) (xL : Nat) (xs : Nat → Int32) (hE : XS xb xL xs adK adV P0 s) (n0 : Nat) (ih0 : ∀ (v2 : Int32) (v5 : Int32) (S : St) (H : Heap) (locs : List Loc) (ls : Array Slot) (cells slots : Nat), (lp n0 (l_L_begin_487 xL xs) (v2, v5, S)).bind some = some V → ML D ct P0 Hb S H → va_S (AB P0) s.heap H locs → lv_has ls 10 [(0, .ref P0), (1, .ref xb), (2, .int v2), (5, .int v5)] → (cells + (n0 * 0 + 210) ≤ 235 ∧ slots + 10 * (n0 * 0 + 210) ≤ 2350) → W p l e { frames := 10, cells := 235, slots := 2350, locals := 222 } s m args below meth c H locs cells slots (MQ below (qLIw D ct P0 Hb V) args s 235 2350 (AB P0)) (F0 m 487 ls [])) (v2 : Int32) (v5 : Int32) (s0 : Int32) (s1 : Int32) (S : St) {H : Heap} {locs : List Loc} {ls : Array Slot} {cells slots : Nat} (h : (b_L_begin_604 xL xs v2 v5 s0 s1 S).bind (lpF n0 (l_L_begin_487 xL xs) some) = some V) (hP : ML D ct P0 Hb S H) (hS : va_S (AB P0) s.heap H locs) (hl : lv_has ls 10 [(0, .ref P0), (1, .ref xb), (2, .int v2), (5, .int v5)]) (hc : cells + (0 + (n0 * 0 + 210)) ≤ 235 ∧ slots + 10 * (0 + (n0 * 0 + 210)) ≤ 2350) : W p l e { frames := 10, cells := 235, slots := 2350, locals := 222 } s m args below meth c H locs cells slots (MQ below (qLIw D ct P0 Hb V) args s 235 2350 (AB P0)) (F0 m 604 ls [.int s0, .int s1]) := by
  obtain ⟨hx, hb, hr, hml, hown, hts, hK, hlocks, hN⟩ := id C0
  unfold b_L_begin_604 at h
  refine lv_icmp_eq (tgt := 609) hx hb dL_begin_604 (by decide) (fun z1 => ?_) (fun z1 => ?_)
  · have h := ob_t h z1
    refine lv_iinc (v := v5 + (-1)) (lv' := [(5, .int (v5 + (-1))), (0, .ref P0), (1, .ref xb), (2, .int v2)]) hx hb dL_begin_609 hl (k := 3) rfl rfl (by decide) rfl (fun ls hl => ?_)
    refine lv_goto (tgt := 487) hx hb dL_begin_612 (by decide) ?_
    exact ih0 v2 (v5 + (-1)) S _ _ _ _ _ h hP hS (lv_sub hl [1, 2, 3, 0] rfl) ⟨by omega, by omega⟩
  · have h := ob_f h z1
    refine lv_iconst (v := 0) hx hb dL_begin_607 (by decide) ?_
    refine W.widen (k := 235) (n := 2350) (by omega) (by omega) ?_
    exact rl_Zw C0 hP hS bool_0 h dL_begin_608
set_option maxRecDepth 100000 in
set_option maxHeartbeats 4000000 in
theorem w_L_begin_554 (l : Launch) {V : Int32 × St} (C0 : XC D ct p s m args meth c cL_begin 10 (some .boolean) RL) (xL : Nat) (xs : Nat → Int32) (hE : XS xb xL xs adK adV P0 s) (n0 : Nat) (ih0 : ∀ (v2 : Int32) (v5 : Int32) (S : St) (H : Heap) (locs : List Loc) (ls : Array Slot) (cells slots : Nat), (lp n0 (l_L_begin_487 xL xs) (v2, v5, S)).bind some = some V → ML D ct P0 Hb S H → va_S (AB P0) s.heap H locs → lv_has ls 10 [(0, .ref P0), (1, .ref xb), (2, .int v2), (5, .int v5)] → (cells + (n0 * 0 + 210) ≤ 235 ∧ slots + 10 * (n0 * 0 + 210) ≤ 2350) → W p l e { frames := 10, cells := 235, slots := 2350, locals := 222 } s m args below meth c H locs cells slots (MQ below (qLIw D ct P0 Hb V) args s 235 2350 (AB P0)) (F0 m 487 ls [])) (v2 : Int32) (v5 : Int32) (v6 : Int32) (v7 : Int32) (s0 : Int32) (s1 : Int32) (s2 : Nat) (hs2 : s2 < 4) (S : St) {H : Heap} {locs : List Loc} {ls : Array Slot} {cells slots : Nat} (h : (b_L_begin_554 xL xs v2 v5 v6 v7 s0 s1 s2 S).bind (lpF n0 (l_L_begin_487 xL xs) some) = some V) (hP : ML D ct P0 Hb S H) (hS : va_S (AB P0) s.heap H locs) (hl : lv_has ls 10 [(0, .ref P0), (1, .ref xb), (2, .int v2), (5, .int v5), (6, .int v6), (7, .int v7)]) (hc : cells + (0 + (n0 * 0 + 210)) ≤ 235 ∧ slots + 10 * (0 + (n0 * 0 + 210)) ≤ 2350) : W p l e { frames := 10, cells := 235, slots := 2350, locals := 222 } s m args below meth c H locs cells slots (MQ below (qLIw D ct P0 Hb V) args s 235 2350 (AB P0)) (F0 m 554 ls [.int s0, .int s1, .ref (P0 + 1 + (158 + 1 * s2))]) := by
  obtain ⟨hx, hb, hr, hml, hown, hts, hK, hlocks, hN⟩ := id C0
  unfold b_L_begin_554 at h
  obtain ⟨g2, h⟩ := ob_gd h
  obtain ⟨g1, h⟩ := ob_gd h
  obtain ⟨S3, eS3, h⟩ := ob_nm h
  refine xl_zast C0 hP hS hs2 (bool_n g2) g1 dL_begin_554 (fun H locs hP hS => ?_)
  rw [← eS3] at hP
  refine lv_aload_n hx hb dL_begin_555 rfl (lv_at hl 0 rfl) ?_
  refine xl_get (v := .ref (P0 + 1 + 157)) C0 hP 7 (by decide) wd_256 rfl rfl dL_begin_556 ?_
  refine lv_iload hx hb dL_begin_559 (lv_at hl 5 rfl) ?_
  obtain ⟨g4, h⟩ := ob_gd h
  refine x_aald (v := .ref (P0 + 1 + (158 + 1 * v7.toNatClampNeg))) C0 hP.1 (lay_157 (P0 + 1) ct S3) rfl rfl g4 rfl dL_begin_561 ?_
  refine lv_iload hx hb dL_begin_562 (lv_at hl 4 rfl) ?_
  refine lv_aload_n hx hb dL_begin_564 rfl (lv_at hl 0 rfl) ?_
  refine xl_get (v := .ref (P0 + 1 + 157)) C0 hP 7 (by decide) wd_256 rfl rfl dL_begin_565 ?_
  refine lv_iload hx hb dL_begin_568 (lv_at hl 4 rfl) ?_
  obtain ⟨g5, h⟩ := ob_gd h
  refine x_aald (v := .ref (P0 + 1 + (158 + 1 * v6.toNatClampNeg))) C0 hP.1 (lay_157 (P0 + 1) ct S3) rfl rfl g5 rfl dL_begin_570 ?_
  refine lv_iload hx hb dL_begin_571 (lv_at hl 5 rfl) ?_
  obtain ⟨g6, h⟩ := ob_gd h
  refine x_zald C0 hP.1 (lay_kin (P0 + 1) ct S3 (inb_lt g5)) g6 dL_begin_573 ?_
  obtain ⟨g8, h⟩ := ob_gd h
  obtain ⟨g7, h⟩ := ob_gd h
  obtain ⟨S9, eS9, h⟩ := ob_nm h
  refine xl_zast C0 hP hS (inb_lt g4) (bool_n g8) g7 dL_begin_574 (fun H locs hP hS => ?_)
  rw [← eS9] at hP
  refine lv_aload_n hx hb dL_begin_575 rfl (lv_at hl 0 rfl) ?_
  refine xl_get (v := .ref (P0 + 1 + 0)) C0 hP 0 (by decide) wd_249 rfl rfl dL_begin_576 ?_
  refine lv_iload hx hb dL_begin_579 (lv_at hl 4 rfl) ?_
  refine lv_iload hx hb dL_begin_581 (lv_at hl 5 rfl) ?_
  obtain ⟨r10, hr10, h⟩ := ob_bd h
  obtain ⟨g11, h⟩ := ob_gd h
  refine nl_Iw (kV (As := [.int v6, .int v7]) C0 (c_X11_kin l v6 v7 hr10) ⟨wd_440, wd_437, wd_438, wd_439, wd_1⟩ kd_X11_kin ⟨Nat.le_of_ble_eq_true rfl, Nat.le_of_ble_eq_true rfl⟩ hP.1 (lay_X11 (P0 + 1) ct S9) rfl rfl hl.1 rfl (Nat.le_of_ble_eq_true rfl) dL_begin_583 ⟨by show _ + _ ≤ 235; omega, by show _ + _ ≤ 2350; omega⟩) hP g11 hS (fun H locs hP hS => ?_)
  refine lv_aload_n hx hb dL_begin_586 rfl (lv_at hl 0 rfl) ?_
  refine xl_get (v := .ref (P0 + 1 + 157)) C0 hP 7 (by decide) wd_256 rfl rfl dL_begin_587 ?_
  refine lv_iload hx hb dL_begin_590 (lv_at hl 4 rfl) ?_
  obtain ⟨g12, h⟩ := ob_gd h
  refine x_aald (v := .ref (P0 + 1 + (158 + 1 * v6.toNatClampNeg))) C0 hP.1 (lay_157 (P0 + 1) ct r10.2) rfl rfl g12 rfl dL_begin_592 ?_
  refine lv_iload hx hb dL_begin_593 (lv_at hl 5 rfl) ?_
  obtain ⟨g13, h⟩ := ob_gd h
  refine x_zald C0 hP.1 (lay_kin (P0 + 1) ct r10.2 (inb_lt g12)) g13 dL_begin_595 ?_
  refine lv_if_eq (tgt := 603) hx hb dL_begin_596 (by decide) (fun z14 => ?_) (fun z14 => ?_)
  · have h := ob_t h z14
    refine lv_iconst (v := 0) hx hb dL_begin_603 (by decide) ?_
    exact w_L_begin_604 l C0 xL xs hE n0 ih0 v2 v5 0 r10.1 r10.2 h hP hS (lv_sub hl [0, 1, 2, 3] rfl) ⟨by omega, by omega⟩
  · have h := ob_f h z14
    refine lv_iconst (v := 1) hx hb dL_begin_599 (by decide) ?_
    refine lv_goto (tgt := 604) hx hb dL_begin_600 (by decide) ?_
    exact w_L_begin_604 l C0 xL xs hE n0 ih0 v2 v5 1 r10.1 r10.2 h hP hS (lv_sub hl [0, 1, 2, 3] rfl) ⟨by omega, by omega⟩
set_option maxRecDepth 100000 in
set_option maxHeartbeats 4000000 in
theorem w_L_begin_487 (l : Launch) {V : Int32 × St} (C0 : XC D ct p s m args meth c cL_begin 10 (some .boolean) RL) (xL : Nat) (xs : Nat → Int32) (hE : XS xb xL xs adK adV P0 s) (n0 : Nat) (ih0 : ∀ (v2 : Int32) (v5 : Int32) (S : St) (H : Heap) (locs : List Loc) (ls : Array Slot) (cells slots : Nat), (lp n0 (l_L_begin_487 xL xs) (v2, v5, S)).bind some = some V → ML D ct P0 Hb S H → va_S (AB P0) s.heap H locs → lv_has ls 10 [(0, .ref P0), (1, .ref xb), (2, .int v2), (5, .int v5)] → (cells + (n0 * 0 + 210) ≤ 235 ∧ slots + 10 * (n0 * 0 + 210) ≤ 2350) → W p l e { frames := 10, cells := 235, slots := 2350, locals := 222 } s m args below meth c H locs cells slots (MQ below (qLIw D ct P0 Hb V) args s 235 2350 (AB P0)) (F0 m 487 ls [])) (v2 : Int32) (v5 : Int32) (S : St) {H : Heap} {locs : List Loc} {ls : Array Slot} {cells slots : Nat} (h : (b_L_begin_487 xL xs v2 v5 S).bind (lpF n0 (l_L_begin_487 xL xs) some) = some V) (hP : ML D ct P0 Hb S H) (hS : va_S (AB P0) s.heap H locs) (hl : lv_has ls 10 [(0, .ref P0), (1, .ref xb), (2, .int v2), (5, .int v5)]) (hc : cells + ((n0 + 1) * 0 + 210) ≤ 235 ∧ slots + 10 * ((n0 + 1) * 0 + 210) ≤ 2350) : W p l e { frames := 10, cells := 235, slots := 2350, locals := 222 } s m args below meth c H locs cells slots (MQ below (qLIw D ct P0 Hb V) args s 235 2350 (AB P0)) (F0 m 487 ls []) := by
  obtain ⟨hx, hb, hr, hml, hown, hts, hK, hlocks, hN⟩ := id C0
  unfold b_L_begin_487 at h
  refine lv_iload hx hb dL_begin_487 (lv_at hl 3 rfl) ?_
  refine lv_if_le (tgt := 615) hx hb dL_begin_489 (by decide) (fun z1 => ?_) (fun z1 => ?_)
  · have h := ob_t h z1
    have h := ob_mp h
    exact w_L_begin_615 l C0 xL xs hE v2 S h hP hS (lv_sub hl [0, 1, 2] rfl) ⟨by omega, by omega⟩
  · have h := ob_f h z1
    refine lv_aload_n hx hb dL_begin_492 rfl (lv_at hl 1 rfl) ?_
    refine lv_iload_n hx hb dL_begin_493 rfl (lv_at hl 2 rfl) ?_
    refine lv_bipush (v := 24) hx hb dL_begin_494 (by decide) ?_
    refine lv_iadd hx hb dL_begin_496 ?_
    refine lv_iload hx hb dL_begin_497 (lv_at hl 3 rfl) ?_
    refine lv_iadd hx hb dL_begin_499 ?_
    refine lv_iconst (v := 3) hx hb dL_begin_500 (by decide) ?_
    obtain ⟨r2, hr2, h⟩ := ob_bd h
    refine nL_I (kLS (As := [.ref xb, .int ((v2 + 24) + v5), .int 3]) C0 hE hS (c_L_some l xL xs ((v2 + 24) + v5) 3 hr2) ⟨wd_322, wd_320, wd_321, wd_0⟩ kd_L_some ⟨Nat.le_of_ble_eq_true rfl, Nat.le_of_ble_eq_true rfl⟩ hP rfl hl.1 rfl (Nat.le_of_ble_eq_true rfl) dL_begin_501 ⟨by show _ + _ ≤ 235; omega, by show _ + _ ≤ 2350; omega⟩) hS (fun H locs hP hS => ?_)
    refine lv_istore (lv' := [(6, .int r2), (0, .ref P0), (1, .ref xb), (2, .int v2), (5, .int v5)]) hx hb dL_begin_504 hl (by decide) rfl (fun ls hl => ?_)
    refine lv_iload hx hb dL_begin_506 (lv_at hl 0 rfl) ?_
    refine lv_iconst (v := 1) hx hb dL_begin_508 (by decide) ?_
    refine lv_iadd hx hb dL_begin_509 ?_
    refine lv_aload_n hx hb dL_begin_510 rfl (lv_at hl 2 rfl) ?_
    refine lv_iload_n hx hb dL_begin_511 rfl (lv_at hl 3 rfl) ?_
    refine lv_bipush (v := 28) hx hb dL_begin_512 (by decide) ?_
    refine lv_iadd hx hb dL_begin_514 ?_
    refine lv_iload hx hb dL_begin_515 (lv_at hl 4 rfl) ?_
    refine lv_iadd hx hb dL_begin_517 ?_
    refine lv_iconst (v := 2) hx hb dL_begin_518 (by decide) ?_
    obtain ⟨r3, hr3, h⟩ := ob_bd h
    refine nL_I (kLS (As := [.ref xb, .int ((v2 + 28) + v5), .int 2]) C0 hE hS (c_L_some l xL xs ((v2 + 28) + v5) 2 hr3) ⟨wd_322, wd_320, wd_321, wd_0⟩ kd_L_some ⟨Nat.le_of_ble_eq_true rfl, Nat.le_of_ble_eq_true rfl⟩ hP rfl hl.1 rfl (Nat.le_of_ble_eq_true rfl) dL_begin_519 ⟨by show _ + _ ≤ 235; omega, by show _ + _ ≤ 2350; omega⟩) hS (fun H locs hP hS => ?_)
    refine lv_iadd hx hb dL_begin_522 ?_
    refine lv_iconst (v := 3) hx hb dL_begin_523 (by decide) ?_
    refine lv_irem hx hb dL_begin_524 (by decide) ?_
    refine lv_istore (lv' := [(7, .int (((r2 + 1) + r3) - ((r2 + 1) + r3) / 3 * 3)), (6, .int r2), (0, .ref P0), (1, .ref xb), (2, .int v2), (5, .int v5)]) hx hb dL_begin_525 hl (by decide) rfl (fun ls hl => ?_)
    refine lv_aload_n hx hb dL_begin_527 rfl (lv_at hl 2 rfl) ?_
    refine xl_get (v := .ref (P0 + 1 + 157)) C0 hP 7 (by decide) wd_256 rfl rfl dL_begin_528 ?_
    refine lv_iload hx hb dL_begin_531 (lv_at hl 1 rfl) ?_
    obtain ⟨g5, h⟩ := ob_gd h
    refine x_aald (v := .ref (P0 + 1 + (158 + 1 * r2.toNatClampNeg))) C0 hP.1 (lay_157 (P0 + 1) ct S) rfl rfl g5 rfl dL_begin_533 ?_
    refine lv_iload hx hb dL_begin_534 (lv_at hl 0 rfl) ?_
    refine lv_aload_n hx hb dL_begin_536 rfl (lv_at hl 2 rfl) ?_
    refine xl_get (v := .ref (P0 + 1 + 157)) C0 hP 7 (by decide) wd_256 rfl rfl dL_begin_537 ?_
    refine lv_iload hx hb dL_begin_540 (lv_at hl 1 rfl) ?_
    obtain ⟨g6, h⟩ := ob_gd h
    refine x_aald (v := .ref (P0 + 1 + (158 + 1 * r2.toNatClampNeg))) C0 hP.1 (lay_157 (P0 + 1) ct S) rfl rfl g6 rfl dL_begin_542 ?_
    refine lv_iload hx hb dL_begin_543 (lv_at hl 0 rfl) ?_
    obtain ⟨g7, h⟩ := ob_gd h
    refine x_zald C0 hP.1 (lay_kin (P0 + 1) ct S (inb_lt g6)) g7 dL_begin_545 ?_
    refine lv_if_ne (tgt := 553) hx hb dL_begin_546 (by decide) (fun z8 => ?_) (fun z8 => ?_)
    · have h := ob_f h z8
      refine lv_iconst (v := 0) hx hb dL_begin_553 (by decide) ?_
      exact w_L_begin_554 l C0 xL xs hE n0 ih0 v2 v5 r2 (((r2 + 1) + r3) - ((r2 + 1) + r3) / 3 * 3) 0 (((r2 + 1) + r3) - ((r2 + 1) + r3) / 3 * 3) r2.toNatClampNeg (inb_lt g5) S h hP hS (lv_sub hl [2, 3, 4, 5, 1, 0] rfl) ⟨by omega, by omega⟩
    · have h := ob_t h z8
      refine lv_iconst (v := 1) hx hb dL_begin_549 (by decide) ?_
      refine lv_goto (tgt := 554) hx hb dL_begin_550 (by decide) ?_
      exact w_L_begin_554 l C0 xL xs hE n0 ih0 v2 v5 r2 (((r2 + 1) + r3) - ((r2 + 1) + r3) / 3 * 3) 1 (((r2 + 1) + r3) - ((r2 + 1) + r3) / 3 * 3) r2.toNatClampNeg (inb_lt g5) S h hP hS (lv_sub hl [2, 3, 4, 5, 1, 0] rfl) ⟨by omega, by omega⟩
set_option maxRecDepth 100000 in
set_option maxHeartbeats 4000000 in
theorem wl_L_begin_487 (l : Launch) {V : Int32 × St} (C0 : XC D ct p s m args meth c cL_begin 10 (some .boolean) RL) (xL : Nat) (xs : Nat → Int32) (hE : XS xb xL xs adK adV P0 s)  : ∀ (n0 : Nat) (v2 : Int32) (v5 : Int32) (S : St) {H : Heap} {locs : List Loc} {ls : Array Slot} {cells slots : Nat}, (lp n0 (l_L_begin_487 xL xs) (v2, v5, S)).bind some = some V → ML D ct P0 Hb S H → va_S (AB P0) s.heap H locs → lv_has ls 10 [(0, .ref P0), (1, .ref xb), (2, .int v2), (5, .int v5)] → (cells + (n0 * 0 + 210) ≤ 235 ∧ slots + 10 * (n0 * 0 + 210) ≤ 2350) → W p l e { frames := 10, cells := 235, slots := 2350, locals := 222 } s m args below meth c H locs cells slots (MQ below (qLIw D ct P0 Hb V) args s 235 2350 (AB P0)) (F0 m 487 ls []) := by
  intro n0
  induction n0 with
  | zero =>
    intro v2 v5 S H locs ls cells slots h hP hS hl hc
    exact (lp_0 h).elim
  | succ n0 ih0 =>
    intro v2 v5 S H locs ls cells slots h hP hS hl hc
    have h := lp_s h
    exact w_L_begin_487 l C0 xL xs hE n0 (fun v2 v5 S H locs ls cells slots h hP hS hl hc => ih0 v2 v5 S h hP hS hl hc) v2 v5 S h hP hS hl ⟨by omega, by omega⟩
set_option maxRecDepth 100000 in
set_option maxHeartbeats 4000000 in
theorem w_L_begin_476 (l : Launch) {V : Int32 × St} (C0 : XC D ct p s m args meth c cL_begin 10 (some .boolean) RL) (xL : Nat) (xs : Nat → Int32) (hE : XS xb xL xs adK adV P0 s) (v2 : Int32) (S : St) {H : Heap} {locs : List Loc} {ls : Array Slot} {cells slots : Nat} (h : (b_L_begin_476 xL xs v2 S).bind some = some V) (hP : ML D ct P0 Hb S H) (hS : va_S (AB P0) s.heap H locs) (hl : lv_has ls 10 [(0, .ref P0), (1, .ref xb), (2, .int v2)]) (hc : cells + 210 ≤ 235 ∧ slots + 10 * 210 ≤ 2350) : W p l e { frames := 10, cells := 235, slots := 2350, locals := 222 } s m args below meth c H locs cells slots (MQ below (qLIw D ct P0 Hb V) args s 235 2350 (AB P0)) (F0 m 476 ls []) := by
  obtain ⟨hx, hb, hr, hml, hown, hts, hK, hlocks, hN⟩ := id C0
  unfold b_L_begin_476 at h
  refine lv_aload_n hx hb dL_begin_476 rfl (lv_at hl 1 rfl) ?_
  refine lv_iload_n hx hb dL_begin_477 rfl (lv_at hl 2 rfl) ?_
  refine lv_bipush (v := 24) hx hb dL_begin_478 (by decide) ?_
  refine lv_iadd hx hb dL_begin_480 ?_
  refine lv_iconst (v := 5) hx hb dL_begin_481 (by decide) ?_
  obtain ⟨r1, hr1, h⟩ := ob_bd h
  refine nL_I (kLS (As := [.ref xb, .int (v2 + 24), .int 5]) C0 hE hS (c_L_some l xL xs (v2 + 24) 5 hr1) ⟨wd_322, wd_320, wd_321, wd_0⟩ kd_L_some ⟨Nat.le_of_ble_eq_true rfl, Nat.le_of_ble_eq_true rfl⟩ hP rfl hl.1 rfl (Nat.le_of_ble_eq_true rfl) dL_begin_482 ⟨by show _ + _ ≤ 235; omega, by show _ + _ ≤ 2350; omega⟩) hS (fun H locs hP hS => ?_)
  refine lv_istore (lv' := [(5, .int r1), (0, .ref P0), (1, .ref xb), (2, .int v2)]) hx hb dL_begin_485 hl (by decide) rfl (fun ls hl => ?_)
  exact wl_L_begin_487 l C0 xL xs hE 5 v2 r1 S h hP hS (lv_sub hl [1, 2, 3, 0] rfl) ⟨by omega, by omega⟩
set_option maxRecDepth 100000 in
set_option maxHeartbeats 4000000 in
theorem w_L_begin_377 (l : Launch) {V : Int32 × St} (C0 : XC D ct p s m args meth c cL_begin 10 (some .boolean) RL) (xL : Nat) (xs : Nat → Int32) (hE : XS xb xL xs adK adV P0 s) (n0 : Nat) (ih0 : ∀ (v2 : Int32) (v4 : Int32) (v5 : Int32) (S : St) (H : Heap) (locs : List Loc) (ls : Array Slot) (cells slots : Nat), (lp n0 (l_L_begin_219 xL xs) (v2, v4, v5, S)).bind some = some V → ML D ct P0 Hb S H → va_S (AB P0) s.heap H locs → lv_has ls 10 [(0, .ref P0), (1, .ref xb), (2, .int v2), (4, .int v4), (5, .int v5)] → (cells + (n0 * 2 + 210) ≤ 235 ∧ slots + 10 * (n0 * 2 + 210) ≤ 2350) → W p l e { frames := 10, cells := 235, slots := 2350, locals := 222 } s m args below meth c H locs cells slots (MQ below (qLIw D ct P0 Hb V) args s 235 2350 (AB P0)) (F0 m 219 ls [])) (v2 : Int32) (v4 : Int32) (v5 : Int32) (s0 : Int32) (s1 : Int32) (s2 : Nat) (s3 : Nat) (s4 : Int32) (S : St) {H : Heap} {locs : List Loc} {ls : Array Slot} {cells slots : Nat} (h : (b_L_begin_377 xL xs v2 v4 v5 s0 s1 s2 s3 s4 S).bind (lpF n0 (l_L_begin_219 xL xs) some) = some V) (hP : ML D ct P0 Hb S H) (hS : va_S (AB P0) s.heap H locs) (hl : lv_has ls 10 [(0, .ref P0), (1, .ref xb), (2, .int v2), (4, .int v4), (5, .int v5)]) (hc : cells + (1 + (n0 * 2 + 210)) ≤ 235 ∧ slots + 10 * (1 + (n0 * 2 + 210)) ≤ 2350) : W p l e { frames := 10, cells := 235, slots := 2350, locals := 222 } s m args below meth c H locs cells slots (MQ below (qLIw D ct P0 Hb V) args s 235 2350 (AB P0)) (F0 m 377 ls [.int s0, .int s1, .ref (P0 + 1 + s2), .ref (P0 + 1 + s3), .int s4, .ref (P0 + 1 + 136)]) := by
  obtain ⟨hx, hb, hr, hml, hown, hts, hK, hlocks, hN⟩ := id C0
  unfold b_L_begin_377 at h
  obtain ⟨n1, en1, h⟩ := ob_bd h
  obtain ⟨g2, h⟩ := ob_gd h
  obtain ⟨S3, eS3, h⟩ := ob_nm h
  refine xl_iast C0 hP hS en1 g2 dL_begin_377 (fun H locs hP hS => ?_)
  rw [← eS3] at hP
  obtain ⟨g4, h⟩ := ob_gd h
  obtain ⟨n5, en5, h⟩ := ob_bd h
  obtain ⟨S6, eS6, h⟩ := ob_nm h
  refine xl_astQ (k := 136) C0 hP hS (by decide) (fun S => lay_136 (P0 + 1) ct S) en5 g4 dL_begin_378 (fun H locs hP hS => ?_)
  rw [← eS6] at hP
  refine lv_aload_n hx hb dL_begin_379 rfl (lv_at hl 0 rfl) ?_
  refine lv_dup hx hb dL_begin_380 rfl ?_
  refine xl_get (v := .int (gi S6 136 1)) C0 hP 1 (by decide) wd_250 rfl rfl dL_begin_381 ?_
  refine lv_iconst (v := 1) hx hb dL_begin_384 (by decide) ?_
  refine lv_iadd hx hb dL_begin_385 ?_
  obtain ⟨S7, eS7, h⟩ := ob_nm h
  refine xl_put C0 hP hS 1 (by decide) wd_250 rfl (fsL_1 _ _ _) rfl dL_begin_386 (fun H locs hP hS => ?_)
  rw [← eS7] at hP
  refine lv_aload_n hx hb dL_begin_389 rfl (lv_at hl 0 rfl) ?_
  refine xl_get (v := .ref (P0 + 1 + 0)) C0 hP 0 (by decide) wd_249 rfl rfl dL_begin_390 ?_
  refine lv_iconst (v := 0) hx hb dL_begin_393 (by decide) ?_
  refine lv_iconst (v := 1) hx hb dL_begin_394 (by decide) ?_
  refine lv_aload_n hx hb dL_begin_395 rfl (lv_at hl 0 rfl) ?_
  refine xl_get (v := .ref (P0 + 1 + 136)) C0 hP 2 (by decide) wd_251 rfl rfl dL_begin_396 ?_
  refine lv_iload hx hb dL_begin_399 (lv_at hl 4 rfl) ?_
  obtain ⟨g8, h⟩ := ob_gd h
  obtain ⟨q9, eq9, h⟩ := ob_bd h
  refine x_aald (v := .ref (P0 + 1 + q9)) C0 hP.1 (lay_136 (P0 + 1) ct S7) rfl rfl g8 (by show va_rf ((gr S7 136 v5.toNatClampNeg).map (P0 + 1 + ·)) = _; rw [eq9]; rfl) dL_begin_401 ?_
  refine lv_iconst (v := 0) hx hb dL_begin_402 (by decide) ?_
  obtain ⟨n11, en11, h⟩ := ob_bd h
  obtain ⟨g10, h⟩ := ob_gd h
  refine x_iald C0 hP.1 (lay_dy (P0 + 1) ct en11) g10 dL_begin_403 ?_
  refine lv_aload_n hx hb dL_begin_404 rfl (lv_at hl 0 rfl) ?_
  refine xl_get (v := .ref (P0 + 1 + 136)) C0 hP 2 (by decide) wd_251 rfl rfl dL_begin_405 ?_
  refine lv_iload hx hb dL_begin_408 (lv_at hl 4 rfl) ?_
  obtain ⟨g12, h⟩ := ob_gd h
  obtain ⟨q13, eq13, h⟩ := ob_bd h
  refine x_aald (v := .ref (P0 + 1 + q13)) C0 hP.1 (lay_136 (P0 + 1) ct S7) rfl rfl g12 (by show va_rf ((gr S7 136 v5.toNatClampNeg).map (P0 + 1 + ·)) = _; rw [eq13]; rfl) dL_begin_410 ?_
  refine lv_iconst (v := 1) hx hb dL_begin_411 (by decide) ?_
  obtain ⟨n15, en15, h⟩ := ob_bd h
  obtain ⟨g14, h⟩ := ob_gd h
  refine x_iald C0 hP.1 (lay_dy (P0 + 1) ct en15) g14 dL_begin_412 ?_
  obtain ⟨r16, hr16, h⟩ := ob_bd h
  obtain ⟨g17, h⟩ := ob_gd h
  refine nl_Iw (kV (As := [.int 0, .int 1, .int (gi S7 q9 (0 : Int32).toNatClampNeg), .int (gi S7 q13 (1 : Int32).toNatClampNeg)]) C0 (c_X11_keep l 0 1 (gi S7 q9 (0 : Int32).toNatClampNeg) (gi S7 q13 (1 : Int32).toNatClampNeg) hr16) ⟨wd_351, wd_348, wd_349, wd_350, wd_1⟩ kd_X11_keep ⟨Nat.le_of_ble_eq_true rfl, Nat.le_of_ble_eq_true rfl⟩ hP.1 (lay_X11 (P0 + 1) ct S7) rfl rfl hl.1 rfl (Nat.le_of_ble_eq_true rfl) dL_begin_413 ⟨by show _ + _ ≤ 235; omega, by show _ + _ ≤ 2350; omega⟩) hP g17 hS (fun H locs hP hS => ?_)
  refine lv_if_ne (tgt := 468) hx hb dL_begin_416 (by decide) (fun z18 => ?_) (fun z18 => ?_)
  · have h := ob_f h z18
    refine lv_iconst (v := 0) hx hb dL_begin_468 (by decide) ?_
    refine W.widen (k := 235) (n := 2350) (by omega) (by omega) ?_
    exact rl_Zw C0 hP hS bool_0 h dL_begin_469
  · have h := ob_t h z18
    refine lv_aload_n hx hb dL_begin_419 rfl (lv_at hl 0 rfl) ?_
    refine xl_get (v := .ref (P0 + 1 + 0)) C0 hP 0 (by decide) wd_249 rfl rfl dL_begin_420 ?_
    refine lv_iconst (v := 0) hx hb dL_begin_423 (by decide) ?_
    refine lv_aload_n hx hb dL_begin_424 rfl (lv_at hl 0 rfl) ?_
    refine xl_get (v := .ref (P0 + 1 + 136)) C0 hP 2 (by decide) wd_251 rfl rfl dL_begin_425 ?_
    refine lv_iload hx hb dL_begin_428 (lv_at hl 4 rfl) ?_
    obtain ⟨g19, h⟩ := ob_gd h
    obtain ⟨q20, eq20, h⟩ := ob_bd h
    refine x_aald (v := .ref (P0 + 1 + q20)) C0 hP.1 (lay_136 (P0 + 1) ct r16.2) rfl rfl g19 (by show va_rf ((gr r16.2 136 v5.toNatClampNeg).map (P0 + 1 + ·)) = _; rw [eq20]; rfl) dL_begin_430 ?_
    refine lv_iconst (v := 2) hx hb dL_begin_431 (by decide) ?_
    obtain ⟨n22, en22, h⟩ := ob_bd h
    obtain ⟨g21, h⟩ := ob_gd h
    refine x_iald C0 hP.1 (lay_dy (P0 + 1) ct en22) g21 dL_begin_432 ?_
    refine lv_aload_n hx hb dL_begin_433 rfl (lv_at hl 0 rfl) ?_
    refine xl_get (v := .ref (P0 + 1 + 136)) C0 hP 2 (by decide) wd_251 rfl rfl dL_begin_434 ?_
    refine lv_iload hx hb dL_begin_437 (lv_at hl 4 rfl) ?_
    obtain ⟨g23, h⟩ := ob_gd h
    obtain ⟨q24, eq24, h⟩ := ob_bd h
    refine x_aald (v := .ref (P0 + 1 + q24)) C0 hP.1 (lay_136 (P0 + 1) ct r16.2) rfl rfl g23 (by show va_rf ((gr r16.2 136 v5.toNatClampNeg).map (P0 + 1 + ·)) = _; rw [eq24]; rfl) dL_begin_439 ?_
    refine lv_iconst (v := 3) hx hb dL_begin_440 (by decide) ?_
    obtain ⟨n26, en26, h⟩ := ob_bd h
    obtain ⟨g25, h⟩ := ob_gd h
    refine x_iald C0 hP.1 (lay_dy (P0 + 1) ct en26) g25 dL_begin_441 ?_
    refine lv_aload_n hx hb dL_begin_442 rfl (lv_at hl 0 rfl) ?_
    refine xl_get (v := .ref (P0 + 1 + 136)) C0 hP 2 (by decide) wd_251 rfl rfl dL_begin_443 ?_
    refine lv_iload hx hb dL_begin_446 (lv_at hl 4 rfl) ?_
    obtain ⟨g27, h⟩ := ob_gd h
    obtain ⟨q28, eq28, h⟩ := ob_bd h
    refine x_aald (v := .ref (P0 + 1 + q28)) C0 hP.1 (lay_136 (P0 + 1) ct r16.2) rfl rfl g27 (by show va_rf ((gr r16.2 136 v5.toNatClampNeg).map (P0 + 1 + ·)) = _; rw [eq28]; rfl) dL_begin_448 ?_
    refine lv_iconst (v := 4) hx hb dL_begin_449 (by decide) ?_
    obtain ⟨n30, en30, h⟩ := ob_bd h
    obtain ⟨g29, h⟩ := ob_gd h
    refine x_iald C0 hP.1 (lay_dy (P0 + 1) ct en30) g29 dL_begin_450 ?_
    refine lv_aload_n hx hb dL_begin_451 rfl (lv_at hl 0 rfl) ?_
    refine xl_get (v := .ref (P0 + 1 + 136)) C0 hP 2 (by decide) wd_251 rfl rfl dL_begin_452 ?_
    refine lv_iload hx hb dL_begin_455 (lv_at hl 4 rfl) ?_
    obtain ⟨g31, h⟩ := ob_gd h
    obtain ⟨q32, eq32, h⟩ := ob_bd h
    refine x_aald (v := .ref (P0 + 1 + q32)) C0 hP.1 (lay_136 (P0 + 1) ct r16.2) rfl rfl g31 (by show va_rf ((gr r16.2 136 v5.toNatClampNeg).map (P0 + 1 + ·)) = _; rw [eq32]; rfl) dL_begin_457 ?_
    refine lv_iconst (v := 5) hx hb dL_begin_458 (by decide) ?_
    obtain ⟨n34, en34, h⟩ := ob_bd h
    obtain ⟨g33, h⟩ := ob_gd h
    refine x_iald C0 hP.1 (lay_dy (P0 + 1) ct en34) g33 dL_begin_459 ?_
    obtain ⟨r35, hr35, h⟩ := ob_bd h
    obtain ⟨g36, h⟩ := ob_gd h
    refine nl_Iw (kV (As := [.int 0, .int (gi r16.2 q20 (2 : Int32).toNatClampNeg), .int (gi r16.2 q24 (3 : Int32).toNatClampNeg), .int (gi r16.2 q28 (4 : Int32).toNatClampNeg), .int (gi r16.2 q32 (5 : Int32).toNatClampNeg)]) C0 (c_X11_comes l 0 (gi r16.2 q20 (2 : Int32).toNatClampNeg) (gi r16.2 q24 (3 : Int32).toNatClampNeg) (gi r16.2 q28 (4 : Int32).toNatClampNeg) (gi r16.2 q32 (5 : Int32).toNatClampNeg) hr35) ⟨wd_424, wd_421, wd_422, wd_423, wd_1⟩ kd_X11_comes ⟨Nat.le_of_ble_eq_true rfl, Nat.le_of_ble_eq_true rfl⟩ hP.1 (lay_X11 (P0 + 1) ct r16.2) rfl rfl hl.1 rfl (Nat.le_of_ble_eq_true rfl) dL_begin_460 ⟨by show _ + _ ≤ 235; omega, by show _ + _ ≤ 2350; omega⟩) hP g36 hS (fun H locs hP hS => ?_)
    refine lv_iload hx hb dL_begin_463 (lv_at hl 4 rfl) ?_
    refine lv_icmp_eq (tgt := 470) hx hb dL_begin_465 (by decide) (fun z37 => ?_) (fun z37 => ?_)
    · have h := ob_t h z37
      refine lv_iinc (v := v5 + 1) (lv' := [(5, .int (v5 + 1)), (0, .ref P0), (1, .ref xb), (2, .int v2), (4, .int v4)]) hx hb dL_begin_470 hl (k := 4) rfl rfl (by decide) rfl (fun ls hl => ?_)
      refine lv_goto (tgt := 219) hx hb dL_begin_473 (by decide) ?_
      exact ih0 v2 v4 (v5 + 1) r35.2 _ _ _ _ _ h hP hS (lv_sub hl [1, 2, 3, 4, 0] rfl) ⟨by omega, by omega⟩
    · have h := ob_f h z37
      refine lv_iconst (v := 0) hx hb dL_begin_468 (by decide) ?_
      refine W.widen (k := 235) (n := 2350) (by omega) (by omega) ?_
      exact rl_Zw C0 hP hS bool_0 h dL_begin_469
set_option maxRecDepth 100000 in
set_option maxHeartbeats 4000000 in
theorem w_L_begin_328 (l : Launch) {V : Int32 × St} (C0 : XC D ct p s m args meth c cL_begin 10 (some .boolean) RL) (xL : Nat) (xs : Nat → Int32) (hE : XS xb xL xs adK adV P0 s) (n0 : Nat) (ih0 : ∀ (v2 : Int32) (v4 : Int32) (v5 : Int32) (S : St) (H : Heap) (locs : List Loc) (ls : Array Slot) (cells slots : Nat), (lp n0 (l_L_begin_219 xL xs) (v2, v4, v5, S)).bind some = some V → ML D ct P0 Hb S H → va_S (AB P0) s.heap H locs → lv_has ls 10 [(0, .ref P0), (1, .ref xb), (2, .int v2), (4, .int v4), (5, .int v5)] → (cells + (n0 * 2 + 210) ≤ 235 ∧ slots + 10 * (n0 * 2 + 210) ≤ 2350) → W p l e { frames := 10, cells := 235, slots := 2350, locals := 222 } s m args below meth c H locs cells slots (MQ below (qLIw D ct P0 Hb V) args s 235 2350 (AB P0)) (F0 m 219 ls [])) (v2 : Int32) (v4 : Int32) (v5 : Int32) (v7 : Int32) (s0 : Int32) (s1 : Int32) (s2 : Nat) (s3 : Nat) (s4 : Int32) (S : St) {H : Heap} {locs : List Loc} {ls : Array Slot} {cells slots : Nat} (h : (b_L_begin_328 xL xs v2 v4 v5 v7 s0 s1 s2 s3 s4 S).bind (lpF n0 (l_L_begin_219 xL xs) some) = some V) (hP : ML D ct P0 Hb S H) (hS : va_S (AB P0) s.heap H locs) (hl : lv_has ls 10 [(0, .ref P0), (1, .ref xb), (2, .int v2), (4, .int v4), (5, .int v5), (7, .int v7)]) (hc : cells + (1 + (n0 * 2 + 210)) ≤ 235 ∧ slots + 10 * (1 + (n0 * 2 + 210)) ≤ 2350) : W p l e { frames := 10, cells := 235, slots := 2350, locals := 222 } s m args below meth c H locs cells slots (MQ below (qLIw D ct P0 Hb V) args s 235 2350 (AB P0)) (F0 m 328 ls [.int s0, .int s1, .ref (P0 + 1 + s2), .ref (P0 + 1 + s3), .int s4, .ref (P0 + 1 + 136)]) := by
  obtain ⟨hx, hb, hr, hml, hown, hts, hK, hlocks, hN⟩ := id C0
  unfold b_L_begin_328 at h
  obtain ⟨n1, en1, h⟩ := ob_bd h
  obtain ⟨g2, h⟩ := ob_gd h
  obtain ⟨S3, eS3, h⟩ := ob_nm h
  refine xl_iast C0 hP hS en1 g2 dL_begin_328 (fun H locs hP hS => ?_)
  rw [← eS3] at hP
  refine lv_dup hx hb dL_begin_329 rfl ?_
  refine lv_iconst (v := 4) hx hb dL_begin_330 (by decide) ?_
  refine lv_iload hx hb dL_begin_331 (lv_at hl 5 rfl) ?_
  refine lv_bipush (v := 48) hx hb dL_begin_333 (by decide) ?_
  refine lv_idiv hx hb dL_begin_335 (by decide) ?_
  refine lv_bipush (v := 19) hx hb dL_begin_336 (by decide) ?_
  refine lv_irem hx hb dL_begin_338 (by decide) ?_
  refine lv_bipush (v := 9) hx hb dL_begin_339 (by decide) ?_
  refine lv_isub hx hb dL_begin_341 ?_
  obtain ⟨n6, en6, h⟩ := ob_bd h
  obtain ⟨g7, h⟩ := ob_gd h
  obtain ⟨S8, eS8, h⟩ := ob_nm h
  refine xl_iast C0 hP hS en6 g7 dL_begin_342 (fun H locs hP hS => ?_)
  rw [← eS8] at hP
  refine lv_dup hx hb dL_begin_343 rfl ?_
  refine lv_iconst (v := 5) hx hb dL_begin_344 (by decide) ?_
  refine lv_iload hx hb dL_begin_345 (lv_at hl 5 rfl) ?_
  refine lv_sipush (v := 912) hx hb dL_begin_347 (by decide) ?_
  refine lv_idiv hx hb dL_begin_350 (by decide) ?_
  refine lv_iconst (v := 4) hx hb dL_begin_351 (by decide) ?_
  refine lv_irem hx hb dL_begin_352 (by decide) ?_
  refine lv_if_ne (tgt := 368) hx hb dL_begin_353 (by decide) (fun z11 => ?_) (fun z11 => ?_)
  · have h := ob_f h z11
    refine lv_iload hx hb dL_begin_368 (lv_at hl 5 rfl) ?_
    refine lv_sipush (v := 3648) hx hb dL_begin_370 (by decide) ?_
    refine lv_idiv hx hb dL_begin_373 (by decide) ?_
    refine lv_bipush (v := 20) hx hb dL_begin_374 (by decide) ?_
    refine lv_irem hx hb dL_begin_376 (by decide) ?_
    exact w_L_begin_377 l C0 xL xs hE n0 ih0 v2 v4 v5 ((v7 / 3648) - (v7 / 3648) / 20 * 20) 5 s3 s3 s4 S8 h hP hS (lv_sub hl [0, 1, 2, 3, 4] rfl) ⟨by omega, by omega⟩
  · have h := ob_t h z11
    refine lv_iload hx hb dL_begin_356 (lv_at hl 5 rfl) ?_
    refine lv_sipush (v := 3648) hx hb dL_begin_358 (by decide) ?_
    refine lv_idiv hx hb dL_begin_361 (by decide) ?_
    refine lv_bipush (v := 100) hx hb dL_begin_362 (by decide) ?_
    refine lv_irem hx hb dL_begin_364 (by decide) ?_
    refine lv_goto (tgt := 377) hx hb dL_begin_365 (by decide) ?_
    exact w_L_begin_377 l C0 xL xs hE n0 ih0 v2 v4 v5 ((v7 / 3648) - (v7 / 3648) / 100 * 100) 5 s3 s3 s4 S8 h hP hS (lv_sub hl [0, 1, 2, 3, 4] rfl) ⟨by omega, by omega⟩
set_option maxRecDepth 100000 in
set_option maxHeartbeats 4000000 in
theorem w_L_begin_219 (l : Launch) {V : Int32 × St} (C0 : XC D ct p s m args meth c cL_begin 10 (some .boolean) RL) (xL : Nat) (xs : Nat → Int32) (hE : XS xb xL xs adK adV P0 s) (n0 : Nat) (ih0 : ∀ (v2 : Int32) (v4 : Int32) (v5 : Int32) (S : St) (H : Heap) (locs : List Loc) (ls : Array Slot) (cells slots : Nat), (lp n0 (l_L_begin_219 xL xs) (v2, v4, v5, S)).bind some = some V → ML D ct P0 Hb S H → va_S (AB P0) s.heap H locs → lv_has ls 10 [(0, .ref P0), (1, .ref xb), (2, .int v2), (4, .int v4), (5, .int v5)] → (cells + (n0 * 2 + 210) ≤ 235 ∧ slots + 10 * (n0 * 2 + 210) ≤ 2350) → W p l e { frames := 10, cells := 235, slots := 2350, locals := 222 } s m args below meth c H locs cells slots (MQ below (qLIw D ct P0 Hb V) args s 235 2350 (AB P0)) (F0 m 219 ls [])) (v2 : Int32) (v4 : Int32) (v5 : Int32) (S : St) {H : Heap} {locs : List Loc} {ls : Array Slot} {cells slots : Nat} (h : (b_L_begin_219 xL xs v2 v4 v5 S).bind (lpF n0 (l_L_begin_219 xL xs) some) = some V) (hP : ML D ct P0 Hb S H) (hS : va_S (AB P0) s.heap H locs) (hl : lv_has ls 10 [(0, .ref P0), (1, .ref xb), (2, .int v2), (4, .int v4), (5, .int v5)]) (hc : cells + ((n0 + 1) * 2 + 210) ≤ 235 ∧ slots + 10 * ((n0 + 1) * 2 + 210) ≤ 2350) : W p l e { frames := 10, cells := 235, slots := 2350, locals := 222 } s m args below meth c H locs cells slots (MQ below (qLIw D ct P0 Hb V) args s 235 2350 (AB P0)) (F0 m 219 ls []) := by
  obtain ⟨hx, hb, hr, hml, hown, hts, hK, hlocks, hN⟩ := id C0
  unfold b_L_begin_219 at h
  refine lv_iload hx hb dL_begin_219 (lv_at hl 4 rfl) ?_
  refine lv_iload hx hb dL_begin_221 (lv_at hl 3 rfl) ?_
  refine lv_icmp_ge (tgt := 476) hx hb dL_begin_223 (by decide) (fun z1 => ?_) (fun z1 => ?_)
  · have h := ob_t h z1
    have h := ob_mp h
    exact w_L_begin_476 l C0 xL xs hE v2 S h hP hS (lv_sub hl [0, 1, 2] rfl) ⟨by omega, by omega⟩
  · have h := ob_f h z1
    refine lv_aload_n hx hb dL_begin_226 rfl (lv_at hl 1 rfl) ?_
    refine lv_iload_n hx hb dL_begin_227 rfl (lv_at hl 2 rfl) ?_
    refine lv_bipush (v := 8) hx hb dL_begin_228 (by decide) ?_
    refine lv_iadd hx hb dL_begin_230 ?_
    refine lv_iload hx hb dL_begin_231 (lv_at hl 4 rfl) ?_
    refine lv_iadd hx hb dL_begin_233 ?_
    obtain ⟨r2, hr2, h⟩ := ob_bd h
    refine nL_I (kLS (As := [.ref xb, .int ((v2 + 8) + v5)]) C0 hE hS (c_L_cell l xL xs ((v2 + 8) + v5) hr2) ⟨wd_325, wd_323, wd_324, wd_0⟩ kd_L_cell ⟨Nat.le_of_ble_eq_true rfl, Nat.le_of_ble_eq_true rfl⟩ hP rfl hl.1 rfl (Nat.le_of_ble_eq_true rfl) dL_begin_234 ⟨by show _ + _ ≤ 235; omega, by show _ + _ ≤ 2350; omega⟩) hS (fun H locs hP hS => ?_)
    refine lv_ldc (v := 2147483647) hx hb hown (hts _ wd_327) dL_begin_237 ?_
    refine lv_iand hx hb dL_begin_239 ?_
    refine lv_istore (lv' := [(6, .int (r2 &&& 2147483647)), (0, .ref P0), (1, .ref xb), (2, .int v2), (4, .int v4), (5, .int v5)]) hx hb dL_begin_240 hl (by decide) rfl (fun ls hl => ?_)
    refine lv_aload_n hx hb dL_begin_242 rfl (lv_at hl 2 rfl) ?_
    refine lv_iload_n hx hb dL_begin_243 rfl (lv_at hl 3 rfl) ?_
    refine lv_bipush (v := 16) hx hb dL_begin_244 (by decide) ?_
    refine lv_iadd hx hb dL_begin_246 ?_
    refine lv_iload hx hb dL_begin_247 (lv_at hl 5 rfl) ?_
    refine lv_iadd hx hb dL_begin_249 ?_
    obtain ⟨r3, hr3, h⟩ := ob_bd h
    refine nL_I (kLS (As := [.ref xb, .int ((v2 + 16) + v5)]) C0 hE hS (c_L_cell l xL xs ((v2 + 16) + v5) hr3) ⟨wd_325, wd_323, wd_324, wd_0⟩ kd_L_cell ⟨Nat.le_of_ble_eq_true rfl, Nat.le_of_ble_eq_true rfl⟩ hP rfl hl.1 rfl (Nat.le_of_ble_eq_true rfl) dL_begin_250 ⟨by show _ + _ ≤ 235; omega, by show _ + _ ≤ 2350; omega⟩) hS (fun H locs hP hS => ?_)
    refine lv_ldc (v := 2147483647) hx hb hown (hts _ wd_327) dL_begin_253 ?_
    refine lv_iand hx hb dL_begin_255 ?_
    refine lv_istore (lv' := [(7, .int (r3 &&& 2147483647)), (6, .int (r2 &&& 2147483647)), (0, .ref P0), (1, .ref xb), (2, .int v2), (4, .int v4), (5, .int v5)]) hx hb dL_begin_256 hl (by decide) rfl (fun ls hl => ?_)
    refine lv_aload_n hx hb dL_begin_258 rfl (lv_at hl 2 rfl) ?_
    refine xl_get (v := .ref (P0 + 1 + 136)) C0 hP 2 (by decide) wd_251 rfl rfl dL_begin_259 ?_
    refine lv_iload hx hb dL_begin_262 (lv_at hl 6 rfl) ?_
    refine lv_bipush (v := 6) hx hb dL_begin_264 (by decide) ?_
    obtain ⟨g4, h⟩ := ob_gd h
    obtain ⟨k5, ek5, h⟩ := ob_nm h
    obtain ⟨S6, eS6, h⟩ := ob_nm h
    refine xl_newI (N := 6) C0 hP hS wd_142 (of_decide_eq_true g4) (by decide) (by decide) (by decide) (by show _ + _ ≤ 235; omega) (by show _ + _ ≤ 2350; omega) dL_begin_266 (fun H hP hS => ?_)
    rw [← ek5]
    rw [← eS6] at hP
    refine lv_dup hx hb dL_begin_268 rfl ?_
    refine lv_iconst (v := 0) hx hb dL_begin_269 (by decide) ?_
    refine lv_iload hx hb dL_begin_270 (lv_at hl 1 rfl) ?_
    refine lv_bipush (v := 8) hx hb dL_begin_272 (by decide) ?_
    refine lv_irem hx hb dL_begin_274 (by decide) ?_
    obtain ⟨n8, en8, h⟩ := ob_bd h
    obtain ⟨g9, h⟩ := ob_gd h
    obtain ⟨S10, eS10, h⟩ := ob_nm h
    refine xl_iast C0 hP hS en8 g9 dL_begin_275 (fun H locs hP hS => ?_)
    rw [← eS10] at hP
    refine lv_dup hx hb dL_begin_276 rfl ?_
    refine lv_iconst (v := 1) hx hb dL_begin_277 (by decide) ?_
    refine lv_iload hx hb dL_begin_278 (lv_at hl 1 rfl) ?_
    refine lv_bipush (v := 8) hx hb dL_begin_280 (by decide) ?_
    refine lv_idiv hx hb dL_begin_282 (by decide) ?_
    refine lv_bipush (v := 10) hx hb dL_begin_283 (by decide) ?_
    refine lv_irem hx hb dL_begin_285 (by decide) ?_
    obtain ⟨n13, en13, h⟩ := ob_bd h
    obtain ⟨g14, h⟩ := ob_gd h
    obtain ⟨S15, eS15, h⟩ := ob_nm h
    refine xl_iast C0 hP hS en13 g14 dL_begin_286 (fun H locs hP hS => ?_)
    rw [← eS15] at hP
    refine lv_dup hx hb dL_begin_287 rfl ?_
    refine lv_iconst (v := 2) hx hb dL_begin_288 (by decide) ?_
    refine lv_iload hx hb dL_begin_289 (lv_at hl 1 rfl) ?_
    refine lv_bipush (v := 80) hx hb dL_begin_291 (by decide) ?_
    refine lv_idiv hx hb dL_begin_293 (by decide) ?_
    refine lv_iconst (v := 5) hx hb dL_begin_294 (by decide) ?_
    refine lv_irem hx hb dL_begin_295 (by decide) ?_
    refine lv_iconst (v := 3) hx hb dL_begin_296 (by decide) ?_
    refine lv_irem hx hb dL_begin_297 (by decide) ?_
    obtain ⟨n19, en19, h⟩ := ob_bd h
    obtain ⟨g20, h⟩ := ob_gd h
    obtain ⟨S21, eS21, h⟩ := ob_nm h
    refine xl_iast C0 hP hS en19 g20 dL_begin_298 (fun H locs hP hS => ?_)
    rw [← eS21] at hP
    refine lv_dup hx hb dL_begin_299 rfl ?_
    refine lv_iconst (v := 3) hx hb dL_begin_300 (by decide) ?_
    refine lv_iload hx hb dL_begin_301 (lv_at hl 0 rfl) ?_
    refine lv_iconst (v := 2) hx hb dL_begin_303 (by decide) ?_
    refine lv_irem hx hb dL_begin_304 (by decide) ?_
    refine lv_if_ne (tgt := 318) hx hb dL_begin_305 (by decide) (fun z23 => ?_) (fun z23 => ?_)
    · have h := ob_f h z23
      refine lv_bipush (v := 8) hx hb dL_begin_318 (by decide) ?_
      refine lv_iload hx hb dL_begin_320 (lv_at hl 0 rfl) ?_
      refine lv_iconst (v := 2) hx hb dL_begin_322 (by decide) ?_
      refine lv_idiv hx hb dL_begin_323 (by decide) ?_
      refine lv_bipush (v := 14) hx hb dL_begin_324 (by decide) ?_
      refine lv_irem hx hb dL_begin_326 (by decide) ?_
      refine lv_iadd hx hb dL_begin_327 ?_
      exact w_L_begin_328 l C0 xL xs hE n0 ih0 v2 v4 v5 (r3 &&& 2147483647) (8 + (((r3 &&& 2147483647) / 2) - ((r3 &&& 2147483647) / 2) / 14 * 14)) 3 k5 k5 v5 S21 h hP hS (lv_sub hl [2, 3, 4, 5, 6, 0] rfl) ⟨by omega, by omega⟩
    · have h := ob_t h z23
      refine lv_iload hx hb dL_begin_308 (lv_at hl 0 rfl) ?_
      refine lv_iconst (v := 2) hx hb dL_begin_310 (by decide) ?_
      refine lv_idiv hx hb dL_begin_311 (by decide) ?_
      refine lv_bipush (v := 24) hx hb dL_begin_312 (by decide) ?_
      refine lv_irem hx hb dL_begin_314 (by decide) ?_
      refine lv_goto (tgt := 328) hx hb dL_begin_315 (by decide) ?_
      exact w_L_begin_328 l C0 xL xs hE n0 ih0 v2 v4 v5 (r3 &&& 2147483647) (((r3 &&& 2147483647) / 2) - ((r3 &&& 2147483647) / 2) / 24 * 24) 3 k5 k5 v5 S21 h hP hS (lv_sub hl [2, 3, 4, 5, 6, 0] rfl) ⟨by omega, by omega⟩
set_option maxRecDepth 100000 in
set_option maxHeartbeats 4000000 in
theorem wl_L_begin_219 (l : Launch) {V : Int32 × St} (C0 : XC D ct p s m args meth c cL_begin 10 (some .boolean) RL) (xL : Nat) (xs : Nat → Int32) (hE : XS xb xL xs adK adV P0 s)  : ∀ (n0 : Nat) (v2 : Int32) (v4 : Int32) (v5 : Int32) (S : St) {H : Heap} {locs : List Loc} {ls : Array Slot} {cells slots : Nat}, (lp n0 (l_L_begin_219 xL xs) (v2, v4, v5, S)).bind some = some V → ML D ct P0 Hb S H → va_S (AB P0) s.heap H locs → lv_has ls 10 [(0, .ref P0), (1, .ref xb), (2, .int v2), (4, .int v4), (5, .int v5)] → (cells + (n0 * 2 + 210) ≤ 235 ∧ slots + 10 * (n0 * 2 + 210) ≤ 2350) → W p l e { frames := 10, cells := 235, slots := 2350, locals := 222 } s m args below meth c H locs cells slots (MQ below (qLIw D ct P0 Hb V) args s 235 2350 (AB P0)) (F0 m 219 ls []) := by
  intro n0
  induction n0 with
  | zero =>
    intro v2 v4 v5 S H locs ls cells slots h hP hS hl hc
    exact (lp_0 h).elim
  | succ n0 ih0 =>
    intro v2 v4 v5 S H locs ls cells slots h hP hS hl hc
    have h := lp_s h
    exact w_L_begin_219 l C0 xL xs hE n0 (fun v2 v4 v5 S H locs ls cells slots h hP hS hl hc => ih0 v2 v4 v5 S h hP hS hl hc) v2 v4 v5 S h hP hS hl ⟨by omega, by omega⟩
set_option maxRecDepth 100000 in
set_option maxHeartbeats 4000000 in
theorem w_L_begin_204 (l : Launch) {V : Int32 × St} (C0 : XC D ct p s m args meth c cL_begin 10 (some .boolean) RL) (xL : Nat) (xs : Nat → Int32) (hE : XS xb xL xs adK adV P0 s) (v2 : Int32) (S : St) {H : Heap} {locs : List Loc} {ls : Array Slot} {cells slots : Nat} (h : (b_L_begin_204 xL xs v2 S).bind some = some V) (hP : ML D ct P0 Hb S H) (hS : va_S (AB P0) s.heap H locs) (hl : lv_has ls 10 [(0, .ref P0), (1, .ref xb), (2, .int v2)]) (hc : cells + 228 ≤ 235 ∧ slots + 10 * 228 ≤ 2350) : W p l e { frames := 10, cells := 235, slots := 2350, locals := 222 } s m args below meth c H locs cells slots (MQ below (qLIw D ct P0 Hb V) args s 235 2350 (AB P0)) (F0 m 204 ls []) := by
  obtain ⟨hx, hb, hr, hml, hown, hts, hK, hlocks, hN⟩ := id C0
  unfold b_L_begin_204 at h
  refine lv_aload_n hx hb dL_begin_204 rfl (lv_at hl 1 rfl) ?_
  refine lv_iload_n hx hb dL_begin_205 rfl (lv_at hl 2 rfl) ?_
  refine lv_bipush (v := 7) hx hb dL_begin_206 (by decide) ?_
  refine lv_iadd hx hb dL_begin_208 ?_
  refine lv_bipush (v := 9) hx hb dL_begin_209 (by decide) ?_
  obtain ⟨r1, hr1, h⟩ := ob_bd h
  refine nL_I (kLS (As := [.ref xb, .int (v2 + 7), .int 9]) C0 hE hS (c_L_some l xL xs (v2 + 7) 9 hr1) ⟨wd_322, wd_320, wd_321, wd_0⟩ kd_L_some ⟨Nat.le_of_ble_eq_true rfl, Nat.le_of_ble_eq_true rfl⟩ hP rfl hl.1 rfl (Nat.le_of_ble_eq_true rfl) dL_begin_211 ⟨by show _ + _ ≤ 235; omega, by show _ + _ ≤ 2350; omega⟩) hS (fun H locs hP hS => ?_)
  refine lv_istore (lv' := [(4, .int r1), (0, .ref P0), (1, .ref xb), (2, .int v2)]) hx hb dL_begin_214 hl (by decide) rfl (fun ls hl => ?_)
  refine lv_iconst (v := 0) hx hb dL_begin_216 (by decide) ?_
  refine lv_istore (lv' := [(5, .int 0), (4, .int r1), (0, .ref P0), (1, .ref xb), (2, .int v2)]) hx hb dL_begin_217 hl (by decide) rfl (fun ls hl => ?_)
  exact wl_L_begin_219 l C0 xL xs hE 9 v2 r1 0 S h hP hS (lv_sub hl [2, 3, 4, 1, 0] rfl) ⟨by omega, by omega⟩
set_option maxRecDepth 100000 in
set_option maxHeartbeats 4000000 in
theorem w_L_begin_198 (l : Launch) {V : Int32 × St} (C0 : XC D ct p s m args meth c cL_begin 10 (some .boolean) RL) (xL : Nat) (xs : Nat → Int32) (hE : XS xb xL xs adK adV P0 s) (n0 : Nat) (ih0 : ∀ (v2 : Int32) (v3 : Int32) (v4 : Int32) (S : St) (H : Heap) (locs : List Loc) (ls : Array Slot) (cells slots : Nat), (lp n0 (l_L_begin_11 xL xs) (v2, v3, v4, S)).bind some = some V → ML D ct P0 Hb S H → va_S (AB P0) s.heap H locs → lv_has ls 10 [(0, .ref P0), (1, .ref xb), (2, .int v2), (3, .int v3), (4, .int v4)] → (cells + (n0 * 1 + 228) ≤ 235 ∧ slots + 10 * (n0 * 1 + 228) ≤ 2350) → W p l e { frames := 10, cells := 235, slots := 2350, locals := 222 } s m args below meth c H locs cells slots (MQ below (qLIw D ct P0 Hb V) args s 235 2350 (AB P0)) (F0 m 11 ls [])) (v2 : Int32) (v3 : Int32) (v4 : Int32) (S : St) {H : Heap} {locs : List Loc} {ls : Array Slot} {cells slots : Nat} (h : (b_L_begin_198 xL xs v2 v3 v4 S).bind (lpF n0 (l_L_begin_11 xL xs) some) = some V) (hP : ML D ct P0 Hb S H) (hS : va_S (AB P0) s.heap H locs) (hl : lv_has ls 10 [(0, .ref P0), (1, .ref xb), (2, .int v2), (3, .int v3), (4, .int v4)]) (hc : cells + (0 + (n0 * 1 + 228)) ≤ 235 ∧ slots + 10 * (0 + (n0 * 1 + 228)) ≤ 2350) : W p l e { frames := 10, cells := 235, slots := 2350, locals := 222 } s m args below meth c H locs cells slots (MQ below (qLIw D ct P0 Hb V) args s 235 2350 (AB P0)) (F0 m 198 ls []) := by
  obtain ⟨hx, hb, hr, hml, hown, hts, hK, hlocks, hN⟩ := id C0
  unfold b_L_begin_198 at h
  refine lv_iinc (v := v4 + 1) (lv' := [(4, .int (v4 + 1)), (0, .ref P0), (1, .ref xb), (2, .int v2), (3, .int v3)]) hx hb dL_begin_198 hl (k := 4) rfl rfl (by decide) rfl (fun ls hl => ?_)
  refine lv_goto (tgt := 11) hx hb dL_begin_201 (by decide) ?_
  exact ih0 v2 v3 (v4 + 1) S _ _ _ _ _ h hP hS (lv_sub hl [1, 2, 3, 4, 0] rfl) ⟨by omega, by omega⟩
set_option maxRecDepth 100000 in
set_option maxHeartbeats 4000000 in
theorem w_L_begin_11 (l : Launch) {V : Int32 × St} (C0 : XC D ct p s m args meth c cL_begin 10 (some .boolean) RL) (xL : Nat) (xs : Nat → Int32) (hE : XS xb xL xs adK adV P0 s) (n0 : Nat) (ih0 : ∀ (v2 : Int32) (v3 : Int32) (v4 : Int32) (S : St) (H : Heap) (locs : List Loc) (ls : Array Slot) (cells slots : Nat), (lp n0 (l_L_begin_11 xL xs) (v2, v3, v4, S)).bind some = some V → ML D ct P0 Hb S H → va_S (AB P0) s.heap H locs → lv_has ls 10 [(0, .ref P0), (1, .ref xb), (2, .int v2), (3, .int v3), (4, .int v4)] → (cells + (n0 * 1 + 228) ≤ 235 ∧ slots + 10 * (n0 * 1 + 228) ≤ 2350) → W p l e { frames := 10, cells := 235, slots := 2350, locals := 222 } s m args below meth c H locs cells slots (MQ below (qLIw D ct P0 Hb V) args s 235 2350 (AB P0)) (F0 m 11 ls [])) (v2 : Int32) (v3 : Int32) (v4 : Int32) (S : St) {H : Heap} {locs : List Loc} {ls : Array Slot} {cells slots : Nat} (h : (b_L_begin_11 xL xs v2 v3 v4 S).bind (lpF n0 (l_L_begin_11 xL xs) some) = some V) (hP : ML D ct P0 Hb S H) (hS : va_S (AB P0) s.heap H locs) (hl : lv_has ls 10 [(0, .ref P0), (1, .ref xb), (2, .int v2), (3, .int v3), (4, .int v4)]) (hc : cells + ((n0 + 1) * 1 + 228) ≤ 235 ∧ slots + 10 * ((n0 + 1) * 1 + 228) ≤ 2350) : W p l e { frames := 10, cells := 235, slots := 2350, locals := 222 } s m args below meth c H locs cells slots (MQ below (qLIw D ct P0 Hb V) args s 235 2350 (AB P0)) (F0 m 11 ls []) := by
  obtain ⟨hx, hb, hr, hml, hown, hts, hK, hlocks, hN⟩ := id C0
  unfold b_L_begin_11 at h
  refine lv_iload hx hb dL_begin_11 (lv_at hl 4 rfl) ?_
  refine lv_iload_n hx hb dL_begin_13 rfl (lv_at hl 3 rfl) ?_
  refine lv_icmp_ge (tgt := 204) hx hb dL_begin_14 (by decide) (fun z1 => ?_) (fun z1 => ?_)
  · have h := ob_t h z1
    have h := ob_mp h
    exact w_L_begin_204 l C0 xL xs hE v2 S h hP hS (lv_sub hl [0, 1, 2] rfl) ⟨by omega, by omega⟩
  · have h := ob_f h z1
    refine lv_aload_n hx hb dL_begin_17 rfl (lv_at hl 1 rfl) ?_
    refine lv_iload_n hx hb dL_begin_18 rfl (lv_at hl 2 rfl) ?_
    refine lv_iconst (v := 1) hx hb dL_begin_19 (by decide) ?_
    refine lv_iadd hx hb dL_begin_20 ?_
    refine lv_iload hx hb dL_begin_21 (lv_at hl 4 rfl) ?_
    refine lv_iadd hx hb dL_begin_23 ?_
    obtain ⟨r2, hr2, h⟩ := ob_bd h
    refine nL_I (kLS (As := [.ref xb, .int ((v2 + 1) + v4)]) C0 hE hS (c_L_cell l xL xs ((v2 + 1) + v4) hr2) ⟨wd_325, wd_323, wd_324, wd_0⟩ kd_L_cell ⟨Nat.le_of_ble_eq_true rfl, Nat.le_of_ble_eq_true rfl⟩ hP rfl hl.1 rfl (Nat.le_of_ble_eq_true rfl) dL_begin_24 ⟨by show _ + _ ≤ 235; omega, by show _ + _ ≤ 2350; omega⟩) hS (fun H locs hP hS => ?_)
    refine lv_ldc (v := 2147483647) hx hb hown (hts _ wd_327) dL_begin_27 ?_
    refine lv_iand hx hb dL_begin_29 ?_
    refine lv_istore (lv' := [(5, .int (r2 &&& 2147483647)), (0, .ref P0), (1, .ref xb), (2, .int v2), (3, .int v3), (4, .int v4)]) hx hb dL_begin_30 hl (by decide) rfl (fun ls hl => ?_)
    refine lv_aload_n hx hb dL_begin_32 rfl (lv_at hl 1 rfl) ?_
    refine xl_get (v := .ref (P0 + 1 + 145)) C0 hP 4 (by decide) wd_253 rfl rfl dL_begin_33 ?_
    refine lv_iload hx hb dL_begin_36 (lv_at hl 5 rfl) ?_
    refine lv_iconst (v := 4) hx hb dL_begin_38 (by decide) ?_
    obtain ⟨g3, h⟩ := ob_gd h
    obtain ⟨k4, ek4, h⟩ := ob_nm h
    obtain ⟨S5, eS5, h⟩ := ob_nm h
    refine xl_newI (N := 4) C0 hP hS wd_142 (of_decide_eq_true g3) (by decide) (by decide) (by decide) (by show _ + _ ≤ 235; omega) (by show _ + _ ≤ 2350; omega) dL_begin_39 (fun H hP hS => ?_)
    rw [← ek4]
    rw [← eS5] at hP
    refine lv_dup hx hb dL_begin_41 rfl ?_
    refine lv_iconst (v := 0) hx hb dL_begin_42 (by decide) ?_
    refine lv_iload hx hb dL_begin_43 (lv_at hl 0 rfl) ?_
    refine lv_iconst (v := 3) hx hb dL_begin_45 (by decide) ?_
    refine lv_irem hx hb dL_begin_46 (by decide) ?_
    refine lv_iconst (v := 2) hx hb dL_begin_47 (by decide) ?_
    refine lv_irem hx hb dL_begin_48 (by decide) ?_
    refine lv_iload hx hb dL_begin_49 (lv_at hl 0 rfl) ?_
    refine lv_iconst (v := 3) hx hb dL_begin_51 (by decide) ?_
    refine lv_idiv hx hb dL_begin_52 (by decide) ?_
    refine lv_iconst (v := 2) hx hb dL_begin_53 (by decide) ?_
    refine lv_irem hx hb dL_begin_54 (by decide) ?_
    refine lv_iload hx hb dL_begin_55 (lv_at hl 0 rfl) ?_
    refine lv_iconst (v := 2) hx hb dL_begin_57 (by decide) ?_
    refine lv_irem hx hb dL_begin_58 (by decide) ?_
    refine lv_imul hx hb dL_begin_59 ?_
    refine lv_iadd hx hb dL_begin_60 ?_
    obtain ⟨n11, en11, h⟩ := ob_bd h
    obtain ⟨g12, h⟩ := ob_gd h
    obtain ⟨S13, eS13, h⟩ := ob_nm h
    refine xl_iast C0 hP hS en11 g12 dL_begin_61 (fun H locs hP hS => ?_)
    rw [← eS13] at hP
    refine lv_dup hx hb dL_begin_62 rfl ?_
    refine lv_iconst (v := 1) hx hb dL_begin_63 (by decide) ?_
    refine lv_iload hx hb dL_begin_64 (lv_at hl 0 rfl) ?_
    refine lv_bipush (v := 6) hx hb dL_begin_66 (by decide) ?_
    refine lv_idiv hx hb dL_begin_68 (by decide) ?_
    refine lv_bipush (v := 19) hx hb dL_begin_69 (by decide) ?_
    refine lv_irem hx hb dL_begin_71 (by decide) ?_
    refine lv_bipush (v := 9) hx hb dL_begin_72 (by decide) ?_
    refine lv_isub hx hb dL_begin_74 ?_
    obtain ⟨n16, en16, h⟩ := ob_bd h
    obtain ⟨g17, h⟩ := ob_gd h
    obtain ⟨S18, eS18, h⟩ := ob_nm h
    refine xl_iast C0 hP hS en16 g17 dL_begin_75 (fun H locs hP hS => ?_)
    rw [← eS18] at hP
    refine lv_dup hx hb dL_begin_76 rfl ?_
    refine lv_iconst (v := 2) hx hb dL_begin_77 (by decide) ?_
    refine lv_iload hx hb dL_begin_78 (lv_at hl 0 rfl) ?_
    refine lv_bipush (v := 114) hx hb dL_begin_80 (by decide) ?_
    refine lv_idiv hx hb dL_begin_82 (by decide) ?_
    refine lv_bipush (v := 24) hx hb dL_begin_83 (by decide) ?_
    refine lv_irem hx hb dL_begin_85 (by decide) ?_
    obtain ⟨n21, en21, h⟩ := ob_bd h
    obtain ⟨g22, h⟩ := ob_gd h
    obtain ⟨S23, eS23, h⟩ := ob_nm h
    refine xl_iast C0 hP hS en21 g22 dL_begin_86 (fun H locs hP hS => ?_)
    rw [← eS23] at hP
    refine lv_dup hx hb dL_begin_87 rfl ?_
    refine lv_iconst (v := 3) hx hb dL_begin_88 (by decide) ?_
    refine lv_bipush (v := 10) hx hb dL_begin_89 (by decide) ?_
    obtain ⟨n24, en24, h⟩ := ob_bd h
    obtain ⟨g25, h⟩ := ob_gd h
    obtain ⟨S26, eS26, h⟩ := ob_nm h
    refine xl_iast C0 hP hS en24 g25 dL_begin_91 (fun H locs hP hS => ?_)
    rw [← eS26] at hP
    obtain ⟨g27, h⟩ := ob_gd h
    obtain ⟨n28, en28, h⟩ := ob_bd h
    obtain ⟨S29, eS29, h⟩ := ob_nm h
    refine xl_astQ (k := 145) C0 hP hS (by decide) (fun S => lay_145 (P0 + 1) ct S) en28 g27 dL_begin_92 (fun H locs hP hS => ?_)
    rw [← eS29] at hP
    refine lv_aload_n hx hb dL_begin_93 rfl (lv_at hl 1 rfl) ?_
    refine lv_dup hx hb dL_begin_94 rfl ?_
    refine xl_get (v := .int (gi S29 136 3)) C0 hP 3 (by decide) wd_252 rfl rfl dL_begin_95 ?_
    refine lv_iconst (v := 1) hx hb dL_begin_98 (by decide) ?_
    refine lv_iadd hx hb dL_begin_99 ?_
    obtain ⟨S30, eS30, h⟩ := ob_nm h
    refine xl_put C0 hP hS 3 (by decide) wd_252 rfl (fsL_3 _ _ _) rfl dL_begin_100 (fun H locs hP hS => ?_)
    rw [← eS30] at hP
    refine lv_aload_n hx hb dL_begin_103 rfl (lv_at hl 1 rfl) ?_
    refine xl_get (v := .ref (P0 + 1 + 0)) C0 hP 0 (by decide) wd_249 rfl rfl dL_begin_104 ?_
    refine lv_aload_n hx hb dL_begin_107 rfl (lv_at hl 1 rfl) ?_
    refine xl_get (v := .ref (P0 + 1 + 145)) C0 hP 4 (by decide) wd_253 rfl rfl dL_begin_108 ?_
    refine lv_iload hx hb dL_begin_111 (lv_at hl 5 rfl) ?_
    obtain ⟨g31, h⟩ := ob_gd h
    obtain ⟨q32, eq32, h⟩ := ob_bd h
    refine x_aald (v := .ref (P0 + 1 + q32)) C0 hP.1 (lay_145 (P0 + 1) ct S30) rfl rfl g31 (by show va_rf ((gr S30 145 v4.toNatClampNeg).map (P0 + 1 + ·)) = _; rw [eq32]; rfl) dL_begin_113 ?_
    refine lv_iconst (v := 0) hx hb dL_begin_114 (by decide) ?_
    obtain ⟨n34, en34, h⟩ := ob_bd h
    obtain ⟨g33, h⟩ := ob_gd h
    refine x_iald C0 hP.1 (lay_dy (P0 + 1) ct en34) g33 dL_begin_115 ?_
    refine lv_aload_n hx hb dL_begin_116 rfl (lv_at hl 1 rfl) ?_
    refine xl_get (v := .ref (P0 + 1 + 145)) C0 hP 4 (by decide) wd_253 rfl rfl dL_begin_117 ?_
    refine lv_iload hx hb dL_begin_120 (lv_at hl 5 rfl) ?_
    obtain ⟨g35, h⟩ := ob_gd h
    obtain ⟨q36, eq36, h⟩ := ob_bd h
    refine x_aald (v := .ref (P0 + 1 + q36)) C0 hP.1 (lay_145 (P0 + 1) ct S30) rfl rfl g35 (by show va_rf ((gr S30 145 v4.toNatClampNeg).map (P0 + 1 + ·)) = _; rw [eq36]; rfl) dL_begin_122 ?_
    refine lv_iconst (v := 1) hx hb dL_begin_123 (by decide) ?_
    obtain ⟨n38, en38, h⟩ := ob_bd h
    obtain ⟨g37, h⟩ := ob_gd h
    refine x_iald C0 hP.1 (lay_dy (P0 + 1) ct en38) g37 dL_begin_124 ?_
    refine lv_aload_n hx hb dL_begin_125 rfl (lv_at hl 1 rfl) ?_
    refine xl_get (v := .ref (P0 + 1 + 145)) C0 hP 4 (by decide) wd_253 rfl rfl dL_begin_126 ?_
    refine lv_iload hx hb dL_begin_129 (lv_at hl 5 rfl) ?_
    obtain ⟨g39, h⟩ := ob_gd h
    obtain ⟨q40, eq40, h⟩ := ob_bd h
    refine x_aald (v := .ref (P0 + 1 + q40)) C0 hP.1 (lay_145 (P0 + 1) ct S30) rfl rfl g39 (by show va_rf ((gr S30 145 v4.toNatClampNeg).map (P0 + 1 + ·)) = _; rw [eq40]; rfl) dL_begin_131 ?_
    refine lv_iconst (v := 2) hx hb dL_begin_132 (by decide) ?_
    obtain ⟨n42, en42, h⟩ := ob_bd h
    obtain ⟨g41, h⟩ := ob_gd h
    refine x_iald C0 hP.1 (lay_dy (P0 + 1) ct en42) g41 dL_begin_133 ?_
    obtain ⟨r43, hr43, h⟩ := ob_bd h
    obtain ⟨g44, h⟩ := ob_gd h
    refine nl_Iw (kV (As := [.int (gi S30 q32 (0 : Int32).toNatClampNeg), .int (gi S30 q36 (1 : Int32).toNatClampNeg), .int (gi S30 q40 (2 : Int32).toNatClampNeg)]) C0 (c_X11_fact l (gi S30 q32 (0 : Int32).toNatClampNeg) (gi S30 q36 (1 : Int32).toNatClampNeg) (gi S30 q40 (2 : Int32).toNatClampNeg) hr43) ⟨wd_331, wd_328, wd_329, wd_330, wd_1⟩ kd_X11_fact ⟨Nat.le_of_ble_eq_true rfl, Nat.le_of_ble_eq_true rfl⟩ hP.1 (lay_X11 (P0 + 1) ct S30) rfl rfl hl.1 rfl (Nat.le_of_ble_eq_true rfl) dL_begin_134 ⟨by show _ + _ ≤ 235; omega, by show _ + _ ≤ 2350; omega⟩) hP g44 hS (fun H locs hP hS => ?_)
    refine lv_iload hx hb dL_begin_137 (lv_at hl 5 rfl) ?_
    refine lv_icmp_eq (tgt := 144) hx hb dL_begin_139 (by decide) (fun z45 => ?_) (fun z45 => ?_)
    · have h := ob_t h z45
      refine lv_iload hx hb dL_begin_144 (lv_at hl 0 rfl) ?_
      refine lv_sipush (v := 2736) hx hb dL_begin_146 (by decide) ?_
      refine lv_idiv hx hb dL_begin_149 (by decide) ?_
      refine lv_iconst (v := 2) hx hb dL_begin_150 (by decide) ?_
      refine lv_irem hx hb dL_begin_151 (by decide) ?_
      refine lv_if_ne (tgt := 198) hx hb dL_begin_152 (by decide) (fun z48 => ?_) (fun z48 => ?_)
      · have h := ob_f h z48
        exact w_L_begin_198 l C0 xL xs hE n0 ih0 v2 v3 v4 r43.2 h hP hS (lv_sub hl [1, 2, 3, 4, 5] rfl) ⟨by omega, by omega⟩
      · have h := ob_t h z48
        refine lv_aload_n hx hb dL_begin_155 rfl (lv_at hl 1 rfl) ?_
        refine xl_get (v := .ref (P0 + 1 + 145)) C0 hP 4 (by decide) wd_253 rfl rfl dL_begin_156 ?_
        refine lv_iload hx hb dL_begin_159 (lv_at hl 5 rfl) ?_
        obtain ⟨g49, h⟩ := ob_gd h
        obtain ⟨q50, eq50, h⟩ := ob_bd h
        refine x_aald (v := .ref (P0 + 1 + q50)) C0 hP.1 (lay_145 (P0 + 1) ct r43.2) rfl rfl g49 (by show va_rf ((gr r43.2 145 v4.toNatClampNeg).map (P0 + 1 + ·)) = _; rw [eq50]; rfl) dL_begin_161 ?_
        refine lv_iconst (v := 3) hx hb dL_begin_162 (by decide) ?_
        refine lv_iload hx hb dL_begin_163 (lv_at hl 0 rfl) ?_
        refine lv_sipush (v := 5472) hx hb dL_begin_165 (by decide) ?_
        refine lv_idiv hx hb dL_begin_168 (by decide) ?_
        refine lv_bipush (v := 11) hx hb dL_begin_169 (by decide) ?_
        refine lv_irem hx hb dL_begin_171 (by decide) ?_
        obtain ⟨n53, en53, h⟩ := ob_bd h
        obtain ⟨g54, h⟩ := ob_gd h
        obtain ⟨S55, eS55, h⟩ := ob_nm h
        refine xl_iast C0 hP hS en53 g54 dL_begin_172 (fun H locs hP hS => ?_)
        rw [← eS55] at hP
        refine lv_aload_n hx hb dL_begin_173 rfl (lv_at hl 1 rfl) ?_
        refine xl_get (v := .ref (P0 + 1 + 0)) C0 hP 0 (by decide) wd_249 rfl rfl dL_begin_174 ?_
        refine lv_iload hx hb dL_begin_177 (lv_at hl 5 rfl) ?_
        refine lv_aload_n hx hb dL_begin_179 rfl (lv_at hl 1 rfl) ?_
        refine xl_get (v := .ref (P0 + 1 + 145)) C0 hP 4 (by decide) wd_253 rfl rfl dL_begin_180 ?_
        refine lv_iload hx hb dL_begin_183 (lv_at hl 5 rfl) ?_
        obtain ⟨g56, h⟩ := ob_gd h
        obtain ⟨q57, eq57, h⟩ := ob_bd h
        refine x_aald (v := .ref (P0 + 1 + q57)) C0 hP.1 (lay_145 (P0 + 1) ct S55) rfl rfl g56 (by show va_rf ((gr S55 145 v4.toNatClampNeg).map (P0 + 1 + ·)) = _; rw [eq57]; rfl) dL_begin_185 ?_
        refine lv_iconst (v := 3) hx hb dL_begin_186 (by decide) ?_
        obtain ⟨n59, en59, h⟩ := ob_bd h
        obtain ⟨g58, h⟩ := ob_gd h
        refine x_iald C0 hP.1 (lay_dy (P0 + 1) ct en59) g58 dL_begin_187 ?_
        obtain ⟨r60, hr60, h⟩ := ob_bd h
        obtain ⟨g61, h⟩ := ob_gd h
        refine nl_Iw (kV (As := [.int v4, .int (gi S55 q57 (3 : Int32).toNatClampNeg)]) C0 (c_X11_chance l v4 (gi S55 q57 (3 : Int32).toNatClampNeg) hr60) ⟨wd_342, wd_339, wd_340, wd_341, wd_1⟩ kd_X11_chance ⟨Nat.le_of_ble_eq_true rfl, Nat.le_of_ble_eq_true rfl⟩ hP.1 (lay_X11 (P0 + 1) ct S55) rfl rfl hl.1 rfl (Nat.le_of_ble_eq_true rfl) dL_begin_188 ⟨by show _ + _ ≤ 235; omega, by show _ + _ ≤ 2350; omega⟩) hP g61 hS (fun H locs hP hS => ?_)
        refine lv_bipush (v := 10) hx hb dL_begin_191 (by decide) ?_
        refine lv_icmp_eq (tgt := 198) hx hb dL_begin_193 (by decide) (fun z62 => ?_) (fun z62 => ?_)
        · have h := ob_t h z62
          exact w_L_begin_198 l C0 xL xs hE n0 ih0 v2 v3 v4 r60.2 h hP hS (lv_sub hl [1, 2, 3, 4, 5] rfl) ⟨by omega, by omega⟩
        · have h := ob_f h z62
          refine lv_iconst (v := 0) hx hb dL_begin_196 (by decide) ?_
          refine W.widen (k := 235) (n := 2350) (by omega) (by omega) ?_
          exact rl_Zw C0 hP hS bool_0 h dL_begin_197
    · have h := ob_f h z45
      refine lv_iconst (v := 0) hx hb dL_begin_142 (by decide) ?_
      refine W.widen (k := 235) (n := 2350) (by omega) (by omega) ?_
      exact rl_Zw C0 hP hS bool_0 h dL_begin_143
set_option maxRecDepth 100000 in
set_option maxHeartbeats 4000000 in
theorem wl_L_begin_11 (l : Launch) {V : Int32 × St} (C0 : XC D ct p s m args meth c cL_begin 10 (some .boolean) RL) (xL : Nat) (xs : Nat → Int32) (hE : XS xb xL xs adK adV P0 s)  : ∀ (n0 : Nat) (v2 : Int32) (v3 : Int32) (v4 : Int32) (S : St) {H : Heap} {locs : List Loc} {ls : Array Slot} {cells slots : Nat}, (lp n0 (l_L_begin_11 xL xs) (v2, v3, v4, S)).bind some = some V → ML D ct P0 Hb S H → va_S (AB P0) s.heap H locs → lv_has ls 10 [(0, .ref P0), (1, .ref xb), (2, .int v2), (3, .int v3), (4, .int v4)] → (cells + (n0 * 1 + 228) ≤ 235 ∧ slots + 10 * (n0 * 1 + 228) ≤ 2350) → W p l e { frames := 10, cells := 235, slots := 2350, locals := 222 } s m args below meth c H locs cells slots (MQ below (qLIw D ct P0 Hb V) args s 235 2350 (AB P0)) (F0 m 11 ls []) := by
  intro n0
  induction n0 with
  | zero =>
    intro v2 v3 v4 S H locs ls cells slots h hP hS hl hc
    exact (lp_0 h).elim
  | succ n0 ih0 =>
    intro v2 v3 v4 S H locs ls cells slots h hP hS hl hc
    have h := lp_s h
    exact w_L_begin_11 l C0 xL xs hE n0 (fun v2 v3 v4 S H locs ls cells slots h hP hS hl hc => ih0 v2 v3 v4 S h hP hS hl hc) v2 v3 v4 S h hP hS hl ⟨by omega, by omega⟩
set_option maxRecDepth 100000 in
set_option maxHeartbeats 4000000 in
theorem w_L_begin_0 (l : Launch) {V : Int32 × St} (C0 : XC D ct p s m args meth c cL_begin 10 (some .boolean) RL) (xL : Nat) (xs : Nat → Int32) (hE : XS xb xL xs adK adV P0 s) (v2 : Int32) (S : St) {H : Heap} {locs : List Loc} {ls : Array Slot} {cells slots : Nat} (h : (b_L_begin_0 xL xs v2 S).bind some = some V) (hP : ML D ct P0 Hb S H) (hS : va_S (AB P0) s.heap H locs) (hl : lv_has ls 10 [(0, .ref P0), (1, .ref xb), (2, .int v2)]) (hc : cells + 235 ≤ 235 ∧ slots + 10 * 235 ≤ 2350) : W p l e { frames := 10, cells := 235, slots := 2350, locals := 222 } s m args below meth c H locs cells slots (MQ below (qLIw D ct P0 Hb V) args s 235 2350 (AB P0)) (F0 m 0 ls []) := by
  obtain ⟨hx, hb, hr, hml, hown, hts, hK, hlocks, hN⟩ := id C0
  unfold b_L_begin_0 at h
  refine lv_aload_n hx hb dL_begin_0 rfl (lv_at hl 1 rfl) ?_
  refine lv_iload_n hx hb dL_begin_1 rfl (lv_at hl 2 rfl) ?_
  refine lv_bipush (v := 7) hx hb dL_begin_2 (by decide) ?_
  obtain ⟨r1, hr1, h⟩ := ob_bd h
  refine nL_I (kLS (As := [.ref xb, .int v2, .int 7]) C0 hE hS (c_L_some l xL xs v2 7 hr1) ⟨wd_322, wd_320, wd_321, wd_0⟩ kd_L_some ⟨Nat.le_of_ble_eq_true rfl, Nat.le_of_ble_eq_true rfl⟩ hP rfl hl.1 rfl (Nat.le_of_ble_eq_true rfl) dL_begin_4 ⟨by show _ + _ ≤ 235; omega, by show _ + _ ≤ 2350; omega⟩) hS (fun H locs hP hS => ?_)
  refine lv_istore_n (lv' := [(3, .int r1), (0, .ref P0), (1, .ref xb), (2, .int v2)]) hx hb dL_begin_7 rfl hl (by decide) rfl (fun ls hl => ?_)
  refine lv_iconst (v := 0) hx hb dL_begin_8 (by decide) ?_
  refine lv_istore (lv' := [(4, .int 0), (3, .int r1), (0, .ref P0), (1, .ref xb), (2, .int v2)]) hx hb dL_begin_9 hl (by decide) rfl (fun ls hl => ?_)
  exact wl_L_begin_11 l C0 xL xs hE 7 v2 r1 0 S h hP hS (lv_sub hl [2, 3, 4, 1, 0] rfl) ⟨by omega, by omega⟩
set_option maxRecDepth 100000 in
set_option maxHeartbeats 4000000 in
theorem c_L_begin (l : Launch) (xL : Nat) (xs : Nat → Int32) (a2 : Int32) {D : va_G} {ct : Nat → ClassId} {P0 : Nat} {Hb : Heap} {xb : Nat} {adK adV : Nat → Nat} {S : St} {V : Int32 × St} (h : L_L_begin xL xs a2 S = some V) : Met l yL_begin (Cond.code yL_begin cL_begin 10 (some .boolean) :: tG) { frames := 10, cells := 235, slots := 2350, locals := 222 } (va_Pc [.ref P0, .ref xb, .int a2] (MLK D ct P0 Hb xb xL xs adK adV S)) (qLIw D ct P0 Hb V) 235 2350 (AB P0) := by
  refine mk_metL (by decide +kernel) (Nat.le_of_ble_eq_true rfl) (fun p e s m args below meth c ls C0 hE hP hl _ => ?_)
  have h := ob_of h
  exact w_L_begin_0 l C0 xL xs hE a2 S h hP va_S.rf (lv_sub hl [0, 1, 2] rfl) ⟨by omega, by omega⟩
end WALKS
