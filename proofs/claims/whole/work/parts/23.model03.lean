theorem dX12_readNumbers_0 : decode cX12_readNumbers 0 = .ok (.iload_n 1, 1) := by decide +kernel
theorem dX12_readNumbers_1 : decode cX12_readNumbers 1 = .ok (.tableswitch 330 102 116 #[75, 330, 330, 330, 330, 224, 330, 330, 330, 316, 130, 330, 330, 330, 251], 75) := by decide +kernel
theorem dX12_readNumbers_76 : decode cX12_readNumbers 76 = .ok (.aload_n 0, 1) := by decide +kernel
theorem dX12_readNumbers_77 : decode cX12_readNumbers 77 = .ok (.getfield 142, 3) := by decide +kernel
theorem dX12_readNumbers_80 : decode cX12_readNumbers 80 = .ok (.iload_n 2, 1) := by decide +kernel
theorem dX12_readNumbers_81 : decode cX12_readNumbers 81 = .ok (.aload_n 0, 1) := by decide +kernel
theorem dX12_readNumbers_82 : decode cX12_readNumbers 82 = .ok (.iconst 1, 1) := by decide +kernel
theorem dX12_readNumbers_83 : decode cX12_readNumbers 83 = .ok (.invokevirtual 278, 3) := by decide +kernel
theorem dX12_readNumbers_86 : decode cX12_readNumbers 86 = .ok (.iastore, 1) := by decide +kernel
theorem dX12_readNumbers_87 : decode cX12_readNumbers 87 = .ok (.aload_n 0, 1) := by decide +kernel
theorem dX12_readNumbers_88 : decode cX12_readNumbers 88 = .ok (.getfield 142, 3) := by decide +kernel
theorem dX12_readNumbers_91 : decode cX12_readNumbers 91 = .ok (.iload_n 2, 1) := by decide +kernel
theorem dX12_readNumbers_92 : decode cX12_readNumbers 92 = .ok (.iconst 1, 1) := by decide +kernel
theorem dX12_readNumbers_93 : decode cX12_readNumbers 93 = .ok (.iadd, 1) := by decide +kernel
theorem dX12_readNumbers_94 : decode cX12_readNumbers 94 = .ok (.aload_n 0, 1) := by decide +kernel
theorem dX12_readNumbers_95 : decode cX12_readNumbers 95 = .ok (.invokevirtual 281, 3) := by decide +kernel
theorem dX12_readNumbers_98 : decode cX12_readNumbers 98 = .ok (.iastore, 1) := by decide +kernel
theorem dX12_readNumbers_99 : decode cX12_readNumbers 99 = .ok (.aload_n 0, 1) := by decide +kernel
theorem dX12_readNumbers_100 : decode cX12_readNumbers 100 = .ok (.getfield 142, 3) := by decide +kernel
theorem dX12_readNumbers_103 : decode cX12_readNumbers 103 = .ok (.iload_n 2, 1) := by decide +kernel
theorem dX12_readNumbers_104 : decode cX12_readNumbers 104 = .ok (.iconst 1, 1) := by decide +kernel
theorem dX12_readNumbers_105 : decode cX12_readNumbers 105 = .ok (.iadd, 1) := by decide +kernel
theorem dX12_readNumbers_106 : decode cX12_readNumbers 106 = .ok (.dup2, 1) := by decide +kernel
theorem dX12_readNumbers_107 : decode cX12_readNumbers 107 = .ok (.iaload, 1) := by decide +kernel
theorem dX12_readNumbers_108 : decode cX12_readNumbers 108 = .ok (.aload_n 0, 1) := by decide +kernel
theorem dX12_readNumbers_109 : decode cX12_readNumbers 109 = .ok (.iconst 1, 1) := by decide +kernel
theorem dX12_readNumbers_110 : decode cX12_readNumbers 110 = .ok (.invokevirtual 278, 3) := by decide +kernel
theorem dX12_readNumbers_113 : decode cX12_readNumbers 113 = .ok (.imul, 1) := by decide +kernel
theorem dX12_readNumbers_114 : decode cX12_readNumbers 114 = .ok (.iastore, 1) := by decide +kernel
theorem dX12_readNumbers_115 : decode cX12_readNumbers 115 = .ok (.aload_n 0, 1) := by decide +kernel
theorem dX12_readNumbers_116 : decode cX12_readNumbers 116 = .ok (.getfield 142, 3) := by decide +kernel
theorem dX12_readNumbers_119 : decode cX12_readNumbers 119 = .ok (.iload_n 2, 1) := by decide +kernel
theorem dX12_readNumbers_120 : decode cX12_readNumbers 120 = .ok (.iconst 2, 1) := by decide +kernel
theorem dX12_readNumbers_121 : decode cX12_readNumbers 121 = .ok (.iadd, 1) := by decide +kernel
theorem dX12_readNumbers_122 : decode cX12_readNumbers 122 = .ok (.aload_n 0, 1) := by decide +kernel
theorem dX12_readNumbers_123 : decode cX12_readNumbers 123 = .ok (.iconst 2, 1) := by decide +kernel
theorem dX12_readNumbers_124 : decode cX12_readNumbers 124 = .ok (.invokevirtual 278, 3) := by decide +kernel
theorem dX12_readNumbers_127 : decode cX12_readNumbers 127 = .ok (.iastore, 1) := by decide +kernel
theorem dX12_readNumbers_128 : decode cX12_readNumbers 128 = .ok (.goto 214, 3) := by decide +kernel
theorem dX12_readNumbers_131 : decode cX12_readNumbers 131 = .ok (.aload_n 0, 1) := by decide +kernel
theorem dX12_readNumbers_132 : decode cX12_readNumbers 132 = .ok (.getfield 142, 3) := by decide +kernel
theorem dX12_readNumbers_135 : decode cX12_readNumbers 135 = .ok (.iload_n 2, 1) := by decide +kernel
theorem dX12_readNumbers_136 : decode cX12_readNumbers 136 = .ok (.aload_n 0, 1) := by decide +kernel
theorem dX12_readNumbers_137 : decode cX12_readNumbers 137 = .ok (.iconst 1, 1) := by decide +kernel
theorem dX12_readNumbers_138 : decode cX12_readNumbers 138 = .ok (.invokevirtual 278, 3) := by decide +kernel
theorem dX12_readNumbers_141 : decode cX12_readNumbers 141 = .ok (.iastore, 1) := by decide +kernel
theorem dX12_readNumbers_142 : decode cX12_readNumbers 142 = .ok (.aload_n 0, 1) := by decide +kernel
theorem dX12_readNumbers_143 : decode cX12_readNumbers 143 = .ok (.getfield 142, 3) := by decide +kernel
theorem dX12_readNumbers_146 : decode cX12_readNumbers 146 = .ok (.iload_n 2, 1) := by decide +kernel
theorem dX12_readNumbers_147 : decode cX12_readNumbers 147 = .ok (.iconst 1, 1) := by decide +kernel
theorem dX12_readNumbers_148 : decode cX12_readNumbers 148 = .ok (.iadd, 1) := by decide +kernel
theorem dX12_readNumbers_149 : decode cX12_readNumbers 149 = .ok (.aload_n 0, 1) := by decide +kernel
theorem dX12_readNumbers_150 : decode cX12_readNumbers 150 = .ok (.iconst 1, 1) := by decide +kernel
theorem dX12_readNumbers_151 : decode cX12_readNumbers 151 = .ok (.invokevirtual 278, 3) := by decide +kernel
theorem dX12_readNumbers_154 : decode cX12_readNumbers 154 = .ok (.iastore, 1) := by decide +kernel
theorem dX12_readNumbers_155 : decode cX12_readNumbers 155 = .ok (.aload_n 0, 1) := by decide +kernel
theorem dX12_readNumbers_156 : decode cX12_readNumbers 156 = .ok (.getfield 142, 3) := by decide +kernel
theorem dX12_readNumbers_159 : decode cX12_readNumbers 159 = .ok (.iload_n 2, 1) := by decide +kernel
theorem dX12_readNumbers_160 : decode cX12_readNumbers 160 = .ok (.iconst 2, 1) := by decide +kernel
theorem dX12_readNumbers_161 : decode cX12_readNumbers 161 = .ok (.iadd, 1) := by decide +kernel
theorem dX12_readNumbers_162 : decode cX12_readNumbers 162 = .ok (.aload_n 0, 1) := by decide +kernel
theorem dX12_readNumbers_163 : decode cX12_readNumbers 163 = .ok (.iconst 1, 1) := by decide +kernel
theorem dX12_readNumbers_164 : decode cX12_readNumbers 164 = .ok (.invokevirtual 278, 3) := by decide +kernel
theorem dX12_readNumbers_167 : decode cX12_readNumbers 167 = .ok (.iastore, 1) := by decide +kernel
theorem dX12_readNumbers_168 : decode cX12_readNumbers 168 = .ok (.aload_n 0, 1) := by decide +kernel
theorem dX12_readNumbers_169 : decode cX12_readNumbers 169 = .ok (.getfield 142, 3) := by decide +kernel
theorem dX12_readNumbers_172 : decode cX12_readNumbers 172 = .ok (.iload_n 2, 1) := by decide +kernel
theorem dX12_readNumbers_173 : decode cX12_readNumbers 173 = .ok (.iconst 3, 1) := by decide +kernel
theorem dX12_readNumbers_174 : decode cX12_readNumbers 174 = .ok (.iadd, 1) := by decide +kernel
theorem dX12_readNumbers_175 : decode cX12_readNumbers 175 = .ok (.aload_n 0, 1) := by decide +kernel
theorem dX12_readNumbers_176 : decode cX12_readNumbers 176 = .ok (.iconst 2, 1) := by decide +kernel
theorem dX12_readNumbers_177 : decode cX12_readNumbers 177 = .ok (.invokevirtual 278, 3) := by decide +kernel
theorem dX12_readNumbers_180 : decode cX12_readNumbers 180 = .ok (.iastore, 1) := by decide +kernel
theorem dX12_readNumbers_181 : decode cX12_readNumbers 181 = .ok (.aload_n 0, 1) := by decide +kernel
theorem dX12_readNumbers_182 : decode cX12_readNumbers 182 = .ok (.getfield 142, 3) := by decide +kernel
theorem dX12_readNumbers_185 : decode cX12_readNumbers 185 = .ok (.iload_n 2, 1) := by decide +kernel
theorem dX12_readNumbers_186 : decode cX12_readNumbers 186 = .ok (.iconst 4, 1) := by decide +kernel
theorem dX12_readNumbers_187 : decode cX12_readNumbers 187 = .ok (.iadd, 1) := by decide +kernel
theorem dX12_readNumbers_188 : decode cX12_readNumbers 188 = .ok (.aload_n 0, 1) := by decide +kernel
theorem dX12_readNumbers_189 : decode cX12_readNumbers 189 = .ok (.invokevirtual 281, 3) := by decide +kernel
theorem dX12_readNumbers_192 : decode cX12_readNumbers 192 = .ok (.iastore, 1) := by decide +kernel
theorem dX12_readNumbers_193 : decode cX12_readNumbers 193 = .ok (.aload_n 0, 1) := by decide +kernel
theorem dX12_readNumbers_194 : decode cX12_readNumbers 194 = .ok (.getfield 142, 3) := by decide +kernel
theorem dX12_readNumbers_197 : decode cX12_readNumbers 197 = .ok (.iload_n 2, 1) := by decide +kernel
theorem dX12_readNumbers_198 : decode cX12_readNumbers 198 = .ok (.iconst 4, 1) := by decide +kernel
theorem dX12_readNumbers_199 : decode cX12_readNumbers 199 = .ok (.iadd, 1) := by decide +kernel
theorem dX12_readNumbers_200 : decode cX12_readNumbers 200 = .ok (.dup2, 1) := by decide +kernel
theorem dX12_readNumbers_201 : decode cX12_readNumbers 201 = .ok (.iaload, 1) := by decide +kernel
theorem dX12_readNumbers_202 : decode cX12_readNumbers 202 = .ok (.aload_n 0, 1) := by decide +kernel
theorem dX12_readNumbers_203 : decode cX12_readNumbers 203 = .ok (.iconst 1, 1) := by decide +kernel
theorem dX12_readNumbers_204 : decode cX12_readNumbers 204 = .ok (.invokevirtual 278, 3) := by decide +kernel
theorem dX12_readNumbers_207 : decode cX12_readNumbers 207 = .ok (.imul, 1) := by decide +kernel
theorem dX12_readNumbers_208 : decode cX12_readNumbers 208 = .ok (.iastore, 1) := by decide +kernel
theorem dX12_readNumbers_209 : decode cX12_readNumbers 209 = .ok (.aload_n 0, 1) := by decide +kernel
theorem dX12_readNumbers_210 : decode cX12_readNumbers 210 = .ok (.getfield 142, 3) := by decide +kernel
theorem dX12_readNumbers_213 : decode cX12_readNumbers 213 = .ok (.iload_n 2, 1) := by decide +kernel
theorem dX12_readNumbers_214 : decode cX12_readNumbers 214 = .ok (.iconst 5, 1) := by decide +kernel
theorem dX12_readNumbers_215 : decode cX12_readNumbers 215 = .ok (.iadd, 1) := by decide +kernel
theorem dX12_readNumbers_216 : decode cX12_readNumbers 216 = .ok (.aload_n 0, 1) := by decide +kernel
theorem dX12_readNumbers_217 : decode cX12_readNumbers 217 = .ok (.iconst 2, 1) := by decide +kernel
theorem dX12_readNumbers_218 : decode cX12_readNumbers 218 = .ok (.invokevirtual 278, 3) := by decide +kernel
theorem dX12_readNumbers_221 : decode cX12_readNumbers 221 = .ok (.iastore, 1) := by decide +kernel
theorem dX12_readNumbers_222 : decode cX12_readNumbers 222 = .ok (.goto 120, 3) := by decide +kernel
theorem dX12_readNumbers_225 : decode cX12_readNumbers 225 = .ok (.aload_n 0, 1) := by decide +kernel
theorem dX12_readNumbers_226 : decode cX12_readNumbers 226 = .ok (.getfield 142, 3) := by decide +kernel
theorem dX12_readNumbers_229 : decode cX12_readNumbers 229 = .ok (.iload_n 2, 1) := by decide +kernel
theorem dX12_readNumbers_230 : decode cX12_readNumbers 230 = .ok (.aload_n 0, 1) := by decide +kernel
theorem dX12_readNumbers_231 : decode cX12_readNumbers 231 = .ok (.iconst 1, 1) := by decide +kernel
theorem dX12_readNumbers_232 : decode cX12_readNumbers 232 = .ok (.invokevirtual 278, 3) := by decide +kernel
theorem dX12_readNumbers_235 : decode cX12_readNumbers 235 = .ok (.iastore, 1) := by decide +kernel
theorem dX12_readNumbers_236 : decode cX12_readNumbers 236 = .ok (.aload_n 0, 1) := by decide +kernel
theorem dX12_readNumbers_237 : decode cX12_readNumbers 237 = .ok (.getfield 142, 3) := by decide +kernel
theorem dX12_readNumbers_240 : decode cX12_readNumbers 240 = .ok (.iload_n 2, 1) := by decide +kernel
theorem dX12_readNumbers_241 : decode cX12_readNumbers 241 = .ok (.iconst 1, 1) := by decide +kernel
theorem dX12_readNumbers_242 : decode cX12_readNumbers 242 = .ok (.iadd, 1) := by decide +kernel
theorem dX12_readNumbers_243 : decode cX12_readNumbers 243 = .ok (.aload_n 0, 1) := by decide +kernel
theorem dX12_readNumbers_244 : decode cX12_readNumbers 244 = .ok (.iconst 1, 1) := by decide +kernel
theorem dX12_readNumbers_245 : decode cX12_readNumbers 245 = .ok (.invokevirtual 278, 3) := by decide +kernel
theorem dX12_readNumbers_248 : decode cX12_readNumbers 248 = .ok (.iastore, 1) := by decide +kernel
theorem dX12_readNumbers_249 : decode cX12_readNumbers 249 = .ok (.goto 93, 3) := by decide +kernel
theorem dX12_readNumbers_252 : decode cX12_readNumbers 252 = .ok (.aload_n 0, 1) := by decide +kernel
theorem dX12_readNumbers_253 : decode cX12_readNumbers 253 = .ok (.getfield 142, 3) := by decide +kernel
theorem dX12_readNumbers_256 : decode cX12_readNumbers 256 = .ok (.iload_n 2, 1) := by decide +kernel
theorem dX12_readNumbers_257 : decode cX12_readNumbers 257 = .ok (.aload_n 0, 1) := by decide +kernel
theorem dX12_readNumbers_258 : decode cX12_readNumbers 258 = .ok (.iconst 1, 1) := by decide +kernel
theorem dX12_readNumbers_259 : decode cX12_readNumbers 259 = .ok (.invokevirtual 278, 3) := by decide +kernel
theorem dX12_readNumbers_262 : decode cX12_readNumbers 262 = .ok (.iastore, 1) := by decide +kernel
theorem dX12_readNumbers_263 : decode cX12_readNumbers 263 = .ok (.aload_n 0, 1) := by decide +kernel
theorem dX12_readNumbers_264 : decode cX12_readNumbers 264 = .ok (.getfield 142, 3) := by decide +kernel
theorem dX12_readNumbers_267 : decode cX12_readNumbers 267 = .ok (.iload_n 2, 1) := by decide +kernel
theorem dX12_readNumbers_268 : decode cX12_readNumbers 268 = .ok (.iconst 1, 1) := by decide +kernel
theorem dX12_readNumbers_269 : decode cX12_readNumbers 269 = .ok (.iadd, 1) := by decide +kernel
theorem dX12_readNumbers_270 : decode cX12_readNumbers 270 = .ok (.aload_n 0, 1) := by decide +kernel
theorem dX12_readNumbers_271 : decode cX12_readNumbers 271 = .ok (.invokevirtual 281, 3) := by decide +kernel
theorem dX12_readNumbers_274 : decode cX12_readNumbers 274 = .ok (.iastore, 1) := by decide +kernel
theorem dX12_readNumbers_275 : decode cX12_readNumbers 275 = .ok (.aload_n 0, 1) := by decide +kernel
theorem dX12_readNumbers_276 : decode cX12_readNumbers 276 = .ok (.getfield 142, 3) := by decide +kernel
theorem dX12_readNumbers_279 : decode cX12_readNumbers 279 = .ok (.iload_n 2, 1) := by decide +kernel
theorem dX12_readNumbers_280 : decode cX12_readNumbers 280 = .ok (.iconst 2, 1) := by decide +kernel
theorem dX12_readNumbers_281 : decode cX12_readNumbers 281 = .ok (.iadd, 1) := by decide +kernel
theorem dX12_readNumbers_282 : decode cX12_readNumbers 282 = .ok (.aload_n 0, 1) := by decide +kernel
theorem dX12_readNumbers_283 : decode cX12_readNumbers 283 = .ok (.iconst 2, 1) := by decide +kernel
theorem dX12_readNumbers_284 : decode cX12_readNumbers 284 = .ok (.invokevirtual 278, 3) := by decide +kernel
theorem dX12_readNumbers_287 : decode cX12_readNumbers 287 = .ok (.iastore, 1) := by decide +kernel
theorem dX12_readNumbers_288 : decode cX12_readNumbers 288 = .ok (.aload_n 0, 1) := by decide +kernel
theorem dX12_readNumbers_289 : decode cX12_readNumbers 289 = .ok (.getfield 142, 3) := by decide +kernel
theorem dX12_readNumbers_292 : decode cX12_readNumbers 292 = .ok (.iload_n 2, 1) := by decide +kernel
theorem dX12_readNumbers_293 : decode cX12_readNumbers 293 = .ok (.iconst 3, 1) := by decide +kernel
theorem dX12_readNumbers_294 : decode cX12_readNumbers 294 = .ok (.iadd, 1) := by decide +kernel
theorem dX12_readNumbers_295 : decode cX12_readNumbers 295 = .ok (.aload_n 0, 1) := by decide +kernel
theorem dX12_readNumbers_296 : decode cX12_readNumbers 296 = .ok (.iconst 2, 1) := by decide +kernel
theorem dX12_readNumbers_297 : decode cX12_readNumbers 297 = .ok (.invokevirtual 278, 3) := by decide +kernel
theorem dX12_readNumbers_300 : decode cX12_readNumbers 300 = .ok (.iastore, 1) := by decide +kernel
theorem dX12_readNumbers_301 : decode cX12_readNumbers 301 = .ok (.aload_n 0, 1) := by decide +kernel
theorem dX12_readNumbers_302 : decode cX12_readNumbers 302 = .ok (.getfield 142, 3) := by decide +kernel
theorem dX12_readNumbers_305 : decode cX12_readNumbers 305 = .ok (.iload_n 2, 1) := by decide +kernel
theorem dX12_readNumbers_306 : decode cX12_readNumbers 306 = .ok (.iconst 4, 1) := by decide +kernel
theorem dX12_readNumbers_307 : decode cX12_readNumbers 307 = .ok (.iadd, 1) := by decide +kernel
theorem dX12_readNumbers_308 : decode cX12_readNumbers 308 = .ok (.aload_n 0, 1) := by decide +kernel
theorem dX12_readNumbers_309 : decode cX12_readNumbers 309 = .ok (.iconst 2, 1) := by decide +kernel
theorem dX12_readNumbers_310 : decode cX12_readNumbers 310 = .ok (.invokevirtual 278, 3) := by decide +kernel
theorem dX12_readNumbers_313 : decode cX12_readNumbers 313 = .ok (.iastore, 1) := by decide +kernel
theorem dX12_readNumbers_314 : decode cX12_readNumbers 314 = .ok (.goto 28, 3) := by decide +kernel
theorem dX12_readNumbers_317 : decode cX12_readNumbers 317 = .ok (.aload_n 0, 1) := by decide +kernel
theorem dX12_readNumbers_318 : decode cX12_readNumbers 318 = .ok (.getfield 142, 3) := by decide +kernel
theorem dX12_readNumbers_321 : decode cX12_readNumbers 321 = .ok (.iload_n 2, 1) := by decide +kernel
theorem dX12_readNumbers_322 : decode cX12_readNumbers 322 = .ok (.aload_n 0, 1) := by decide +kernel
theorem dX12_readNumbers_323 : decode cX12_readNumbers 323 = .ok (.iconst 2, 1) := by decide +kernel
theorem dX12_readNumbers_324 : decode cX12_readNumbers 324 = .ok (.invokevirtual 278, 3) := by decide +kernel
theorem dX12_readNumbers_327 : decode cX12_readNumbers 327 = .ok (.iastore, 1) := by decide +kernel
theorem dX12_readNumbers_328 : decode cX12_readNumbers 328 = .ok (.goto 14, 3) := by decide +kernel
theorem dX12_readNumbers_331 : decode cX12_readNumbers 331 = .ok (.aload_n 0, 1) := by decide +kernel
theorem dX12_readNumbers_332 : decode cX12_readNumbers 332 = .ok (.getfield 142, 3) := by decide +kernel
theorem dX12_readNumbers_335 : decode cX12_readNumbers 335 = .ok (.iload_n 2, 1) := by decide +kernel
theorem dX12_readNumbers_336 : decode cX12_readNumbers 336 = .ok (.aload_n 0, 1) := by decide +kernel
theorem dX12_readNumbers_337 : decode cX12_readNumbers 337 = .ok (.iconst 1, 1) := by decide +kernel
theorem dX12_readNumbers_338 : decode cX12_readNumbers 338 = .ok (.invokevirtual 278, 3) := by decide +kernel
theorem dX12_readNumbers_341 : decode cX12_readNumbers 341 = .ok (.iastore, 1) := by decide +kernel
theorem dX12_readNumbers_342 : decode cX12_readNumbers 342 = .ok (.return_, 1) := by decide +kernel
theorem dX12_readStatement_0 : decode cX12_readStatement 0 = .ok (.aload_n 0, 1) := by decide +kernel
theorem dX12_readStatement_1 : decode cX12_readStatement 1 = .ok (.getfield 284, 3) := by decide +kernel
theorem dX12_readStatement_4 : decode cX12_readStatement 4 = .ok (.istore_n 1, 1) := by decide +kernel
theorem dX12_readStatement_5 : decode cX12_readStatement 5 = .ok (.aload_n 0, 1) := by decide +kernel
theorem dX12_readStatement_6 : decode cX12_readStatement 6 = .ok (.invokevirtual 270, 3) := by decide +kernel
theorem dX12_readStatement_9 : decode cX12_readStatement 9 = .ok (.istore_n 2, 1) := by decide +kernel
theorem dX12_readStatement_10 : decode cX12_readStatement 10 = .ok (.aload_n 0, 1) := by decide +kernel
theorem dX12_readStatement_11 : decode cX12_readStatement 11 = .ok (.getfield 136, 3) := by decide +kernel
theorem dX12_readStatement_14 : decode cX12_readStatement 14 = .ok (.iload_n 1, 1) := by decide +kernel
theorem dX12_readStatement_15 : decode cX12_readStatement 15 = .ok (.aload_n 0, 1) := by decide +kernel
theorem dX12_readStatement_16 : decode cX12_readStatement 16 = .ok (.getfield 261, 3) := by decide +kernel
theorem dX12_readStatement_19 : decode cX12_readStatement 19 = .ok (.iastore, 1) := by decide +kernel
theorem dX12_readStatement_20 : decode cX12_readStatement 20 = .ok (.aload_n 0, 1) := by decide +kernel
theorem dX12_readStatement_21 : decode cX12_readStatement 21 = .ok (.getfield 139, 3) := by decide +kernel
theorem dX12_readStatement_24 : decode cX12_readStatement 24 = .ok (.iload_n 1, 1) := by decide +kernel
theorem dX12_readStatement_25 : decode cX12_readStatement 25 = .ok (.iload_n 2, 1) := by decide +kernel
theorem dX12_readStatement_26 : decode cX12_readStatement 26 = .ok (.iastore, 1) := by decide +kernel
theorem dX12_readStatement_27 : decode cX12_readStatement 27 = .ok (.aload_n 0, 1) := by decide +kernel
theorem dX12_readStatement_28 : decode cX12_readStatement 28 = .ok (.aload_n 0, 1) := by decide +kernel
theorem dX12_readStatement_29 : decode cX12_readStatement 29 = .ok (.getfield 267, 3) := by decide +kernel
theorem dX12_readStatement_32 : decode cX12_readStatement 32 = .ok (.ifCond .ne 10, 3) := by decide +kernel
theorem dX12_readStatement_35 : decode cX12_readStatement 35 = .ok (.iload_n 2, 1) := by decide +kernel
theorem dX12_readStatement_36 : decode cX12_readStatement 36 = .ok (.invokestatic 287, 3) := by decide +kernel
theorem dX12_readStatement_39 : decode cX12_readStatement 39 = .ok (.ifCond .ne 7, 3) := by decide +kernel
theorem dX12_readStatement_42 : decode cX12_readStatement 42 = .ok (.iconst 1, 1) := by decide +kernel
theorem dX12_readStatement_43 : decode cX12_readStatement 43 = .ok (.goto 4, 3) := by decide +kernel
theorem dX12_readStatement_46 : decode cX12_readStatement 46 = .ok (.iconst 0, 1) := by decide +kernel
theorem dX12_readStatement_47 : decode cX12_readStatement 47 = .ok (.putfield 267, 3) := by decide +kernel
theorem dX12_readStatement_50 : decode cX12_readStatement 50 = .ok (.aload_n 0, 1) := by decide +kernel
theorem dX12_readStatement_51 : decode cX12_readStatement 51 = .ok (.dup, 1) := by decide +kernel
theorem dX12_readStatement_52 : decode cX12_readStatement 52 = .ok (.getfield 261, 3) := by decide +kernel
theorem dX12_readStatement_55 : decode cX12_readStatement 55 = .ok (.aload_n 0, 1) := by decide +kernel
theorem dX12_readStatement_56 : decode cX12_readStatement 56 = .ok (.getfield 267, 3) := by decide +kernel
theorem dX12_readStatement_59 : decode cX12_readStatement 59 = .ok (.ifCond .eq 7, 3) := by decide +kernel
theorem dX12_readStatement_62 : decode cX12_readStatement 62 = .ok (.iconst 0, 1) := by decide +kernel
theorem dX12_readStatement_63 : decode cX12_readStatement 63 = .ok (.goto 4, 3) := by decide +kernel
theorem dX12_readStatement_66 : decode cX12_readStatement 66 = .ok (.iconst 1, 1) := by decide +kernel
theorem dX12_readStatement_67 : decode cX12_readStatement 67 = .ok (.iadd, 1) := by decide +kernel
theorem dX12_readStatement_68 : decode cX12_readStatement 68 = .ok (.putfield 261, 3) := by decide +kernel
theorem dX12_readStatement_71 : decode cX12_readStatement 71 = .ok (.aload_n 0, 1) := by decide +kernel
theorem dX12_readStatement_72 : decode cX12_readStatement 72 = .ok (.getfield 267, 3) := by decide +kernel
theorem dX12_readStatement_75 : decode cX12_readStatement 75 = .ok (.ifCond .ne 12, 3) := by decide +kernel
theorem dX12_readStatement_78 : decode cX12_readStatement 78 = .ok (.aload_n 0, 1) := by decide +kernel
theorem dX12_readStatement_79 : decode cX12_readStatement 79 = .ok (.iload_n 2, 1) := by decide +kernel
theorem dX12_readStatement_80 : decode cX12_readStatement 80 = .ok (.bipush 7, 2) := by decide +kernel
theorem dX12_readStatement_82 : decode cX12_readStatement 82 = .ok (.iload_n 1, 1) := by decide +kernel
theorem dX12_readStatement_83 : decode cX12_readStatement 83 = .ok (.imul, 1) := by decide +kernel
theorem dX12_readStatement_84 : decode cX12_readStatement 84 = .ok (.invokevirtual 291, 3) := by decide +kernel
theorem dX12_readStatement_87 : decode cX12_readStatement 87 = .ok (.aload_n 0, 1) := by decide +kernel
theorem dX12_readStatement_88 : decode cX12_readStatement 88 = .ok (.aload_n 0, 1) := by decide +kernel
theorem dX12_readStatement_89 : decode cX12_readStatement 89 = .ok (.getfield 267, 3) := by decide +kernel
theorem dX12_readStatement_92 : decode cX12_readStatement 92 = .ok (.ifCond .ne 12, 3) := by decide +kernel
theorem dX12_readStatement_95 : decode cX12_readStatement 95 = .ok (.aload_n 0, 1) := by decide +kernel
theorem dX12_readStatement_96 : decode cX12_readStatement 96 = .ok (.invokevirtual 270, 3) := by decide +kernel
theorem dX12_readStatement_99 : decode cX12_readStatement 99 = .ok (.bipush 59, 2) := by decide +kernel
theorem dX12_readStatement_101 : decode cX12_readStatement 101 = .ok (.if_icmp .eq 7, 3) := by decide +kernel
theorem dX12_readStatement_104 : decode cX12_readStatement 104 = .ok (.iconst 1, 1) := by decide +kernel
theorem dX12_readStatement_105 : decode cX12_readStatement 105 = .ok (.goto 4, 3) := by decide +kernel
theorem dX12_readStatement_108 : decode cX12_readStatement 108 = .ok (.iconst 0, 1) := by decide +kernel
theorem dX12_readStatement_109 : decode cX12_readStatement 109 = .ok (.putfield 267, 3) := by decide +kernel
theorem dX12_readStatement_112 : decode cX12_readStatement 112 = .ok (.aload_n 0, 1) := by decide +kernel
theorem dX12_readStatement_113 : decode cX12_readStatement 113 = .ok (.dup, 1) := by decide +kernel
theorem dX12_readStatement_114 : decode cX12_readStatement 114 = .ok (.getfield 261, 3) := by decide +kernel
theorem dX12_readStatement_117 : decode cX12_readStatement 117 = .ok (.aload_n 0, 1) := by decide +kernel
theorem dX12_readStatement_118 : decode cX12_readStatement 118 = .ok (.getfield 267, 3) := by decide +kernel
theorem dX12_readStatement_121 : decode cX12_readStatement 121 = .ok (.ifCond .eq 7, 3) := by decide +kernel
theorem dX12_readStatement_124 : decode cX12_readStatement 124 = .ok (.iconst 0, 1) := by decide +kernel
theorem dX12_readStatement_125 : decode cX12_readStatement 125 = .ok (.goto 4, 3) := by decide +kernel
theorem dX12_readStatement_128 : decode cX12_readStatement 128 = .ok (.iconst 1, 1) := by decide +kernel
theorem dX12_readStatement_129 : decode cX12_readStatement 129 = .ok (.iadd, 1) := by decide +kernel
theorem dX12_readStatement_130 : decode cX12_readStatement 130 = .ok (.putfield 261, 3) := by decide +kernel
theorem dX12_readStatement_133 : decode cX12_readStatement 133 = .ok (.aload_n 0, 1) := by decide +kernel
theorem dX12_readStatement_134 : decode cX12_readStatement 134 = .ok (.dup, 1) := by decide +kernel
theorem dX12_readStatement_135 : decode cX12_readStatement 135 = .ok (.getfield 284, 3) := by decide +kernel
theorem dX12_readStatement_138 : decode cX12_readStatement 138 = .ok (.iconst 1, 1) := by decide +kernel
theorem dX12_readStatement_139 : decode cX12_readStatement 139 = .ok (.iadd, 1) := by decide +kernel
theorem dX12_readStatement_140 : decode cX12_readStatement 140 = .ok (.putfield 284, 3) := by decide +kernel
theorem dX12_readStatement_143 : decode cX12_readStatement 143 = .ok (.return_, 1) := by decide +kernel
theorem dX12_factComes_0 : decode cX12_factComes 0 = .ok (.iload_n 1, 1) := by decide +kernel
theorem dX12_factComes_1 : decode cX12_factComes 1 = .ok (.invokestatic 294, 3) := by decide +kernel
theorem dX12_factComes_4 : decode cX12_factComes 4 = .ok (.ifCond .eq 23, 3) := by decide +kernel
theorem dX12_factComes_7 : decode cX12_factComes 7 = .ok (.iload_n 3, 1) := by decide +kernel
theorem dX12_factComes_8 : decode cX12_factComes 8 = .ok (.invokestatic 297, 3) := by decide +kernel
theorem dX12_factComes_11 : decode cX12_factComes 11 = .ok (.ifCond .eq 16, 3) := by decide +kernel
theorem dX12_factComes_14 : decode cX12_factComes 14 = .ok (.aload_n 0, 1) := by decide +kernel
theorem dX12_factComes_15 : decode cX12_factComes 15 = .ok (.getfield 181, 3) := by decide +kernel
theorem dX12_factComes_18 : decode cX12_factComes 18 = .ok (.bipush 6, 2) := by decide +kernel
theorem dX12_factComes_20 : decode cX12_factComes 20 = .ok (.if_icmp .ge 7, 3) := by decide +kernel
theorem dX12_factComes_23 : decode cX12_factComes 23 = .ok (.iconst 1, 1) := by decide +kernel
theorem dX12_factComes_24 : decode cX12_factComes 24 = .ok (.goto 4, 3) := by decide +kernel
theorem dX12_factComes_27 : decode cX12_factComes 27 = .ok (.iconst 0, 1) := by decide +kernel
theorem dX12_factComes_28 : decode cX12_factComes 28 = .ok (.istore 4, 2) := by decide +kernel
theorem dX12_factComes_30 : decode cX12_factComes 30 = .ok (.iload 4, 2) := by decide +kernel
theorem dX12_factComes_32 : decode cX12_factComes 32 = .ok (.ifCond .eq 54, 3) := by decide +kernel
theorem dX12_factComes_35 : decode cX12_factComes 35 = .ok (.aload_n 0, 1) := by decide +kernel
theorem dX12_factComes_36 : decode cX12_factComes 36 = .ok (.getfield 13, 3) := by decide +kernel
theorem dX12_factComes_39 : decode cX12_factComes 39 = .ok (.aload_n 0, 1) := by decide +kernel
theorem dX12_factComes_40 : decode cX12_factComes 40 = .ok (.getfield 181, 3) := by decide +kernel
theorem dX12_factComes_43 : decode cX12_factComes 43 = .ok (.iload_n 1, 1) := by decide +kernel
theorem dX12_factComes_44 : decode cX12_factComes 44 = .ok (.iastore, 1) := by decide +kernel
theorem dX12_factComes_45 : decode cX12_factComes 45 = .ok (.aload_n 0, 1) := by decide +kernel
theorem dX12_factComes_46 : decode cX12_factComes 46 = .ok (.getfield 16, 3) := by decide +kernel
theorem dX12_factComes_49 : decode cX12_factComes 49 = .ok (.aload_n 0, 1) := by decide +kernel
theorem dX12_factComes_50 : decode cX12_factComes 50 = .ok (.getfield 181, 3) := by decide +kernel
theorem dX12_factComes_53 : decode cX12_factComes 53 = .ok (.iload_n 2, 1) := by decide +kernel
theorem dX12_factComes_54 : decode cX12_factComes 54 = .ok (.iastore, 1) := by decide +kernel
theorem dX12_factComes_55 : decode cX12_factComes 55 = .ok (.aload_n 0, 1) := by decide +kernel
theorem dX12_factComes_56 : decode cX12_factComes 56 = .ok (.getfield 19, 3) := by decide +kernel
theorem dX12_factComes_59 : decode cX12_factComes 59 = .ok (.aload_n 0, 1) := by decide +kernel
theorem dX12_factComes_60 : decode cX12_factComes 60 = .ok (.getfield 181, 3) := by decide +kernel
theorem dX12_factComes_63 : decode cX12_factComes 63 = .ok (.iload_n 3, 1) := by decide +kernel
theorem dX12_factComes_64 : decode cX12_factComes 64 = .ok (.iastore, 1) := by decide +kernel
theorem dX12_factComes_65 : decode cX12_factComes 65 = .ok (.aload_n 0, 1) := by decide +kernel
theorem dX12_factComes_66 : decode cX12_factComes 66 = .ok (.getfield 22, 3) := by decide +kernel
theorem dX12_factComes_69 : decode cX12_factComes 69 = .ok (.aload_n 0, 1) := by decide +kernel
theorem dX12_factComes_70 : decode cX12_factComes 70 = .ok (.getfield 181, 3) := by decide +kernel
theorem dX12_factComes_73 : decode cX12_factComes 73 = .ok (.bipush 10, 2) := by decide +kernel
theorem dX12_factComes_75 : decode cX12_factComes 75 = .ok (.iastore, 1) := by decide +kernel
theorem dX12_factComes_76 : decode cX12_factComes 76 = .ok (.aload_n 0, 1) := by decide +kernel
theorem dX12_factComes_77 : decode cX12_factComes 77 = .ok (.dup, 1) := by decide +kernel
theorem dX12_factComes_78 : decode cX12_factComes 78 = .ok (.getfield 181, 3) := by decide +kernel
theorem dX12_factComes_81 : decode cX12_factComes 81 = .ok (.iconst 1, 1) := by decide +kernel
theorem dX12_factComes_82 : decode cX12_factComes 82 = .ok (.iadd, 1) := by decide +kernel
theorem dX12_factComes_83 : decode cX12_factComes 83 = .ok (.putfield 181, 3) := by decide +kernel
theorem dX12_factComes_86 : decode cX12_factComes 86 = .ok (.iload 4, 2) := by decide +kernel
theorem dX12_factComes_88 : decode cX12_factComes 88 = .ok (.ireturn, 1) := by decide +kernel
theorem dX12_oneComes_0 : decode cX12_oneComes 0 = .ok (.aload_n 0, 1) := by decide +kernel
theorem dX12_oneComes_1 : decode cX12_oneComes 1 = .ok (.getfield 50, 3) := by decide +kernel
theorem dX12_oneComes_4 : decode cX12_oneComes 4 = .ok (.aload_n 0, 1) := by decide +kernel
theorem dX12_oneComes_5 : decode cX12_oneComes 5 = .ok (.getfield 171, 3) := by decide +kernel
theorem dX12_oneComes_8 : decode cX12_oneComes 8 = .ok (.iload_n 1, 1) := by decide +kernel
theorem dX12_oneComes_9 : decode cX12_oneComes 9 = .ok (.iastore, 1) := by decide +kernel
theorem dX12_oneComes_10 : decode cX12_oneComes 10 = .ok (.aload_n 0, 1) := by decide +kernel
theorem dX12_oneComes_11 : decode cX12_oneComes 11 = .ok (.getfield 53, 3) := by decide +kernel
theorem dX12_oneComes_14 : decode cX12_oneComes 14 = .ok (.aload_n 0, 1) := by decide +kernel
theorem dX12_oneComes_15 : decode cX12_oneComes 15 = .ok (.getfield 171, 3) := by decide +kernel
theorem dX12_oneComes_18 : decode cX12_oneComes 18 = .ok (.iload_n 2, 1) := by decide +kernel
theorem dX12_oneComes_19 : decode cX12_oneComes 19 = .ok (.iastore, 1) := by decide +kernel
theorem dX12_oneComes_20 : decode cX12_oneComes 20 = .ok (.aload_n 0, 1) := by decide +kernel
theorem dX12_oneComes_21 : decode cX12_oneComes 21 = .ok (.getfield 56, 3) := by decide +kernel
theorem dX12_oneComes_24 : decode cX12_oneComes 24 = .ok (.aload_n 0, 1) := by decide +kernel
theorem dX12_oneComes_25 : decode cX12_oneComes 25 = .ok (.getfield 171, 3) := by decide +kernel
theorem dX12_oneComes_28 : decode cX12_oneComes 28 = .ok (.iload_n 3, 1) := by decide +kernel
theorem dX12_oneComes_29 : decode cX12_oneComes 29 = .ok (.iastore, 1) := by decide +kernel
theorem dX12_oneComes_30 : decode cX12_oneComes 30 = .ok (.aload_n 0, 1) := by decide +kernel
theorem dX12_oneComes_31 : decode cX12_oneComes 31 = .ok (.getfield 59, 3) := by decide +kernel
theorem dX12_oneComes_34 : decode cX12_oneComes 34 = .ok (.aload_n 0, 1) := by decide +kernel
theorem dX12_oneComes_35 : decode cX12_oneComes 35 = .ok (.getfield 171, 3) := by decide +kernel
theorem dX12_oneComes_38 : decode cX12_oneComes 38 = .ok (.iload 4, 2) := by decide +kernel
theorem dX12_oneComes_40 : decode cX12_oneComes 40 = .ok (.iastore, 1) := by decide +kernel
theorem dX12_oneComes_41 : decode cX12_oneComes 41 = .ok (.aload_n 0, 1) := by decide +kernel
theorem dX12_oneComes_42 : decode cX12_oneComes 42 = .ok (.getfield 62, 3) := by decide +kernel
theorem dX12_oneComes_45 : decode cX12_oneComes 45 = .ok (.aload_n 0, 1) := by decide +kernel
theorem dX12_oneComes_46 : decode cX12_oneComes 46 = .ok (.getfield 171, 3) := by decide +kernel
theorem dX12_oneComes_49 : decode cX12_oneComes 49 = .ok (.iload 5, 2) := by decide +kernel
theorem dX12_oneComes_51 : decode cX12_oneComes 51 = .ok (.iastore, 1) := by decide +kernel
theorem dX12_oneComes_52 : decode cX12_oneComes 52 = .ok (.aload_n 0, 1) := by decide +kernel
theorem dX12_oneComes_53 : decode cX12_oneComes 53 = .ok (.getfield 65, 3) := by decide +kernel
theorem dX12_oneComes_56 : decode cX12_oneComes 56 = .ok (.aload_n 0, 1) := by decide +kernel
theorem dX12_oneComes_57 : decode cX12_oneComes 57 = .ok (.getfield 171, 3) := by decide +kernel
theorem dX12_oneComes_60 : decode cX12_oneComes 60 = .ok (.iload 6, 2) := by decide +kernel
theorem dX12_oneComes_62 : decode cX12_oneComes 62 = .ok (.iastore, 1) := by decide +kernel
theorem dX12_oneComes_63 : decode cX12_oneComes 63 = .ok (.aload_n 0, 1) := by decide +kernel
theorem dX12_oneComes_64 : decode cX12_oneComes 64 = .ok (.dup, 1) := by decide +kernel
theorem dX12_oneComes_65 : decode cX12_oneComes 65 = .ok (.getfield 171, 3) := by decide +kernel
theorem dX12_oneComes_68 : decode cX12_oneComes 68 = .ok (.iconst 1, 1) := by decide +kernel
theorem dX12_oneComes_69 : decode cX12_oneComes 69 = .ok (.iadd, 1) := by decide +kernel
theorem dX12_oneComes_70 : decode cX12_oneComes 70 = .ok (.putfield 171, 3) := by decide +kernel
theorem dX12_oneComes_73 : decode cX12_oneComes 73 = .ok (.return_, 1) := by decide +kernel
theorem dX12_turnKin_0 : decode cX12_turnKin 0 = .ok (.aload_n 0, 1) := by decide +kernel
theorem dX12_turnKin_1 : decode cX12_turnKin 1 = .ok (.getfield 7, 3) := by decide +kernel
theorem dX12_turnKin_4 : decode cX12_turnKin 4 = .ok (.iconst 4, 1) := by decide +kernel
theorem dX12_turnKin_5 : decode cX12_turnKin 5 = .ok (.iload_n 1, 1) := by decide +kernel
theorem dX12_turnKin_6 : decode cX12_turnKin 6 = .ok (.imul, 1) := by decide +kernel
theorem dX12_turnKin_7 : decode cX12_turnKin 7 = .ok (.iload_n 2, 1) := by decide +kernel
theorem dX12_turnKin_8 : decode cX12_turnKin 8 = .ok (.iadd, 1) := by decide +kernel
theorem dX12_turnKin_9 : decode cX12_turnKin 9 = .ok (.iconst 1, 1) := by decide +kernel
theorem dX12_turnKin_10 : decode cX12_turnKin 10 = .ok (.aload_n 0, 1) := by decide +kernel
theorem dX12_turnKin_11 : decode cX12_turnKin 11 = .ok (.getfield 7, 3) := by decide +kernel
theorem dX12_turnKin_14 : decode cX12_turnKin 14 = .ok (.iconst 4, 1) := by decide +kernel
theorem dX12_turnKin_15 : decode cX12_turnKin 15 = .ok (.iload_n 1, 1) := by decide +kernel
theorem dX12_turnKin_16 : decode cX12_turnKin 16 = .ok (.imul, 1) := by decide +kernel
theorem dX12_turnKin_17 : decode cX12_turnKin 17 = .ok (.iload_n 2, 1) := by decide +kernel
theorem dX12_turnKin_18 : decode cX12_turnKin 18 = .ok (.iadd, 1) := by decide +kernel
theorem dX12_turnKin_19 : decode cX12_turnKin 19 = .ok (.iaload, 1) := by decide +kernel
theorem dX12_turnKin_20 : decode cX12_turnKin 20 = .ok (.isub, 1) := by decide +kernel
theorem dX12_turnKin_21 : decode cX12_turnKin 21 = .ok (.iastore, 1) := by decide +kernel
theorem dX12_turnKin_22 : decode cX12_turnKin 22 = .ok (.aload_n 0, 1) := by decide +kernel
theorem dX12_turnKin_23 : decode cX12_turnKin 23 = .ok (.getfield 7, 3) := by decide +kernel
theorem dX12_turnKin_26 : decode cX12_turnKin 26 = .ok (.iconst 4, 1) := by decide +kernel
theorem dX12_turnKin_27 : decode cX12_turnKin 27 = .ok (.iload_n 2, 1) := by decide +kernel
theorem dX12_turnKin_28 : decode cX12_turnKin 28 = .ok (.imul, 1) := by decide +kernel
theorem dX12_turnKin_29 : decode cX12_turnKin 29 = .ok (.iload_n 1, 1) := by decide +kernel
theorem dX12_turnKin_30 : decode cX12_turnKin 30 = .ok (.iadd, 1) := by decide +kernel
theorem dX12_turnKin_31 : decode cX12_turnKin 31 = .ok (.aload_n 0, 1) := by decide +kernel
theorem dX12_turnKin_32 : decode cX12_turnKin 32 = .ok (.getfield 7, 3) := by decide +kernel
theorem dX12_turnKin_35 : decode cX12_turnKin 35 = .ok (.iconst 4, 1) := by decide +kernel
theorem dX12_turnKin_36 : decode cX12_turnKin 36 = .ok (.iload_n 1, 1) := by decide +kernel
theorem dX12_turnKin_37 : decode cX12_turnKin 37 = .ok (.imul, 1) := by decide +kernel
theorem dX12_turnKin_38 : decode cX12_turnKin 38 = .ok (.iload_n 2, 1) := by decide +kernel
theorem dX12_turnKin_39 : decode cX12_turnKin 39 = .ok (.iadd, 1) := by decide +kernel
theorem dX12_turnKin_40 : decode cX12_turnKin 40 = .ok (.iaload, 1) := by decide +kernel
theorem dX12_turnKin_41 : decode cX12_turnKin 41 = .ok (.iastore, 1) := by decide +kernel
theorem dX12_turnKin_42 : decode cX12_turnKin 42 = .ok (.return_, 1) := by decide +kernel
theorem dX12_plantComes_0 : decode cX12_plantComes 0 = .ok (.aload_n 0, 1) := by decide +kernel
theorem dX12_plantComes_1 : decode cX12_plantComes 1 = .ok (.getfield 35, 3) := by decide +kernel
theorem dX12_plantComes_4 : decode cX12_plantComes 4 = .ok (.aload_n 0, 1) := by decide +kernel
theorem dX12_plantComes_5 : decode cX12_plantComes 5 = .ok (.getfield 232, 3) := by decide +kernel
theorem dX12_plantComes_8 : decode cX12_plantComes 8 = .ok (.iload_n 1, 1) := by decide +kernel
theorem dX12_plantComes_9 : decode cX12_plantComes 9 = .ok (.iastore, 1) := by decide +kernel
theorem dX12_plantComes_10 : decode cX12_plantComes 10 = .ok (.aload_n 0, 1) := by decide +kernel
theorem dX12_plantComes_11 : decode cX12_plantComes 11 = .ok (.getfield 38, 3) := by decide +kernel
theorem dX12_plantComes_14 : decode cX12_plantComes 14 = .ok (.aload_n 0, 1) := by decide +kernel
theorem dX12_plantComes_15 : decode cX12_plantComes 15 = .ok (.getfield 232, 3) := by decide +kernel
theorem dX12_plantComes_18 : decode cX12_plantComes 18 = .ok (.iload_n 2, 1) := by decide +kernel
theorem dX12_plantComes_19 : decode cX12_plantComes 19 = .ok (.iastore, 1) := by decide +kernel
theorem dX12_plantComes_20 : decode cX12_plantComes 20 = .ok (.aload_n 0, 1) := by decide +kernel
theorem dX12_plantComes_21 : decode cX12_plantComes 21 = .ok (.getfield 41, 3) := by decide +kernel
theorem dX12_plantComes_24 : decode cX12_plantComes 24 = .ok (.aload_n 0, 1) := by decide +kernel
theorem dX12_plantComes_25 : decode cX12_plantComes 25 = .ok (.getfield 232, 3) := by decide +kernel
theorem dX12_plantComes_28 : decode cX12_plantComes 28 = .ok (.iload_n 3, 1) := by decide +kernel
theorem dX12_plantComes_29 : decode cX12_plantComes 29 = .ok (.iastore, 1) := by decide +kernel
theorem dX12_plantComes_30 : decode cX12_plantComes 30 = .ok (.aload_n 0, 1) := by decide +kernel
theorem dX12_plantComes_31 : decode cX12_plantComes 31 = .ok (.getfield 44, 3) := by decide +kernel
theorem dX12_plantComes_34 : decode cX12_plantComes 34 = .ok (.aload_n 0, 1) := by decide +kernel
theorem dX12_plantComes_35 : decode cX12_plantComes 35 = .ok (.getfield 232, 3) := by decide +kernel
theorem dX12_plantComes_38 : decode cX12_plantComes 38 = .ok (.iload 4, 2) := by decide +kernel
theorem dX12_plantComes_40 : decode cX12_plantComes 40 = .ok (.iastore, 1) := by decide +kernel
theorem dX12_plantComes_41 : decode cX12_plantComes 41 = .ok (.aload_n 0, 1) := by decide +kernel
theorem dX12_plantComes_42 : decode cX12_plantComes 42 = .ok (.getfield 47, 3) := by decide +kernel
theorem dX12_plantComes_45 : decode cX12_plantComes 45 = .ok (.aload_n 0, 1) := by decide +kernel
theorem dX12_plantComes_46 : decode cX12_plantComes 46 = .ok (.getfield 232, 3) := by decide +kernel
theorem dX12_plantComes_49 : decode cX12_plantComes 49 = .ok (.iload 5, 2) := by decide +kernel
theorem dX12_plantComes_51 : decode cX12_plantComes 51 = .ok (.iastore, 1) := by decide +kernel
theorem dX12_plantComes_52 : decode cX12_plantComes 52 = .ok (.aload_n 0, 1) := by decide +kernel
theorem dX12_plantComes_53 : decode cX12_plantComes 53 = .ok (.dup, 1) := by decide +kernel
theorem dX12_plantComes_54 : decode cX12_plantComes 54 = .ok (.getfield 232, 3) := by decide +kernel
theorem dX12_plantComes_57 : decode cX12_plantComes 57 = .ok (.iconst 1, 1) := by decide +kernel
theorem dX12_plantComes_58 : decode cX12_plantComes 58 = .ok (.iadd, 1) := by decide +kernel
theorem dX12_plantComes_59 : decode cX12_plantComes 59 = .ok (.putfield 232, 3) := by decide +kernel
theorem dX12_plantComes_62 : decode cX12_plantComes 62 = .ok (.return_, 1) := by decide +kernel
def b_X12_readNumbers_331 (v2 : Int32) (S : St) : Option St := (L_X12_readDigits 1 S).bind fun r1 => gd (inb v2 357) (nm (si r1.2 176 v2.toNatClampNeg r1.1) fun S3 => some S3)
def b_X12_readNumbers_0 (v1 : Int32) (v2 : Int32) (S : St) : Option St := (if (v1 : Int32) = 102 then (L_X12_readDigits 1 S).bind fun r2 => gd (inb v2 357) (nm (si r2.2 176 v2.toNatClampNeg r2.1) fun S4 => (L_X12_readSign S4).bind fun r5 => gd (inb (v2 + 1) 357) (nm (si r5.2 176 (v2 + 1).toNatClampNeg r5.1) fun S7 => gd (inb (v2 + 1) 357) ((L_X12_readDigits 1 S7).bind fun r9 => gd (inb (v2 + 1) 357) (nm (si r9.2 176 (v2 + 1).toNatClampNeg ((gi S7 176 (v2 + 1).toNatClampNeg) * r9.1)) fun S11 => (L_X12_readDigits 2 S11).bind fun r12 => gd (inb (v2 + 2) 357) (nm (si r12.2 176 (v2 + 2).toNatClampNeg r12.1) fun S14 => some S14))))) else if (v1 : Int32) = 103 then (b_X12_readNumbers_331 v2 S) else if (v1 : Int32) = 104 then (b_X12_readNumbers_331 v2 S) else if (v1 : Int32) = 105 then (b_X12_readNumbers_331 v2 S) else if (v1 : Int32) = 106 then (b_X12_readNumbers_331 v2 S) else if (v1 : Int32) = 107 then (L_X12_readDigits 1 S).bind fun r20 => gd (inb v2 357) (nm (si r20.2 176 v2.toNatClampNeg r20.1) fun S22 => (L_X12_readDigits 1 S22).bind fun r23 => gd (inb (v2 + 1) 357) (nm (si r23.2 176 (v2 + 1).toNatClampNeg r23.1) fun S25 => some S25)) else if (v1 : Int32) = 108 then (b_X12_readNumbers_331 v2 S) else if (v1 : Int32) = 109 then (b_X12_readNumbers_331 v2 S) else if (v1 : Int32) = 110 then (b_X12_readNumbers_331 v2 S) else if (v1 : Int32) = 111 then (L_X12_readDigits 2 S).bind fun r30 => gd (inb v2 357) (nm (si r30.2 176 v2.toNatClampNeg r30.1) fun S32 => some S32) else if (v1 : Int32) = 112 then (L_X12_readDigits 1 S).bind fun r34 => gd (inb v2 357) (nm (si r34.2 176 v2.toNatClampNeg r34.1) fun S36 => (L_X12_readDigits 1 S36).bind fun r37 => gd (inb (v2 + 1) 357) (nm (si r37.2 176 (v2 + 1).toNatClampNeg r37.1) fun S39 => (L_X12_readDigits 1 S39).bind fun r40 => gd (inb (v2 + 2) 357) (nm (si r40.2 176 (v2 + 2).toNatClampNeg r40.1) fun S42 => (L_X12_readDigits 2 S42).bind fun r43 => gd (inb (v2 + 3) 357) (nm (si r43.2 176 (v2 + 3).toNatClampNeg r43.1) fun S45 => (L_X12_readSign S45).bind fun r46 => gd (inb (v2 + 4) 357) (nm (si r46.2 176 (v2 + 4).toNatClampNeg r46.1) fun S48 => gd (inb (v2 + 4) 357) ((L_X12_readDigits 1 S48).bind fun r50 => gd (inb (v2 + 4) 357) (nm (si r50.2 176 (v2 + 4).toNatClampNeg ((gi S48 176 (v2 + 4).toNatClampNeg) * r50.1)) fun S52 => (L_X12_readDigits 2 S52).bind fun r53 => gd (inb (v2 + 5) 357) (nm (si r53.2 176 (v2 + 5).toNatClampNeg r53.1) fun S55 => some S55)))))))) else if (v1 : Int32) = 113 then (b_X12_readNumbers_331 v2 S) else if (v1 : Int32) = 114 then (b_X12_readNumbers_331 v2 S) else if (v1 : Int32) = 115 then (b_X12_readNumbers_331 v2 S) else if (v1 : Int32) = 116 then (L_X12_readDigits 1 S).bind fun r60 => gd (inb v2 357) (nm (si r60.2 176 v2.toNatClampNeg r60.1) fun S62 => (L_X12_readSign S62).bind fun r63 => gd (inb (v2 + 1) 357) (nm (si r63.2 176 (v2 + 1).toNatClampNeg r63.1) fun S65 => (L_X12_readDigits 2 S65).bind fun r66 => gd (inb (v2 + 2) 357) (nm (si r66.2 176 (v2 + 2).toNatClampNeg r66.1) fun S68 => (L_X12_readDigits 2 S68).bind fun r69 => gd (inb (v2 + 3) 357) (nm (si r69.2 176 (v2 + 3).toNatClampNeg r69.1) fun S71 => (L_X12_readDigits 2 S71).bind fun r72 => gd (inb (v2 + 4) 357) (nm (si r72.2 176 (v2 + 4).toNatClampNeg r72.1) fun S74 => some S74))))) else (b_X12_readNumbers_331 v2 S))
def L_X12_readNumbers (a1 : Int32) (a2 : Int32) (S : St) : Option St := b_X12_readNumbers_0 a1 a2 S
def b_X12_readStatement_129 (s0 : Int32) (s1 : Int32) (S : St) : Option St := nm (si S 136 51 (s1 + s0)) fun S1 => nm (si S1 136 53 ((gi S1 136 53) + 1)) fun S2 => some S2
def b_X12_readStatement_109 (s0 : Int32) (S : St) : Option St := gd ((s0 : Int32) == 0 || (s0 : Int32) == 1) (nm (si S 136 52 s0) fun S1 => (if (gi S1 136 52 : Int32) = 0 then (b_X12_readStatement_129 1 (gi S1 136 51) S1) else (b_X12_readStatement_129 0 (gi S1 136 51) S1)))
def b_X12_readStatement_104 (S : St) : Option St := (b_X12_readStatement_109 1 S)
def b_X12_readStatement_87 (S : St) : Option St := (if (gi S 136 52 : Int32) = 0 then (L_X12_here S).bind fun r2 => (if (r2 : Int32) = 59 then (b_X12_readStatement_109 0 S) else (b_X12_readStatement_104 S)) else (b_X12_readStatement_104 S))
def b_X12_readStatement_67 (v1 : Int32) (v2 : Int32) (s0 : Int32) (s1 : Int32) (S : St) : Option St := nm (si S 136 51 (s1 + s0)) fun S1 => (if (gi S1 136 52 : Int32) = 0 then (L_X12_readNumbers v2 (7 * v1) S1).bind fun r3 => (b_X12_readStatement_87 r3) else (b_X12_readStatement_87 S1))
def b_X12_readStatement_47 (v1 : Int32) (v2 : Int32) (s0 : Int32) (S : St) : Option St := gd ((s0 : Int32) == 0 || (s0 : Int32) == 1) (nm (si S 136 52 s0) fun S1 => (if (gi S1 136 52 : Int32) = 0 then (b_X12_readStatement_67 v1 v2 1 (gi S1 136 51) S1) else (b_X12_readStatement_67 v1 v2 0 (gi S1 136 51) S1)))
def b_X12_readStatement_42 (v1 : Int32) (v2 : Int32) (S : St) : Option St := (b_X12_readStatement_47 v1 v2 1 S)
def b_X12_readStatement_0 (S : St) : Option St := (L_X12_here S).bind fun r1 => gd (inb (gi S 136 53) 51) (nm (si S 174 (gi S 136 53).toNatClampNeg (gi S 136 51)) fun S3 => gd (inb (gi S 136 53) 51) (nm (si S3 175 (gi S 136 53).toNatClampNeg r1) fun S5 => (if (gi S5 136 52 : Int32) = 0 then (L_X12_isLetter r1 S5).bind fun r7 => (if (r7 : Int32) = 0 then (b_X12_readStatement_42 (gi S 136 53) r1 S5) else (b_X12_readStatement_47 (gi S 136 53) r1 0 S5)) else (b_X12_readStatement_42 (gi S 136 53) r1 S5))))
def L_X12_readStatement (S : St) : Option St := b_X12_readStatement_0 S
def b_X12_factComes_28 (v1 : Int32) (v2 : Int32) (v3 : Int32) (s0 : Int32) (S : St) : Option (Int32 × St) := (if (s0 : Int32) = 0 then gd ((s0 : Int32) == 0 || (s0 : Int32) == 1) (some (s0, S)) else gd (inb (gi S 136 1) 6) (nm (si S 138 (gi S 136 1).toNatClampNeg v1) fun S4 => gd (inb (gi S4 136 1) 6) (nm (si S4 139 (gi S4 136 1).toNatClampNeg v2) fun S6 => gd (inb (gi S6 136 1) 6) (nm (si S6 140 (gi S6 136 1).toNatClampNeg v3) fun S8 => gd (inb (gi S8 136 1) 6) (nm (si S8 141 (gi S8 136 1).toNatClampNeg 10) fun S10 => nm (si S10 136 1 ((gi S10 136 1) + 1)) fun S11 => gd ((s0 : Int32) == 0 || (s0 : Int32) == 1) (some (s0, S11)))))))
def b_X12_factComes_27 (v1 : Int32) (v2 : Int32) (v3 : Int32) (S : St) : Option (Int32 × St) := (b_X12_factComes_28 v1 v2 v3 0 S)
def b_X12_factComes_0 (v1 : Int32) (v2 : Int32) (v3 : Int32) (S : St) : Option (Int32 × St) := (L_X12_isCase v1 S).bind fun r1 => (if (r1 : Int32) = 0 then (b_X12_factComes_27 v1 v2 v3 S) else (L_X12_isHour v3 S).bind fun r3 => (if (r3 : Int32) = 0 then (b_X12_factComes_27 v1 v2 v3 S) else (if (6 : Int32) ≤ (gi S 136 1) then (b_X12_factComes_27 v1 v2 v3 S) else (b_X12_factComes_28 v1 v2 v3 1 S))))
def L_X12_factComes (a1 : Int32) (a2 : Int32) (a3 : Int32) (S : St) : Option (Int32 × St) := b_X12_factComes_0 a1 a2 a3 S
def b_X12_oneComes_0 (v1 : Int32) (v2 : Int32) (v3 : Int32) (v4 : Int32) (v5 : Int32) (v6 : Int32) (S : St) : Option St := gd (inb (gi S 136 15) 8) (nm (si S 147 (gi S 136 15).toNatClampNeg v1) fun S2 => gd (inb (gi S2 136 15) 8) (nm (si S2 148 (gi S2 136 15).toNatClampNeg v2) fun S4 => gd (inb (gi S4 136 15) 8) (nm (si S4 149 (gi S4 136 15).toNatClampNeg v3) fun S6 => gd (inb (gi S6 136 15) 8) (nm (si S6 150 (gi S6 136 15).toNatClampNeg v4) fun S8 => gd (inb (gi S8 136 15) 8) (nm (si S8 151 (gi S8 136 15).toNatClampNeg v5) fun S10 => gd (inb (gi S10 136 15) 8) (nm (si S10 152 (gi S10 136 15).toNatClampNeg v6) fun S12 => nm (si S12 136 15 ((gi S12 136 15) + 1)) fun S13 => some S13))))))
def L_X12_oneComes (a1 : Int32) (a2 : Int32) (a3 : Int32) (a4 : Int32) (a5 : Int32) (a6 : Int32) (S : St) : Option St := b_X12_oneComes_0 a1 a2 a3 a4 a5 a6 S
def b_X12_turnKin_0 (v1 : Int32) (v2 : Int32) (S : St) : Option St := gd (inb ((4 * v1) + v2) 16) (gd (inb ((4 * v1) + v2) 16) (nm (si S 137 ((4 * v1) + v2).toNatClampNeg (1 - (gi S 137 ((4 * v1) + v2).toNatClampNeg))) fun S3 => gd (inb ((4 * v1) + v2) 16) (gd (inb ((4 * v2) + v1) 16) (nm (si S3 137 ((4 * v2) + v1).toNatClampNeg (gi S3 137 ((4 * v1) + v2).toNatClampNeg)) fun S6 => some S6))))
def L_X12_turnKin (a1 : Int32) (a2 : Int32) (S : St) : Option St := b_X12_turnKin_0 a1 a2 S
def b_X12_plantComes_0 (v1 : Int32) (v2 : Int32) (v3 : Int32) (v4 : Int32) (v5 : Int32) (S : St) : Option St := gd (inb (gi S 136 9) 4) (nm (si S 142 (gi S 136 9).toNatClampNeg v1) fun S2 => gd (inb (gi S2 136 9) 4) (nm (si S2 143 (gi S2 136 9).toNatClampNeg v2) fun S4 => gd (inb (gi S4 136 9) 4) (nm (si S4 144 (gi S4 136 9).toNatClampNeg v3) fun S6 => gd (inb (gi S6 136 9) 4) (nm (si S6 145 (gi S6 136 9).toNatClampNeg v4) fun S8 => gd (inb (gi S8 136 9) 4) (nm (si S8 146 (gi S8 136 9).toNatClampNeg v5) fun S10 => nm (si S10 136 9 ((gi S10 136 9) + 1)) fun S11 => some S11)))))
def L_X12_plantComes (a1 : Int32) (a2 : Int32) (a3 : Int32) (a4 : Int32) (a5 : Int32) (S : St) : Option St := b_X12_plantComes_0 a1 a2 a3 a4 a5 S
section WALKS
variable {p : Program} {e : Env} {s : State} {m : MethodId} {args : Array Value} {below : List Frame} {meth : Method} {c : Code} {D : va_G} {ct : Nat → ClassId} {B : Nat} {Hb : Heap}
set_option maxRecDepth 100000 in
set_option maxHeartbeats 4000000 in
theorem w_X12_readNumbers_331 (l : Launch) {V : St} (C0 : XC D ct p s m args meth c cX12_readNumbers 3 none RX12) (v2 : Int32) (S : St) {H : Heap} {locs : List Loc} {ls : Array Slot} (h : (b_X12_readNumbers_331 v2 S).bind some = some V) (hP : MP D ct B Hb S H) (hS : va_S (AB B) s.heap H locs) (hl : lv_has ls 3 [(0, .ref (B + 136)), (2, .int v2)]) : W p l e { frames := 2, cells := 0, slots := 0, locals := 48 } s m args below meth c H locs 0 0 (MQ below (qVw D ct B Hb V) args s 0 0 (AB B)) (F0 m 331 ls []) := by
  obtain ⟨hx, hb, hr, hml, hown, hts, hK, hlocks, hN⟩ := id C0
  unfold b_X12_readNumbers_331 at h
  refine lv_aload_n hx hb dX12_readNumbers_331 rfl (lv_at hl 0 rfl) ?_
  refine x_get C0 hP (lay_X12 B ct S) rfl inG12 56 (by decide) wd_1197 (fun _ h => h) rfl dX12_readNumbers_332 ?_
  refine lv_iload_n hx hb dX12_readNumbers_335 rfl (lv_at hl 1 rfl) ?_
  refine lv_aload_n hx hb dX12_readNumbers_336 rfl (lv_at hl 0 rfl) ?_
  refine lv_iconst (v := 1) hx hb dX12_readNumbers_337 (by decide) ?_
  obtain ⟨r1, hr1, h⟩ := ob_bd h
  refine n_Iw (kV (As := [.int 1]) C0 (c_X12_readDigits l 1 hr1) ⟨wd_1389, wd_1386, wd_1388, wp_26, wd_6⟩ kd_X12_readDigits ⟨Nat.le_of_ble_eq_true rfl, Nat.le_of_ble_eq_true rfl⟩ hP (lay_X12 B ct S) rfl rfl hl.1 rfl (Nat.le_of_ble_eq_true rfl) dX12_readNumbers_338 ⟨Nat.le_of_ble_eq_true rfl, Nat.le_of_ble_eq_true rfl⟩) hS (fun H locs hP hS => ?_)
  obtain ⟨g2, h⟩ := ob_gd h
  obtain ⟨S3, eS3, h⟩ := ob_nm h
  refine x_iast C0 hP hS (fun S => lay_176 B ct S) g2 dX12_readNumbers_341 (fun H locs hP hS => ?_)
  rw [← eS3] at hP
  exact r_Vw C0 hP hS h dX12_readNumbers_342
set_option maxRecDepth 100000 in
set_option maxHeartbeats 4000000 in
theorem w_X12_readNumbers_0 (l : Launch) {V : St} (C0 : XC D ct p s m args meth c cX12_readNumbers 3 none RX12) (v1 : Int32) (v2 : Int32) (S : St) {H : Heap} {locs : List Loc} {ls : Array Slot} (h : (b_X12_readNumbers_0 v1 v2 S).bind some = some V) (hP : MP D ct B Hb S H) (hS : va_S (AB B) s.heap H locs) (hl : lv_has ls 3 [(0, .ref (B + 136)), (1, .int v1), (2, .int v2)]) : W p l e { frames := 2, cells := 0, slots := 0, locals := 48 } s m args below meth c H locs 0 0 (MQ below (qVw D ct B Hb V) args s 0 0 (AB B)) (F0 m 0 ls []) := by
  obtain ⟨hx, hb, hr, hml, hown, hts, hK, hlocks, hN⟩ := id C0
  unfold b_X12_readNumbers_0 at h
  refine lv_iload_n hx hb dX12_readNumbers_0 rfl (lv_at hl 1 rfl) ?_
  rcases Decidable.em ((v1 : Int32) = 102) with z1 | z1
  · have h := ob_t h z1
    refine lv_tableIn (x := v1) (off := 75) (tgt := 76) hx hb dX12_readNumbers_1 (by rw [z1]; decide) (by rw [z1]; decide) (by rw [z1]; decide) (by decide) ?_
    refine lv_aload_n hx hb dX12_readNumbers_76 rfl (lv_at hl 0 rfl) ?_
    refine x_get C0 hP (lay_X12 B ct S) rfl inG12 56 (by decide) wd_1197 (fun _ h => h) rfl dX12_readNumbers_77 ?_
    refine lv_iload_n hx hb dX12_readNumbers_80 rfl (lv_at hl 2 rfl) ?_
    refine lv_aload_n hx hb dX12_readNumbers_81 rfl (lv_at hl 0 rfl) ?_
    refine lv_iconst (v := 1) hx hb dX12_readNumbers_82 (by decide) ?_
    obtain ⟨r2, hr2, h⟩ := ob_bd h
    refine n_Iw (kV (As := [.int 1]) C0 (c_X12_readDigits l 1 hr2) ⟨wd_1389, wd_1386, wd_1388, wp_26, wd_6⟩ kd_X12_readDigits ⟨Nat.le_of_ble_eq_true rfl, Nat.le_of_ble_eq_true rfl⟩ hP (lay_X12 B ct S) rfl rfl hl.1 rfl (Nat.le_of_ble_eq_true rfl) dX12_readNumbers_83 ⟨Nat.le_of_ble_eq_true rfl, Nat.le_of_ble_eq_true rfl⟩) hS (fun H locs hP hS => ?_)
    obtain ⟨g3, h⟩ := ob_gd h
    obtain ⟨S4, eS4, h⟩ := ob_nm h
    refine x_iast C0 hP hS (fun S => lay_176 B ct S) g3 dX12_readNumbers_86 (fun H locs hP hS => ?_)
    rw [← eS4] at hP
    refine lv_aload_n hx hb dX12_readNumbers_87 rfl (lv_at hl 0 rfl) ?_
    refine x_get C0 hP (lay_X12 B ct S4) rfl inG12 56 (by decide) wd_1197 (fun _ h => h) rfl dX12_readNumbers_88 ?_
    refine lv_iload_n hx hb dX12_readNumbers_91 rfl (lv_at hl 2 rfl) ?_
    refine lv_iconst (v := 1) hx hb dX12_readNumbers_92 (by decide) ?_
    refine lv_iadd hx hb dX12_readNumbers_93 ?_
    refine lv_aload_n hx hb dX12_readNumbers_94 rfl (lv_at hl 0 rfl) ?_
    obtain ⟨r5, hr5, h⟩ := ob_bd h
    refine n_Iw (kV (As := []) C0 (c_X12_readSign l hr5) ⟨wd_1395, wd_1392, wd_1394, wp_27, wd_6⟩ kd_X12_readSign ⟨Nat.le_of_ble_eq_true rfl, Nat.le_of_ble_eq_true rfl⟩ hP (lay_X12 B ct S4) rfl rfl hl.1 rfl (Nat.le_of_ble_eq_true rfl) dX12_readNumbers_95 ⟨Nat.le_of_ble_eq_true rfl, Nat.le_of_ble_eq_true rfl⟩) hS (fun H locs hP hS => ?_)
    obtain ⟨g6, h⟩ := ob_gd h
    obtain ⟨S7, eS7, h⟩ := ob_nm h
    refine x_iast C0 hP hS (fun S => lay_176 B ct S) g6 dX12_readNumbers_98 (fun H locs hP hS => ?_)
    rw [← eS7] at hP
    refine lv_aload_n hx hb dX12_readNumbers_99 rfl (lv_at hl 0 rfl) ?_
    refine x_get C0 hP (lay_X12 B ct S7) rfl inG12 56 (by decide) wd_1197 (fun _ h => h) rfl dX12_readNumbers_100 ?_
    refine lv_iload_n hx hb dX12_readNumbers_103 rfl (lv_at hl 2 rfl) ?_
    refine lv_iconst (v := 1) hx hb dX12_readNumbers_104 (by decide) ?_
    refine lv_iadd hx hb dX12_readNumbers_105 ?_
    refine lv_dup2_11 hx hb dX12_readNumbers_106 rfl rfl ?_
    obtain ⟨g8, h⟩ := ob_gd h
    refine x_iald C0 hP ((fun S => lay_176 B ct S) S7) g8 dX12_readNumbers_107 ?_
    refine lv_aload_n hx hb dX12_readNumbers_108 rfl (lv_at hl 0 rfl) ?_
    refine lv_iconst (v := 1) hx hb dX12_readNumbers_109 (by decide) ?_
    obtain ⟨r9, hr9, h⟩ := ob_bd h
    refine n_Iw (kV (As := [.int 1]) C0 (c_X12_readDigits l 1 hr9) ⟨wd_1389, wd_1386, wd_1388, wp_26, wd_6⟩ kd_X12_readDigits ⟨Nat.le_of_ble_eq_true rfl, Nat.le_of_ble_eq_true rfl⟩ hP (lay_X12 B ct S7) rfl rfl hl.1 rfl (Nat.le_of_ble_eq_true rfl) dX12_readNumbers_110 ⟨Nat.le_of_ble_eq_true rfl, Nat.le_of_ble_eq_true rfl⟩) hS (fun H locs hP hS => ?_)
    refine lv_imul hx hb dX12_readNumbers_113 ?_
    obtain ⟨g10, h⟩ := ob_gd h
    obtain ⟨S11, eS11, h⟩ := ob_nm h
    refine x_iast C0 hP hS (fun S => lay_176 B ct S) g10 dX12_readNumbers_114 (fun H locs hP hS => ?_)
    rw [← eS11] at hP
    refine lv_aload_n hx hb dX12_readNumbers_115 rfl (lv_at hl 0 rfl) ?_
    refine x_get C0 hP (lay_X12 B ct S11) rfl inG12 56 (by decide) wd_1197 (fun _ h => h) rfl dX12_readNumbers_116 ?_
    refine lv_iload_n hx hb dX12_readNumbers_119 rfl (lv_at hl 2 rfl) ?_
    refine lv_iconst (v := 2) hx hb dX12_readNumbers_120 (by decide) ?_
    refine lv_iadd hx hb dX12_readNumbers_121 ?_
    refine lv_aload_n hx hb dX12_readNumbers_122 rfl (lv_at hl 0 rfl) ?_
    refine lv_iconst (v := 2) hx hb dX12_readNumbers_123 (by decide) ?_
    obtain ⟨r12, hr12, h⟩ := ob_bd h
    refine n_Iw (kV (As := [.int 2]) C0 (c_X12_readDigits l 2 hr12) ⟨wd_1389, wd_1386, wd_1388, wp_26, wd_6⟩ kd_X12_readDigits ⟨Nat.le_of_ble_eq_true rfl, Nat.le_of_ble_eq_true rfl⟩ hP (lay_X12 B ct S11) rfl rfl hl.1 rfl (Nat.le_of_ble_eq_true rfl) dX12_readNumbers_124 ⟨Nat.le_of_ble_eq_true rfl, Nat.le_of_ble_eq_true rfl⟩) hS (fun H locs hP hS => ?_)
    obtain ⟨g13, h⟩ := ob_gd h
    obtain ⟨S14, eS14, h⟩ := ob_nm h
    refine x_iast C0 hP hS (fun S => lay_176 B ct S) g13 dX12_readNumbers_127 (fun H locs hP hS => ?_)
    rw [← eS14] at hP
    refine lv_goto (tgt := 342) hx hb dX12_readNumbers_128 (by decide) ?_
    exact r_Vw C0 hP hS h dX12_readNumbers_342
  · have h := ob_f h z1
    rcases Decidable.em ((v1 : Int32) = 103) with z15 | z15
    · have h := ob_t h z15
      refine lv_tableIn (x := v1) (off := 330) (tgt := 331) hx hb dX12_readNumbers_1 (by rw [z15]; decide) (by rw [z15]; decide) (by rw [z15]; decide) (by decide) ?_
      exact w_X12_readNumbers_331 l C0 v2 S h hP hS (lv_sub hl [0, 2] rfl)
    · have h := ob_f h z15
      rcases Decidable.em ((v1 : Int32) = 104) with z16 | z16
      · have h := ob_t h z16
        refine lv_tableIn (x := v1) (off := 330) (tgt := 331) hx hb dX12_readNumbers_1 (by rw [z16]; decide) (by rw [z16]; decide) (by rw [z16]; decide) (by decide) ?_
        exact w_X12_readNumbers_331 l C0 v2 S h hP hS (lv_sub hl [0, 2] rfl)
      · have h := ob_f h z16
        rcases Decidable.em ((v1 : Int32) = 105) with z17 | z17
        · have h := ob_t h z17
          refine lv_tableIn (x := v1) (off := 330) (tgt := 331) hx hb dX12_readNumbers_1 (by rw [z17]; decide) (by rw [z17]; decide) (by rw [z17]; decide) (by decide) ?_
          exact w_X12_readNumbers_331 l C0 v2 S h hP hS (lv_sub hl [0, 2] rfl)
        · have h := ob_f h z17
          rcases Decidable.em ((v1 : Int32) = 106) with z18 | z18
          · have h := ob_t h z18
            refine lv_tableIn (x := v1) (off := 330) (tgt := 331) hx hb dX12_readNumbers_1 (by rw [z18]; decide) (by rw [z18]; decide) (by rw [z18]; decide) (by decide) ?_
            exact w_X12_readNumbers_331 l C0 v2 S h hP hS (lv_sub hl [0, 2] rfl)
          · have h := ob_f h z18
            rcases Decidable.em ((v1 : Int32) = 107) with z19 | z19
            · have h := ob_t h z19
              refine lv_tableIn (x := v1) (off := 224) (tgt := 225) hx hb dX12_readNumbers_1 (by rw [z19]; decide) (by rw [z19]; decide) (by rw [z19]; decide) (by decide) ?_
              refine lv_aload_n hx hb dX12_readNumbers_225 rfl (lv_at hl 0 rfl) ?_
              refine x_get C0 hP (lay_X12 B ct S) rfl inG12 56 (by decide) wd_1197 (fun _ h => h) rfl dX12_readNumbers_226 ?_
              refine lv_iload_n hx hb dX12_readNumbers_229 rfl (lv_at hl 2 rfl) ?_
              refine lv_aload_n hx hb dX12_readNumbers_230 rfl (lv_at hl 0 rfl) ?_
              refine lv_iconst (v := 1) hx hb dX12_readNumbers_231 (by decide) ?_
              obtain ⟨r20, hr20, h⟩ := ob_bd h
              refine n_Iw (kV (As := [.int 1]) C0 (c_X12_readDigits l 1 hr20) ⟨wd_1389, wd_1386, wd_1388, wp_26, wd_6⟩ kd_X12_readDigits ⟨Nat.le_of_ble_eq_true rfl, Nat.le_of_ble_eq_true rfl⟩ hP (lay_X12 B ct S) rfl rfl hl.1 rfl (Nat.le_of_ble_eq_true rfl) dX12_readNumbers_232 ⟨Nat.le_of_ble_eq_true rfl, Nat.le_of_ble_eq_true rfl⟩) hS (fun H locs hP hS => ?_)
              obtain ⟨g21, h⟩ := ob_gd h
              obtain ⟨S22, eS22, h⟩ := ob_nm h
              refine x_iast C0 hP hS (fun S => lay_176 B ct S) g21 dX12_readNumbers_235 (fun H locs hP hS => ?_)
              rw [← eS22] at hP
              refine lv_aload_n hx hb dX12_readNumbers_236 rfl (lv_at hl 0 rfl) ?_
              refine x_get C0 hP (lay_X12 B ct S22) rfl inG12 56 (by decide) wd_1197 (fun _ h => h) rfl dX12_readNumbers_237 ?_
              refine lv_iload_n hx hb dX12_readNumbers_240 rfl (lv_at hl 2 rfl) ?_
              refine lv_iconst (v := 1) hx hb dX12_readNumbers_241 (by decide) ?_
              refine lv_iadd hx hb dX12_readNumbers_242 ?_
              refine lv_aload_n hx hb dX12_readNumbers_243 rfl (lv_at hl 0 rfl) ?_
              refine lv_iconst (v := 1) hx hb dX12_readNumbers_244 (by decide) ?_
              obtain ⟨r23, hr23, h⟩ := ob_bd h
              refine n_Iw (kV (As := [.int 1]) C0 (c_X12_readDigits l 1 hr23) ⟨wd_1389, wd_1386, wd_1388, wp_26, wd_6⟩ kd_X12_readDigits ⟨Nat.le_of_ble_eq_true rfl, Nat.le_of_ble_eq_true rfl⟩ hP (lay_X12 B ct S22) rfl rfl hl.1 rfl (Nat.le_of_ble_eq_true rfl) dX12_readNumbers_245 ⟨Nat.le_of_ble_eq_true rfl, Nat.le_of_ble_eq_true rfl⟩) hS (fun H locs hP hS => ?_)
              obtain ⟨g24, h⟩ := ob_gd h
              obtain ⟨S25, eS25, h⟩ := ob_nm h
              refine x_iast C0 hP hS (fun S => lay_176 B ct S) g24 dX12_readNumbers_248 (fun H locs hP hS => ?_)
              rw [← eS25] at hP
              refine lv_goto (tgt := 342) hx hb dX12_readNumbers_249 (by decide) ?_
              exact r_Vw C0 hP hS h dX12_readNumbers_342
            · have h := ob_f h z19
              rcases Decidable.em ((v1 : Int32) = 108) with z26 | z26
              · have h := ob_t h z26
                refine lv_tableIn (x := v1) (off := 330) (tgt := 331) hx hb dX12_readNumbers_1 (by rw [z26]; decide) (by rw [z26]; decide) (by rw [z26]; decide) (by decide) ?_
                exact w_X12_readNumbers_331 l C0 v2 S h hP hS (lv_sub hl [0, 2] rfl)
              · have h := ob_f h z26
                rcases Decidable.em ((v1 : Int32) = 109) with z27 | z27
                · have h := ob_t h z27
                  refine lv_tableIn (x := v1) (off := 330) (tgt := 331) hx hb dX12_readNumbers_1 (by rw [z27]; decide) (by rw [z27]; decide) (by rw [z27]; decide) (by decide) ?_
                  exact w_X12_readNumbers_331 l C0 v2 S h hP hS (lv_sub hl [0, 2] rfl)
                · have h := ob_f h z27
                  rcases Decidable.em ((v1 : Int32) = 110) with z28 | z28
                  · have h := ob_t h z28
                    refine lv_tableIn (x := v1) (off := 330) (tgt := 331) hx hb dX12_readNumbers_1 (by rw [z28]; decide) (by rw [z28]; decide) (by rw [z28]; decide) (by decide) ?_
                    exact w_X12_readNumbers_331 l C0 v2 S h hP hS (lv_sub hl [0, 2] rfl)
                  · have h := ob_f h z28
                    rcases Decidable.em ((v1 : Int32) = 111) with z29 | z29
                    · have h := ob_t h z29
                      refine lv_tableIn (x := v1) (off := 316) (tgt := 317) hx hb dX12_readNumbers_1 (by rw [z29]; decide) (by rw [z29]; decide) (by rw [z29]; decide) (by decide) ?_
                      refine lv_aload_n hx hb dX12_readNumbers_317 rfl (lv_at hl 0 rfl) ?_
                      refine x_get C0 hP (lay_X12 B ct S) rfl inG12 56 (by decide) wd_1197 (fun _ h => h) rfl dX12_readNumbers_318 ?_
                      refine lv_iload_n hx hb dX12_readNumbers_321 rfl (lv_at hl 2 rfl) ?_
                      refine lv_aload_n hx hb dX12_readNumbers_322 rfl (lv_at hl 0 rfl) ?_
                      refine lv_iconst (v := 2) hx hb dX12_readNumbers_323 (by decide) ?_
                      obtain ⟨r30, hr30, h⟩ := ob_bd h
                      refine n_Iw (kV (As := [.int 2]) C0 (c_X12_readDigits l 2 hr30) ⟨wd_1389, wd_1386, wd_1388, wp_26, wd_6⟩ kd_X12_readDigits ⟨Nat.le_of_ble_eq_true rfl, Nat.le_of_ble_eq_true rfl⟩ hP (lay_X12 B ct S) rfl rfl hl.1 rfl (Nat.le_of_ble_eq_true rfl) dX12_readNumbers_324 ⟨Nat.le_of_ble_eq_true rfl, Nat.le_of_ble_eq_true rfl⟩) hS (fun H locs hP hS => ?_)
                      obtain ⟨g31, h⟩ := ob_gd h
                      obtain ⟨S32, eS32, h⟩ := ob_nm h
                      refine x_iast C0 hP hS (fun S => lay_176 B ct S) g31 dX12_readNumbers_327 (fun H locs hP hS => ?_)
                      rw [← eS32] at hP
                      refine lv_goto (tgt := 342) hx hb dX12_readNumbers_328 (by decide) ?_
                      exact r_Vw C0 hP hS h dX12_readNumbers_342
                    · have h := ob_f h z29
                      rcases Decidable.em ((v1 : Int32) = 112) with z33 | z33
                      · have h := ob_t h z33
                        refine lv_tableIn (x := v1) (off := 130) (tgt := 131) hx hb dX12_readNumbers_1 (by rw [z33]; decide) (by rw [z33]; decide) (by rw [z33]; decide) (by decide) ?_
                        refine lv_aload_n hx hb dX12_readNumbers_131 rfl (lv_at hl 0 rfl) ?_
                        refine x_get C0 hP (lay_X12 B ct S) rfl inG12 56 (by decide) wd_1197 (fun _ h => h) rfl dX12_readNumbers_132 ?_
                        refine lv_iload_n hx hb dX12_readNumbers_135 rfl (lv_at hl 2 rfl) ?_
                        refine lv_aload_n hx hb dX12_readNumbers_136 rfl (lv_at hl 0 rfl) ?_
                        refine lv_iconst (v := 1) hx hb dX12_readNumbers_137 (by decide) ?_
                        obtain ⟨r34, hr34, h⟩ := ob_bd h
                        refine n_Iw (kV (As := [.int 1]) C0 (c_X12_readDigits l 1 hr34) ⟨wd_1389, wd_1386, wd_1388, wp_26, wd_6⟩ kd_X12_readDigits ⟨Nat.le_of_ble_eq_true rfl, Nat.le_of_ble_eq_true rfl⟩ hP (lay_X12 B ct S) rfl rfl hl.1 rfl (Nat.le_of_ble_eq_true rfl) dX12_readNumbers_138 ⟨Nat.le_of_ble_eq_true rfl, Nat.le_of_ble_eq_true rfl⟩) hS (fun H locs hP hS => ?_)
                        obtain ⟨g35, h⟩ := ob_gd h
                        obtain ⟨S36, eS36, h⟩ := ob_nm h
                        refine x_iast C0 hP hS (fun S => lay_176 B ct S) g35 dX12_readNumbers_141 (fun H locs hP hS => ?_)
                        rw [← eS36] at hP
                        refine lv_aload_n hx hb dX12_readNumbers_142 rfl (lv_at hl 0 rfl) ?_
                        refine x_get C0 hP (lay_X12 B ct S36) rfl inG12 56 (by decide) wd_1197 (fun _ h => h) rfl dX12_readNumbers_143 ?_
                        refine lv_iload_n hx hb dX12_readNumbers_146 rfl (lv_at hl 2 rfl) ?_
                        refine lv_iconst (v := 1) hx hb dX12_readNumbers_147 (by decide) ?_
                        refine lv_iadd hx hb dX12_readNumbers_148 ?_
                        refine lv_aload_n hx hb dX12_readNumbers_149 rfl (lv_at hl 0 rfl) ?_
                        refine lv_iconst (v := 1) hx hb dX12_readNumbers_150 (by decide) ?_
                        obtain ⟨r37, hr37, h⟩ := ob_bd h
                        refine n_Iw (kV (As := [.int 1]) C0 (c_X12_readDigits l 1 hr37) ⟨wd_1389, wd_1386, wd_1388, wp_26, wd_6⟩ kd_X12_readDigits ⟨Nat.le_of_ble_eq_true rfl, Nat.le_of_ble_eq_true rfl⟩ hP (lay_X12 B ct S36) rfl rfl hl.1 rfl (Nat.le_of_ble_eq_true rfl) dX12_readNumbers_151 ⟨Nat.le_of_ble_eq_true rfl, Nat.le_of_ble_eq_true rfl⟩) hS (fun H locs hP hS => ?_)
                        obtain ⟨g38, h⟩ := ob_gd h
                        obtain ⟨S39, eS39, h⟩ := ob_nm h
                        refine x_iast C0 hP hS (fun S => lay_176 B ct S) g38 dX12_readNumbers_154 (fun H locs hP hS => ?_)
                        rw [← eS39] at hP
                        refine lv_aload_n hx hb dX12_readNumbers_155 rfl (lv_at hl 0 rfl) ?_
                        refine x_get C0 hP (lay_X12 B ct S39) rfl inG12 56 (by decide) wd_1197 (fun _ h => h) rfl dX12_readNumbers_156 ?_
                        refine lv_iload_n hx hb dX12_readNumbers_159 rfl (lv_at hl 2 rfl) ?_
                        refine lv_iconst (v := 2) hx hb dX12_readNumbers_160 (by decide) ?_
                        refine lv_iadd hx hb dX12_readNumbers_161 ?_
                        refine lv_aload_n hx hb dX12_readNumbers_162 rfl (lv_at hl 0 rfl) ?_
                        refine lv_iconst (v := 1) hx hb dX12_readNumbers_163 (by decide) ?_
                        obtain ⟨r40, hr40, h⟩ := ob_bd h
                        refine n_Iw (kV (As := [.int 1]) C0 (c_X12_readDigits l 1 hr40) ⟨wd_1389, wd_1386, wd_1388, wp_26, wd_6⟩ kd_X12_readDigits ⟨Nat.le_of_ble_eq_true rfl, Nat.le_of_ble_eq_true rfl⟩ hP (lay_X12 B ct S39) rfl rfl hl.1 rfl (Nat.le_of_ble_eq_true rfl) dX12_readNumbers_164 ⟨Nat.le_of_ble_eq_true rfl, Nat.le_of_ble_eq_true rfl⟩) hS (fun H locs hP hS => ?_)
                        obtain ⟨g41, h⟩ := ob_gd h
                        obtain ⟨S42, eS42, h⟩ := ob_nm h
                        refine x_iast C0 hP hS (fun S => lay_176 B ct S) g41 dX12_readNumbers_167 (fun H locs hP hS => ?_)
                        rw [← eS42] at hP
                        refine lv_aload_n hx hb dX12_readNumbers_168 rfl (lv_at hl 0 rfl) ?_
                        refine x_get C0 hP (lay_X12 B ct S42) rfl inG12 56 (by decide) wd_1197 (fun _ h => h) rfl dX12_readNumbers_169 ?_
                        refine lv_iload_n hx hb dX12_readNumbers_172 rfl (lv_at hl 2 rfl) ?_
                        refine lv_iconst (v := 3) hx hb dX12_readNumbers_173 (by decide) ?_
                        refine lv_iadd hx hb dX12_readNumbers_174 ?_
                        refine lv_aload_n hx hb dX12_readNumbers_175 rfl (lv_at hl 0 rfl) ?_
                        refine lv_iconst (v := 2) hx hb dX12_readNumbers_176 (by decide) ?_
                        obtain ⟨r43, hr43, h⟩ := ob_bd h
                        refine n_Iw (kV (As := [.int 2]) C0 (c_X12_readDigits l 2 hr43) ⟨wd_1389, wd_1386, wd_1388, wp_26, wd_6⟩ kd_X12_readDigits ⟨Nat.le_of_ble_eq_true rfl, Nat.le_of_ble_eq_true rfl⟩ hP (lay_X12 B ct S42) rfl rfl hl.1 rfl (Nat.le_of_ble_eq_true rfl) dX12_readNumbers_177 ⟨Nat.le_of_ble_eq_true rfl, Nat.le_of_ble_eq_true rfl⟩) hS (fun H locs hP hS => ?_)
                        obtain ⟨g44, h⟩ := ob_gd h
                        obtain ⟨S45, eS45, h⟩ := ob_nm h
                        refine x_iast C0 hP hS (fun S => lay_176 B ct S) g44 dX12_readNumbers_180 (fun H locs hP hS => ?_)
                        rw [← eS45] at hP
                        refine lv_aload_n hx hb dX12_readNumbers_181 rfl (lv_at hl 0 rfl) ?_
                        refine x_get C0 hP (lay_X12 B ct S45) rfl inG12 56 (by decide) wd_1197 (fun _ h => h) rfl dX12_readNumbers_182 ?_
                        refine lv_iload_n hx hb dX12_readNumbers_185 rfl (lv_at hl 2 rfl) ?_
                        refine lv_iconst (v := 4) hx hb dX12_readNumbers_186 (by decide) ?_
                        refine lv_iadd hx hb dX12_readNumbers_187 ?_
                        refine lv_aload_n hx hb dX12_readNumbers_188 rfl (lv_at hl 0 rfl) ?_
                        obtain ⟨r46, hr46, h⟩ := ob_bd h
                        refine n_Iw (kV (As := []) C0 (c_X12_readSign l hr46) ⟨wd_1395, wd_1392, wd_1394, wp_27, wd_6⟩ kd_X12_readSign ⟨Nat.le_of_ble_eq_true rfl, Nat.le_of_ble_eq_true rfl⟩ hP (lay_X12 B ct S45) rfl rfl hl.1 rfl (Nat.le_of_ble_eq_true rfl) dX12_readNumbers_189 ⟨Nat.le_of_ble_eq_true rfl, Nat.le_of_ble_eq_true rfl⟩) hS (fun H locs hP hS => ?_)
                        obtain ⟨g47, h⟩ := ob_gd h
                        obtain ⟨S48, eS48, h⟩ := ob_nm h
                        refine x_iast C0 hP hS (fun S => lay_176 B ct S) g47 dX12_readNumbers_192 (fun H locs hP hS => ?_)
                        rw [← eS48] at hP
                        refine lv_aload_n hx hb dX12_readNumbers_193 rfl (lv_at hl 0 rfl) ?_
                        refine x_get C0 hP (lay_X12 B ct S48) rfl inG12 56 (by decide) wd_1197 (fun _ h => h) rfl dX12_readNumbers_194 ?_
                        refine lv_iload_n hx hb dX12_readNumbers_197 rfl (lv_at hl 2 rfl) ?_
                        refine lv_iconst (v := 4) hx hb dX12_readNumbers_198 (by decide) ?_
                        refine lv_iadd hx hb dX12_readNumbers_199 ?_
                        refine lv_dup2_11 hx hb dX12_readNumbers_200 rfl rfl ?_
                        obtain ⟨g49, h⟩ := ob_gd h
                        refine x_iald C0 hP ((fun S => lay_176 B ct S) S48) g49 dX12_readNumbers_201 ?_
                        refine lv_aload_n hx hb dX12_readNumbers_202 rfl (lv_at hl 0 rfl) ?_
                        refine lv_iconst (v := 1) hx hb dX12_readNumbers_203 (by decide) ?_
                        obtain ⟨r50, hr50, h⟩ := ob_bd h
                        refine n_Iw (kV (As := [.int 1]) C0 (c_X12_readDigits l 1 hr50) ⟨wd_1389, wd_1386, wd_1388, wp_26, wd_6⟩ kd_X12_readDigits ⟨Nat.le_of_ble_eq_true rfl, Nat.le_of_ble_eq_true rfl⟩ hP (lay_X12 B ct S48) rfl rfl hl.1 rfl (Nat.le_of_ble_eq_true rfl) dX12_readNumbers_204 ⟨Nat.le_of_ble_eq_true rfl, Nat.le_of_ble_eq_true rfl⟩) hS (fun H locs hP hS => ?_)
                        refine lv_imul hx hb dX12_readNumbers_207 ?_
                        obtain ⟨g51, h⟩ := ob_gd h
                        obtain ⟨S52, eS52, h⟩ := ob_nm h
                        refine x_iast C0 hP hS (fun S => lay_176 B ct S) g51 dX12_readNumbers_208 (fun H locs hP hS => ?_)
                        rw [← eS52] at hP
                        refine lv_aload_n hx hb dX12_readNumbers_209 rfl (lv_at hl 0 rfl) ?_
                        refine x_get C0 hP (lay_X12 B ct S52) rfl inG12 56 (by decide) wd_1197 (fun _ h => h) rfl dX12_readNumbers_210 ?_
                        refine lv_iload_n hx hb dX12_readNumbers_213 rfl (lv_at hl 2 rfl) ?_
                        refine lv_iconst (v := 5) hx hb dX12_readNumbers_214 (by decide) ?_
                        refine lv_iadd hx hb dX12_readNumbers_215 ?_
                        refine lv_aload_n hx hb dX12_readNumbers_216 rfl (lv_at hl 0 rfl) ?_
                        refine lv_iconst (v := 2) hx hb dX12_readNumbers_217 (by decide) ?_
                        obtain ⟨r53, hr53, h⟩ := ob_bd h
                        refine n_Iw (kV (As := [.int 2]) C0 (c_X12_readDigits l 2 hr53) ⟨wd_1389, wd_1386, wd_1388, wp_26, wd_6⟩ kd_X12_readDigits ⟨Nat.le_of_ble_eq_true rfl, Nat.le_of_ble_eq_true rfl⟩ hP (lay_X12 B ct S52) rfl rfl hl.1 rfl (Nat.le_of_ble_eq_true rfl) dX12_readNumbers_218 ⟨Nat.le_of_ble_eq_true rfl, Nat.le_of_ble_eq_true rfl⟩) hS (fun H locs hP hS => ?_)
                        obtain ⟨g54, h⟩ := ob_gd h
                        obtain ⟨S55, eS55, h⟩ := ob_nm h
                        refine x_iast C0 hP hS (fun S => lay_176 B ct S) g54 dX12_readNumbers_221 (fun H locs hP hS => ?_)
                        rw [← eS55] at hP
                        refine lv_goto (tgt := 342) hx hb dX12_readNumbers_222 (by decide) ?_
                        exact r_Vw C0 hP hS h dX12_readNumbers_342
                      · have h := ob_f h z33
                        rcases Decidable.em ((v1 : Int32) = 113) with z56 | z56
                        · have h := ob_t h z56
                          refine lv_tableIn (x := v1) (off := 330) (tgt := 331) hx hb dX12_readNumbers_1 (by rw [z56]; decide) (by rw [z56]; decide) (by rw [z56]; decide) (by decide) ?_
                          exact w_X12_readNumbers_331 l C0 v2 S h hP hS (lv_sub hl [0, 2] rfl)
                        · have h := ob_f h z56
                          rcases Decidable.em ((v1 : Int32) = 114) with z57 | z57
                          · have h := ob_t h z57
                            refine lv_tableIn (x := v1) (off := 330) (tgt := 331) hx hb dX12_readNumbers_1 (by rw [z57]; decide) (by rw [z57]; decide) (by rw [z57]; decide) (by decide) ?_
                            exact w_X12_readNumbers_331 l C0 v2 S h hP hS (lv_sub hl [0, 2] rfl)
                          · have h := ob_f h z57
                            rcases Decidable.em ((v1 : Int32) = 115) with z58 | z58
                            · have h := ob_t h z58
                              refine lv_tableIn (x := v1) (off := 330) (tgt := 331) hx hb dX12_readNumbers_1 (by rw [z58]; decide) (by rw [z58]; decide) (by rw [z58]; decide) (by decide) ?_
                              exact w_X12_readNumbers_331 l C0 v2 S h hP hS (lv_sub hl [0, 2] rfl)
                            · have h := ob_f h z58
                              rcases Decidable.em ((v1 : Int32) = 116) with z59 | z59
                              · have h := ob_t h z59
                                refine lv_tableIn (x := v1) (off := 251) (tgt := 252) hx hb dX12_readNumbers_1 (by rw [z59]; decide) (by rw [z59]; decide) (by rw [z59]; decide) (by decide) ?_
                                refine lv_aload_n hx hb dX12_readNumbers_252 rfl (lv_at hl 0 rfl) ?_
                                refine x_get C0 hP (lay_X12 B ct S) rfl inG12 56 (by decide) wd_1197 (fun _ h => h) rfl dX12_readNumbers_253 ?_
                                refine lv_iload_n hx hb dX12_readNumbers_256 rfl (lv_at hl 2 rfl) ?_
                                refine lv_aload_n hx hb dX12_readNumbers_257 rfl (lv_at hl 0 rfl) ?_
                                refine lv_iconst (v := 1) hx hb dX12_readNumbers_258 (by decide) ?_
                                obtain ⟨r60, hr60, h⟩ := ob_bd h
                                refine n_Iw (kV (As := [.int 1]) C0 (c_X12_readDigits l 1 hr60) ⟨wd_1389, wd_1386, wd_1388, wp_26, wd_6⟩ kd_X12_readDigits ⟨Nat.le_of_ble_eq_true rfl, Nat.le_of_ble_eq_true rfl⟩ hP (lay_X12 B ct S) rfl rfl hl.1 rfl (Nat.le_of_ble_eq_true rfl) dX12_readNumbers_259 ⟨Nat.le_of_ble_eq_true rfl, Nat.le_of_ble_eq_true rfl⟩) hS (fun H locs hP hS => ?_)
                                obtain ⟨g61, h⟩ := ob_gd h
                                obtain ⟨S62, eS62, h⟩ := ob_nm h
                                refine x_iast C0 hP hS (fun S => lay_176 B ct S) g61 dX12_readNumbers_262 (fun H locs hP hS => ?_)
                                rw [← eS62] at hP
                                refine lv_aload_n hx hb dX12_readNumbers_263 rfl (lv_at hl 0 rfl) ?_
                                refine x_get C0 hP (lay_X12 B ct S62) rfl inG12 56 (by decide) wd_1197 (fun _ h => h) rfl dX12_readNumbers_264 ?_
                                refine lv_iload_n hx hb dX12_readNumbers_267 rfl (lv_at hl 2 rfl) ?_
                                refine lv_iconst (v := 1) hx hb dX12_readNumbers_268 (by decide) ?_
                                refine lv_iadd hx hb dX12_readNumbers_269 ?_
                                refine lv_aload_n hx hb dX12_readNumbers_270 rfl (lv_at hl 0 rfl) ?_
                                obtain ⟨r63, hr63, h⟩ := ob_bd h
                                refine n_Iw (kV (As := []) C0 (c_X12_readSign l hr63) ⟨wd_1395, wd_1392, wd_1394, wp_27, wd_6⟩ kd_X12_readSign ⟨Nat.le_of_ble_eq_true rfl, Nat.le_of_ble_eq_true rfl⟩ hP (lay_X12 B ct S62) rfl rfl hl.1 rfl (Nat.le_of_ble_eq_true rfl) dX12_readNumbers_271 ⟨Nat.le_of_ble_eq_true rfl, Nat.le_of_ble_eq_true rfl⟩) hS (fun H locs hP hS => ?_)
                                obtain ⟨g64, h⟩ := ob_gd h
                                obtain ⟨S65, eS65, h⟩ := ob_nm h
                                refine x_iast C0 hP hS (fun S => lay_176 B ct S) g64 dX12_readNumbers_274 (fun H locs hP hS => ?_)
                                rw [← eS65] at hP
                                refine lv_aload_n hx hb dX12_readNumbers_275 rfl (lv_at hl 0 rfl) ?_
                                refine x_get C0 hP (lay_X12 B ct S65) rfl inG12 56 (by decide) wd_1197 (fun _ h => h) rfl dX12_readNumbers_276 ?_
                                refine lv_iload_n hx hb dX12_readNumbers_279 rfl (lv_at hl 2 rfl) ?_
                                refine lv_iconst (v := 2) hx hb dX12_readNumbers_280 (by decide) ?_
                                refine lv_iadd hx hb dX12_readNumbers_281 ?_
                                refine lv_aload_n hx hb dX12_readNumbers_282 rfl (lv_at hl 0 rfl) ?_
                                refine lv_iconst (v := 2) hx hb dX12_readNumbers_283 (by decide) ?_
                                obtain ⟨r66, hr66, h⟩ := ob_bd h
                                refine n_Iw (kV (As := [.int 2]) C0 (c_X12_readDigits l 2 hr66) ⟨wd_1389, wd_1386, wd_1388, wp_26, wd_6⟩ kd_X12_readDigits ⟨Nat.le_of_ble_eq_true rfl, Nat.le_of_ble_eq_true rfl⟩ hP (lay_X12 B ct S65) rfl rfl hl.1 rfl (Nat.le_of_ble_eq_true rfl) dX12_readNumbers_284 ⟨Nat.le_of_ble_eq_true rfl, Nat.le_of_ble_eq_true rfl⟩) hS (fun H locs hP hS => ?_)
                                obtain ⟨g67, h⟩ := ob_gd h
                                obtain ⟨S68, eS68, h⟩ := ob_nm h
                                refine x_iast C0 hP hS (fun S => lay_176 B ct S) g67 dX12_readNumbers_287 (fun H locs hP hS => ?_)
                                rw [← eS68] at hP
                                refine lv_aload_n hx hb dX12_readNumbers_288 rfl (lv_at hl 0 rfl) ?_
                                refine x_get C0 hP (lay_X12 B ct S68) rfl inG12 56 (by decide) wd_1197 (fun _ h => h) rfl dX12_readNumbers_289 ?_
                                refine lv_iload_n hx hb dX12_readNumbers_292 rfl (lv_at hl 2 rfl) ?_
                                refine lv_iconst (v := 3) hx hb dX12_readNumbers_293 (by decide) ?_
                                refine lv_iadd hx hb dX12_readNumbers_294 ?_
                                refine lv_aload_n hx hb dX12_readNumbers_295 rfl (lv_at hl 0 rfl) ?_
                                refine lv_iconst (v := 2) hx hb dX12_readNumbers_296 (by decide) ?_
                                obtain ⟨r69, hr69, h⟩ := ob_bd h
                                refine n_Iw (kV (As := [.int 2]) C0 (c_X12_readDigits l 2 hr69) ⟨wd_1389, wd_1386, wd_1388, wp_26, wd_6⟩ kd_X12_readDigits ⟨Nat.le_of_ble_eq_true rfl, Nat.le_of_ble_eq_true rfl⟩ hP (lay_X12 B ct S68) rfl rfl hl.1 rfl (Nat.le_of_ble_eq_true rfl) dX12_readNumbers_297 ⟨Nat.le_of_ble_eq_true rfl, Nat.le_of_ble_eq_true rfl⟩) hS (fun H locs hP hS => ?_)
                                obtain ⟨g70, h⟩ := ob_gd h
                                obtain ⟨S71, eS71, h⟩ := ob_nm h
                                refine x_iast C0 hP hS (fun S => lay_176 B ct S) g70 dX12_readNumbers_300 (fun H locs hP hS => ?_)
                                rw [← eS71] at hP
                                refine lv_aload_n hx hb dX12_readNumbers_301 rfl (lv_at hl 0 rfl) ?_
                                refine x_get C0 hP (lay_X12 B ct S71) rfl inG12 56 (by decide) wd_1197 (fun _ h => h) rfl dX12_readNumbers_302 ?_
                                refine lv_iload_n hx hb dX12_readNumbers_305 rfl (lv_at hl 2 rfl) ?_
                                refine lv_iconst (v := 4) hx hb dX12_readNumbers_306 (by decide) ?_
                                refine lv_iadd hx hb dX12_readNumbers_307 ?_
                                refine lv_aload_n hx hb dX12_readNumbers_308 rfl (lv_at hl 0 rfl) ?_
                                refine lv_iconst (v := 2) hx hb dX12_readNumbers_309 (by decide) ?_
                                obtain ⟨r72, hr72, h⟩ := ob_bd h
                                refine n_Iw (kV (As := [.int 2]) C0 (c_X12_readDigits l 2 hr72) ⟨wd_1389, wd_1386, wd_1388, wp_26, wd_6⟩ kd_X12_readDigits ⟨Nat.le_of_ble_eq_true rfl, Nat.le_of_ble_eq_true rfl⟩ hP (lay_X12 B ct S71) rfl rfl hl.1 rfl (Nat.le_of_ble_eq_true rfl) dX12_readNumbers_310 ⟨Nat.le_of_ble_eq_true rfl, Nat.le_of_ble_eq_true rfl⟩) hS (fun H locs hP hS => ?_)
                                obtain ⟨g73, h⟩ := ob_gd h
                                obtain ⟨S74, eS74, h⟩ := ob_nm h
                                refine x_iast C0 hP hS (fun S => lay_176 B ct S) g73 dX12_readNumbers_313 (fun H locs hP hS => ?_)
                                rw [← eS74] at hP
                                refine lv_goto (tgt := 342) hx hb dX12_readNumbers_314 (by decide) ?_
                                exact r_Vw C0 hP hS h dX12_readNumbers_342
                              · have h := ob_f h z59
                                refine lv_tableOut (x := v1) (tgt := 331) hx hb dX12_readNumbers_1 (sw_102_15 z1 z15 z16 z17 z18 z19 z26 z27 z28 z29 z33 z56 z57 z58 z59) (by decide) ?_
                                exact w_X12_readNumbers_331 l C0 v2 S h hP hS (lv_sub hl [0, 2] rfl)
set_option maxRecDepth 100000 in
set_option maxHeartbeats 4000000 in
theorem c_X12_readNumbers (l : Launch) (a1 : Int32) (a2 : Int32) {D : va_G} {ct : Nat → ClassId} {B : Nat} {Hb : Heap} {S : St} {V : St} (h : L_X12_readNumbers a1 a2 S = some V) : Met l yX12_readNumbers (Cond.code yX12_readNumbers cX12_readNumbers 3 none :: tG) { frames := 2, cells := 0, slots := 0, locals := 48 } (va_Pc [.ref (B + 136), .int a1, .int a2] (MPK D ct B Hb S)) (qVw D ct B Hb V) 0 0 (AB B) := by
  refine mk_met (by decide +kernel) (Nat.le_of_ble_eq_true rfl) (fun p e s m args below meth c ls C0 hP hl _ => ?_)
  have h := ob_of h
  exact w_X12_readNumbers_0 l C0 a1 a2 S h hP va_S.rf (lv_sub hl [0, 1, 2] rfl)
set_option maxRecDepth 100000 in
set_option maxHeartbeats 4000000 in
theorem w_X12_readStatement_129 (l : Launch) {V : St} (C0 : XC D ct p s m args meth c cX12_readStatement 3 none RX12) (s0 : Int32) (s1 : Int32) (S : St) {H : Heap} {locs : List Loc} {ls : Array Slot} (h : (b_X12_readStatement_129 s0 s1 S).bind some = some V) (hP : MP D ct B Hb S H) (hS : va_S (AB B) s.heap H locs) (hl : lv_has ls 3 [(0, .ref (B + 136))]) : W p l e { frames := 3, cells := 0, slots := 0, locals := 70 } s m args below meth c H locs 0 0 (MQ below (qVw D ct B Hb V) args s 0 0 (AB B)) (F0 m 129 ls [.int s0, .int s1, .ref (B + 136)]) := by
  obtain ⟨hx, hb, hr, hml, hown, hts, hK, hlocks, hN⟩ := id C0
  unfold b_X12_readStatement_129 at h
  refine lv_iadd hx hb dX12_readStatement_129 ?_
  obtain ⟨S1, eS1, h⟩ := ob_nm h
  refine x_put (S' := si S 136 51 (s1 + s0)) (FS := (fs12 B)) C0 hP hS (fun S => lay_X12 B ct S) rfl inG12 tyX12 tyX12_ok nmX12 51 (by decide) wd_1192 rfl rfl (fun a ha => lay_local (gi_si_n _ _ _ ha) rfl rfl rfl) (put_12_51 B _ _) rfl rfl (Nat.le_of_ble_eq_true rfl) dX12_readStatement_130 (fun H locs hP hS => ?_)
  rw [← eS1] at hP
  refine lv_aload_n hx hb dX12_readStatement_133 rfl (lv_at hl 0 rfl) ?_
  refine lv_dup hx hb dX12_readStatement_134 rfl ?_
  refine x_get C0 hP (lay_X12 B ct S1) rfl inG12 53 (by decide) wd_1194 (fun _ h => h) rfl dX12_readStatement_135 ?_
  refine lv_iconst (v := 1) hx hb dX12_readStatement_138 (by decide) ?_
  refine lv_iadd hx hb dX12_readStatement_139 ?_
  obtain ⟨S2, eS2, h⟩ := ob_nm h
  refine x_put (S' := si S1 136 53 ((gi S1 136 53) + 1)) (FS := (fs12 B)) C0 hP hS (fun S => lay_X12 B ct S) rfl inG12 tyX12 tyX12_ok nmX12 53 (by decide) wd_1194 rfl rfl (fun a ha => lay_local (gi_si_n _ _ _ ha) rfl rfl rfl) (put_12_53 B _ _) rfl rfl (Nat.le_of_ble_eq_true rfl) dX12_readStatement_140 (fun H locs hP hS => ?_)
  rw [← eS2] at hP
  exact r_Vw C0 hP hS h dX12_readStatement_143
set_option maxRecDepth 100000 in
set_option maxHeartbeats 4000000 in
theorem w_X12_readStatement_109 (l : Launch) {V : St} (C0 : XC D ct p s m args meth c cX12_readStatement 3 none RX12) (s0 : Int32) (S : St) {H : Heap} {locs : List Loc} {ls : Array Slot} (h : (b_X12_readStatement_109 s0 S).bind some = some V) (hP : MP D ct B Hb S H) (hS : va_S (AB B) s.heap H locs) (hl : lv_has ls 3 [(0, .ref (B + 136))]) : W p l e { frames := 3, cells := 0, slots := 0, locals := 70 } s m args below meth c H locs 0 0 (MQ below (qVw D ct B Hb V) args s 0 0 (AB B)) (F0 m 109 ls [.int s0, .ref (B + 136)]) := by
  obtain ⟨hx, hb, hr, hml, hown, hts, hK, hlocks, hN⟩ := id C0
  unfold b_X12_readStatement_109 at h
  obtain ⟨g2, h⟩ := ob_gd h
  obtain ⟨S1, eS1, h⟩ := ob_nm h
  refine x_put (S' := si S 136 52 s0) (FS := (fs12 B)) C0 hP hS (fun S => lay_X12 B ct S) rfl inG12 tyX12 tyX12_ok nmX12 52 (by decide) wd_1193 rfl rfl (fun a ha => lay_local (gi_si_n _ _ _ ha) rfl rfl rfl) (put_12_52 B _ _) (bool_n g2) (bool_f g2) (Nat.le_of_ble_eq_true rfl) dX12_readStatement_109 (fun H locs hP hS => ?_)
  rw [← eS1] at hP
  refine lv_aload_n hx hb dX12_readStatement_112 rfl (lv_at hl 0 rfl) ?_
  refine lv_dup hx hb dX12_readStatement_113 rfl ?_
  refine x_get C0 hP (lay_X12 B ct S1) rfl inG12 51 (by decide) wd_1192 (fun _ h => h) rfl dX12_readStatement_114 ?_
  refine lv_aload_n hx hb dX12_readStatement_117 rfl (lv_at hl 0 rfl) ?_
  refine x_get C0 hP (lay_X12 B ct S1) rfl inG12 52 (by decide) wd_1193 (fun _ h => h) rfl dX12_readStatement_118 ?_
  refine lv_if_eq (tgt := 128) hx hb dX12_readStatement_121 (by decide) (fun z3 => ?_) (fun z3 => ?_)
  · have h := ob_t h z3
    refine lv_iconst (v := 1) hx hb dX12_readStatement_128 (by decide) ?_
    exact w_X12_readStatement_129 l C0 1 (gi S1 136 51) S1 h hP hS (lv_sub hl [0] rfl)
  · have h := ob_f h z3
    refine lv_iconst (v := 0) hx hb dX12_readStatement_124 (by decide) ?_
    refine lv_goto (tgt := 129) hx hb dX12_readStatement_125 (by decide) ?_
    exact w_X12_readStatement_129 l C0 0 (gi S1 136 51) S1 h hP hS (lv_sub hl [0] rfl)
set_option maxRecDepth 100000 in
set_option maxHeartbeats 4000000 in
theorem w_X12_readStatement_104 (l : Launch) {V : St} (C0 : XC D ct p s m args meth c cX12_readStatement 3 none RX12) (S : St) {H : Heap} {locs : List Loc} {ls : Array Slot} (h : (b_X12_readStatement_104 S).bind some = some V) (hP : MP D ct B Hb S H) (hS : va_S (AB B) s.heap H locs) (hl : lv_has ls 3 [(0, .ref (B + 136))]) : W p l e { frames := 3, cells := 0, slots := 0, locals := 70 } s m args below meth c H locs 0 0 (MQ below (qVw D ct B Hb V) args s 0 0 (AB B)) (F0 m 104 ls [.ref (B + 136)]) := by
  obtain ⟨hx, hb, hr, hml, hown, hts, hK, hlocks, hN⟩ := id C0
  unfold b_X12_readStatement_104 at h
  refine lv_iconst (v := 1) hx hb dX12_readStatement_104 (by decide) ?_
  refine lv_goto (tgt := 109) hx hb dX12_readStatement_105 (by decide) ?_
  exact w_X12_readStatement_109 l C0 1 S h hP hS (lv_sub hl [0] rfl)
set_option maxRecDepth 100000 in
set_option maxHeartbeats 4000000 in
theorem w_X12_readStatement_87 (l : Launch) {V : St} (C0 : XC D ct p s m args meth c cX12_readStatement 3 none RX12) (S : St) {H : Heap} {locs : List Loc} {ls : Array Slot} (h : (b_X12_readStatement_87 S).bind some = some V) (hP : MP D ct B Hb S H) (hS : va_S (AB B) s.heap H locs) (hl : lv_has ls 3 [(0, .ref (B + 136))]) : W p l e { frames := 3, cells := 0, slots := 0, locals := 70 } s m args below meth c H locs 0 0 (MQ below (qVw D ct B Hb V) args s 0 0 (AB B)) (F0 m 87 ls []) := by
  obtain ⟨hx, hb, hr, hml, hown, hts, hK, hlocks, hN⟩ := id C0
  unfold b_X12_readStatement_87 at h
  refine lv_aload_n hx hb dX12_readStatement_87 rfl (lv_at hl 0 rfl) ?_
  refine lv_aload_n hx hb dX12_readStatement_88 rfl (lv_at hl 0 rfl) ?_
  refine x_get C0 hP (lay_X12 B ct S) rfl inG12 52 (by decide) wd_1193 (fun _ h => h) rfl dX12_readStatement_89 ?_
  refine lv_if_ne (tgt := 104) hx hb dX12_readStatement_92 (by decide) (fun z1 => ?_) (fun z1 => ?_)
  · have h := ob_f h z1
    exact w_X12_readStatement_104 l C0 S h hP hS (lv_sub hl [0] rfl)
  · have h := ob_t h z1
    refine lv_aload_n hx hb dX12_readStatement_95 rfl (lv_at hl 0 rfl) ?_
    obtain ⟨r2, hr2, h⟩ := ob_bd h
    refine n_I (kV (As := []) C0 (c_X12_here l hr2) ⟨wd_1378, wd_1375, wd_1377, wp_24, wd_6⟩ kd_X12_here ⟨Nat.le_of_ble_eq_true rfl, Nat.le_of_ble_eq_true rfl⟩ hP (lay_X12 B ct S) rfl rfl hl.1 rfl (Nat.le_of_ble_eq_true rfl) dX12_readStatement_96 ⟨Nat.le_of_ble_eq_true rfl, Nat.le_of_ble_eq_true rfl⟩) hS (fun H locs hP hS => ?_)
    refine lv_bipush (v := 59) hx hb dX12_readStatement_99 (by decide) ?_
    refine lv_icmp_eq (tgt := 108) hx hb dX12_readStatement_101 (by decide) (fun z3 => ?_) (fun z3 => ?_)
    · have h := ob_t h z3
      refine lv_iconst (v := 0) hx hb dX12_readStatement_108 (by decide) ?_
      exact w_X12_readStatement_109 l C0 0 S h hP hS (lv_sub hl [0] rfl)
    · have h := ob_f h z3
      exact w_X12_readStatement_104 l C0 S h hP hS (lv_sub hl [0] rfl)
set_option maxRecDepth 100000 in
set_option maxHeartbeats 4000000 in
theorem w_X12_readStatement_67 (l : Launch) {V : St} (C0 : XC D ct p s m args meth c cX12_readStatement 3 none RX12) (v1 : Int32) (v2 : Int32) (s0 : Int32) (s1 : Int32) (S : St) {H : Heap} {locs : List Loc} {ls : Array Slot} (h : (b_X12_readStatement_67 v1 v2 s0 s1 S).bind some = some V) (hP : MP D ct B Hb S H) (hS : va_S (AB B) s.heap H locs) (hl : lv_has ls 3 [(0, .ref (B + 136)), (1, .int v1), (2, .int v2)]) : W p l e { frames := 3, cells := 0, slots := 0, locals := 70 } s m args below meth c H locs 0 0 (MQ below (qVw D ct B Hb V) args s 0 0 (AB B)) (F0 m 67 ls [.int s0, .int s1, .ref (B + 136)]) := by
  obtain ⟨hx, hb, hr, hml, hown, hts, hK, hlocks, hN⟩ := id C0
  unfold b_X12_readStatement_67 at h
  refine lv_iadd hx hb dX12_readStatement_67 ?_
  obtain ⟨S1, eS1, h⟩ := ob_nm h
  refine x_put (S' := si S 136 51 (s1 + s0)) (FS := (fs12 B)) C0 hP hS (fun S => lay_X12 B ct S) rfl inG12 tyX12 tyX12_ok nmX12 51 (by decide) wd_1192 rfl rfl (fun a ha => lay_local (gi_si_n _ _ _ ha) rfl rfl rfl) (put_12_51 B _ _) rfl rfl (Nat.le_of_ble_eq_true rfl) dX12_readStatement_68 (fun H locs hP hS => ?_)
  rw [← eS1] at hP
  refine lv_aload_n hx hb dX12_readStatement_71 rfl (lv_at hl 0 rfl) ?_
  refine x_get C0 hP (lay_X12 B ct S1) rfl inG12 52 (by decide) wd_1193 (fun _ h => h) rfl dX12_readStatement_72 ?_
  refine lv_if_ne (tgt := 87) hx hb dX12_readStatement_75 (by decide) (fun z2 => ?_) (fun z2 => ?_)
  · have h := ob_f h z2
    exact w_X12_readStatement_87 l C0 S1 h hP hS (lv_sub hl [0] rfl)
  · have h := ob_t h z2
    refine lv_aload_n hx hb dX12_readStatement_78 rfl (lv_at hl 0 rfl) ?_
    refine lv_iload_n hx hb dX12_readStatement_79 rfl (lv_at hl 2 rfl) ?_
    refine lv_bipush (v := 7) hx hb dX12_readStatement_80 (by decide) ?_
    refine lv_iload_n hx hb dX12_readStatement_82 rfl (lv_at hl 1 rfl) ?_
    refine lv_imul hx hb dX12_readStatement_83 ?_
    obtain ⟨r3, hr3, h⟩ := ob_bd h
    refine n_Vw (kV (As := [.int v2, .int (7 * v1)]) C0 (c_X12_readNumbers l v2 (7 * v1) hr3) ⟨wd_1385, wd_1382, wd_1384, wp_25, wd_6⟩ kd_X12_readNumbers ⟨Nat.le_of_ble_eq_true rfl, Nat.le_of_ble_eq_true rfl⟩ hP (lay_X12 B ct S1) rfl rfl hl.1 rfl (Nat.le_of_ble_eq_true rfl) dX12_readStatement_84 ⟨Nat.le_of_ble_eq_true rfl, Nat.le_of_ble_eq_true rfl⟩) hS (fun H locs hP hS => ?_)
    exact w_X12_readStatement_87 l C0 r3 h hP hS (lv_sub hl [0] rfl)
set_option maxRecDepth 100000 in
set_option maxHeartbeats 4000000 in
theorem w_X12_readStatement_47 (l : Launch) {V : St} (C0 : XC D ct p s m args meth c cX12_readStatement 3 none RX12) (v1 : Int32) (v2 : Int32) (s0 : Int32) (S : St) {H : Heap} {locs : List Loc} {ls : Array Slot} (h : (b_X12_readStatement_47 v1 v2 s0 S).bind some = some V) (hP : MP D ct B Hb S H) (hS : va_S (AB B) s.heap H locs) (hl : lv_has ls 3 [(0, .ref (B + 136)), (1, .int v1), (2, .int v2)]) : W p l e { frames := 3, cells := 0, slots := 0, locals := 70 } s m args below meth c H locs 0 0 (MQ below (qVw D ct B Hb V) args s 0 0 (AB B)) (F0 m 47 ls [.int s0, .ref (B + 136)]) := by
  obtain ⟨hx, hb, hr, hml, hown, hts, hK, hlocks, hN⟩ := id C0
  unfold b_X12_readStatement_47 at h
  obtain ⟨g2, h⟩ := ob_gd h
  obtain ⟨S1, eS1, h⟩ := ob_nm h
  refine x_put (S' := si S 136 52 s0) (FS := (fs12 B)) C0 hP hS (fun S => lay_X12 B ct S) rfl inG12 tyX12 tyX12_ok nmX12 52 (by decide) wd_1193 rfl rfl (fun a ha => lay_local (gi_si_n _ _ _ ha) rfl rfl rfl) (put_12_52 B _ _) (bool_n g2) (bool_f g2) (Nat.le_of_ble_eq_true rfl) dX12_readStatement_47 (fun H locs hP hS => ?_)
  rw [← eS1] at hP
  refine lv_aload_n hx hb dX12_readStatement_50 rfl (lv_at hl 0 rfl) ?_
  refine lv_dup hx hb dX12_readStatement_51 rfl ?_
  refine x_get C0 hP (lay_X12 B ct S1) rfl inG12 51 (by decide) wd_1192 (fun _ h => h) rfl dX12_readStatement_52 ?_
  refine lv_aload_n hx hb dX12_readStatement_55 rfl (lv_at hl 0 rfl) ?_
  refine x_get C0 hP (lay_X12 B ct S1) rfl inG12 52 (by decide) wd_1193 (fun _ h => h) rfl dX12_readStatement_56 ?_
  refine lv_if_eq (tgt := 66) hx hb dX12_readStatement_59 (by decide) (fun z3 => ?_) (fun z3 => ?_)
  · have h := ob_t h z3
    refine lv_iconst (v := 1) hx hb dX12_readStatement_66 (by decide) ?_
    exact w_X12_readStatement_67 l C0 v1 v2 1 (gi S1 136 51) S1 h hP hS (lv_sub hl [0, 1, 2] rfl)
  · have h := ob_f h z3
    refine lv_iconst (v := 0) hx hb dX12_readStatement_62 (by decide) ?_
    refine lv_goto (tgt := 67) hx hb dX12_readStatement_63 (by decide) ?_
    exact w_X12_readStatement_67 l C0 v1 v2 0 (gi S1 136 51) S1 h hP hS (lv_sub hl [0, 1, 2] rfl)
set_option maxRecDepth 100000 in
set_option maxHeartbeats 4000000 in
theorem w_X12_readStatement_42 (l : Launch) {V : St} (C0 : XC D ct p s m args meth c cX12_readStatement 3 none RX12) (v1 : Int32) (v2 : Int32) (S : St) {H : Heap} {locs : List Loc} {ls : Array Slot} (h : (b_X12_readStatement_42 v1 v2 S).bind some = some V) (hP : MP D ct B Hb S H) (hS : va_S (AB B) s.heap H locs) (hl : lv_has ls 3 [(0, .ref (B + 136)), (1, .int v1), (2, .int v2)]) : W p l e { frames := 3, cells := 0, slots := 0, locals := 70 } s m args below meth c H locs 0 0 (MQ below (qVw D ct B Hb V) args s 0 0 (AB B)) (F0 m 42 ls [.ref (B + 136)]) := by
  obtain ⟨hx, hb, hr, hml, hown, hts, hK, hlocks, hN⟩ := id C0
  unfold b_X12_readStatement_42 at h
  refine lv_iconst (v := 1) hx hb dX12_readStatement_42 (by decide) ?_
  refine lv_goto (tgt := 47) hx hb dX12_readStatement_43 (by decide) ?_
  exact w_X12_readStatement_47 l C0 v1 v2 1 S h hP hS (lv_sub hl [0, 1, 2] rfl)
set_option maxRecDepth 100000 in
set_option maxHeartbeats 4000000 in
theorem w_X12_readStatement_0 (l : Launch) {V : St} (C0 : XC D ct p s m args meth c cX12_readStatement 3 none RX12) (S : St) {H : Heap} {locs : List Loc} {ls : Array Slot} (h : (b_X12_readStatement_0 S).bind some = some V) (hP : MP D ct B Hb S H) (hS : va_S (AB B) s.heap H locs) (hl : lv_has ls 3 [(0, .ref (B + 136))]) : W p l e { frames := 3, cells := 0, slots := 0, locals := 70 } s m args below meth c H locs 0 0 (MQ below (qVw D ct B Hb V) args s 0 0 (AB B)) (F0 m 0 ls []) := by
  obtain ⟨hx, hb, hr, hml, hown, hts, hK, hlocks, hN⟩ := id C0
  unfold b_X12_readStatement_0 at h
  refine lv_aload_n hx hb dX12_readStatement_0 rfl (lv_at hl 0 rfl) ?_
  refine x_get C0 hP (lay_X12 B ct S) rfl inG12 53 (by decide) wd_1194 (fun _ h => h) rfl dX12_readStatement_1 ?_
  refine lv_istore_n (lv' := [(1, .int (gi S 136 53)), (0, .ref (B + 136))]) hx hb dX12_readStatement_4 rfl hl (by decide) rfl (fun ls hl => ?_)
  refine lv_aload_n hx hb dX12_readStatement_5 rfl (lv_at hl 1 rfl) ?_
  obtain ⟨r1, hr1, h⟩ := ob_bd h
  refine n_I (kV (As := []) C0 (c_X12_here l hr1) ⟨wd_1378, wd_1375, wd_1377, wp_24, wd_6⟩ kd_X12_here ⟨Nat.le_of_ble_eq_true rfl, Nat.le_of_ble_eq_true rfl⟩ hP (lay_X12 B ct S) rfl rfl hl.1 rfl (Nat.le_of_ble_eq_true rfl) dX12_readStatement_6 ⟨Nat.le_of_ble_eq_true rfl, Nat.le_of_ble_eq_true rfl⟩) hS (fun H locs hP hS => ?_)
  refine lv_istore_n (lv' := [(2, .int r1), (1, .int (gi S 136 53)), (0, .ref (B + 136))]) hx hb dX12_readStatement_9 rfl hl (by decide) rfl (fun ls hl => ?_)
  refine lv_aload_n hx hb dX12_readStatement_10 rfl (lv_at hl 2 rfl) ?_
  refine x_get C0 hP (lay_X12 B ct S) rfl inG12 54 (by decide) wd_1195 (fun _ h => h) rfl dX12_readStatement_11 ?_
  refine lv_iload_n hx hb dX12_readStatement_14 rfl (lv_at hl 1 rfl) ?_
  refine lv_aload_n hx hb dX12_readStatement_15 rfl (lv_at hl 2 rfl) ?_
  refine x_get C0 hP (lay_X12 B ct S) rfl inG12 51 (by decide) wd_1192 (fun _ h => h) rfl dX12_readStatement_16 ?_
  obtain ⟨g2, h⟩ := ob_gd h
  obtain ⟨S3, eS3, h⟩ := ob_nm h
  refine x_iast C0 hP hS (fun S => lay_174 B ct S) g2 dX12_readStatement_19 (fun H locs hP hS => ?_)
  rw [← eS3] at hP
  refine lv_aload_n hx hb dX12_readStatement_20 rfl (lv_at hl 2 rfl) ?_
  refine x_get C0 hP (lay_X12 B ct S3) rfl inG12 55 (by decide) wd_1196 (fun _ h => h) rfl dX12_readStatement_21 ?_
  refine lv_iload_n hx hb dX12_readStatement_24 rfl (lv_at hl 1 rfl) ?_
  refine lv_iload_n hx hb dX12_readStatement_25 rfl (lv_at hl 0 rfl) ?_
  obtain ⟨g4, h⟩ := ob_gd h
  obtain ⟨S5, eS5, h⟩ := ob_nm h
  refine x_iast C0 hP hS (fun S => lay_175 B ct S) g4 dX12_readStatement_26 (fun H locs hP hS => ?_)
  rw [← eS5] at hP
  refine lv_aload_n hx hb dX12_readStatement_27 rfl (lv_at hl 2 rfl) ?_
  refine lv_aload_n hx hb dX12_readStatement_28 rfl (lv_at hl 2 rfl) ?_
  refine x_get C0 hP (lay_X12 B ct S5) rfl inG12 52 (by decide) wd_1193 (fun _ h => h) rfl dX12_readStatement_29 ?_
  refine lv_if_ne (tgt := 42) hx hb dX12_readStatement_32 (by decide) (fun z6 => ?_) (fun z6 => ?_)
  · have h := ob_f h z6
    exact w_X12_readStatement_42 l C0 (gi S 136 53) r1 S5 h hP hS (lv_sub hl [2, 1, 0] rfl)
  · have h := ob_t h z6
    refine lv_iload_n hx hb dX12_readStatement_35 rfl (lv_at hl 0 rfl) ?_
    obtain ⟨r7, hr7, h⟩ := ob_bd h
    refine n_I (kS (As := [.int r1]) C0 (c_X12_isLetter l r1 hr7) ⟨wd_1381, wd_1379, wd_1380, wd_6⟩ kd_X12_isLetter ⟨Nat.le_of_ble_eq_true rfl, Nat.le_of_ble_eq_true rfl⟩ hP rfl hl.1 rfl (Nat.le_of_ble_eq_true rfl) dX12_readStatement_36 ⟨Nat.le_of_ble_eq_true rfl, Nat.le_of_ble_eq_true rfl⟩) hS (fun H locs hP hS => ?_)
    refine lv_if_ne (tgt := 46) hx hb dX12_readStatement_39 (by decide) (fun z8 => ?_) (fun z8 => ?_)
    · have h := ob_f h z8
      refine lv_iconst (v := 0) hx hb dX12_readStatement_46 (by decide) ?_
      exact w_X12_readStatement_47 l C0 (gi S 136 53) r1 0 S5 h hP hS (lv_sub hl [2, 1, 0] rfl)
    · have h := ob_t h z8
      exact w_X12_readStatement_42 l C0 (gi S 136 53) r1 S5 h hP hS (lv_sub hl [2, 1, 0] rfl)
set_option maxRecDepth 100000 in
set_option maxHeartbeats 4000000 in
theorem c_X12_readStatement (l : Launch) {D : va_G} {ct : Nat → ClassId} {B : Nat} {Hb : Heap} {S : St} {V : St} (h : L_X12_readStatement S = some V) : Met l yX12_readStatement (Cond.code yX12_readStatement cX12_readStatement 3 none :: tG) { frames := 3, cells := 0, slots := 0, locals := 70 } (va_Pc [.ref (B + 136)] (MPK D ct B Hb S)) (qVw D ct B Hb V) 0 0 (AB B) := by
  refine mk_met (by decide +kernel) (Nat.le_of_ble_eq_true rfl) (fun p e s m args below meth c ls C0 hP hl _ => ?_)
  have h := ob_of h
  exact w_X12_readStatement_0 l C0 S h hP va_S.rf (lv_sub hl [0] rfl)
set_option maxRecDepth 100000 in
set_option maxHeartbeats 4000000 in
theorem w_X12_factComes_28 (l : Launch) {V : Int32 × St} (C0 : XC D ct p s m args meth c cX12_factComes 5 (some .boolean) RX12) (v1 : Int32) (v2 : Int32) (v3 : Int32) (s0 : Int32) (S : St) {H : Heap} {locs : List Loc} {ls : Array Slot} (h : (b_X12_factComes_28 v1 v2 v3 s0 S).bind some = some V) (hP : MP D ct B Hb S H) (hS : va_S (AB B) s.heap H locs) (hl : lv_has ls 5 [(0, .ref (B + 136)), (1, .int v1), (2, .int v2), (3, .int v3)]) : W p l e { frames := 2, cells := 0, slots := 0, locals := 45 } s m args below meth c H locs 0 0 (MQ below (qIw D ct B Hb V) args s 0 0 (AB B)) (F0 m 28 ls [.int s0]) := by
  obtain ⟨hx, hb, hr, hml, hown, hts, hK, hlocks, hN⟩ := id C0
  unfold b_X12_factComes_28 at h
  refine lv_istore (lv' := [(4, .int s0), (0, .ref (B + 136)), (1, .int v1), (2, .int v2), (3, .int v3)]) hx hb dX12_factComes_28 hl (by decide) rfl (fun ls hl => ?_)
  refine lv_iload hx hb dX12_factComes_30 (lv_at hl 0 rfl) ?_
  refine lv_if_eq (tgt := 86) hx hb dX12_factComes_32 (by decide) (fun z1 => ?_) (fun z1 => ?_)
  · have h := ob_t h z1
    refine lv_iload hx hb dX12_factComes_86 (lv_at hl 0 rfl) ?_
    obtain ⟨g2, h⟩ := ob_gd h
    exact r_Zw C0 hP hS (bool_n g2) h dX12_factComes_88
  · have h := ob_f h z1
    refine lv_aload_n hx hb dX12_factComes_35 rfl (lv_at hl 1 rfl) ?_
    refine x_get C0 hP (lay_X12 B ct S) rfl inG12 2 (by decide) wd_1143 (fun _ h => h) rfl dX12_factComes_36 ?_
    refine lv_aload_n hx hb dX12_factComes_39 rfl (lv_at hl 1 rfl) ?_
    refine x_get C0 hP (lay_X12 B ct S) rfl inG12 1 (by decide) wd_1142 (fun _ h => h) rfl dX12_factComes_40 ?_
    refine lv_iload_n hx hb dX12_factComes_43 rfl (lv_at hl 2 rfl) ?_
    obtain ⟨g3, h⟩ := ob_gd h
    obtain ⟨S4, eS4, h⟩ := ob_nm h
    refine x_iast C0 hP hS (fun S => lay_138 B ct S) g3 dX12_factComes_44 (fun H locs hP hS => ?_)
    rw [← eS4] at hP
    refine lv_aload_n hx hb dX12_factComes_45 rfl (lv_at hl 1 rfl) ?_
    refine x_get C0 hP (lay_X12 B ct S4) rfl inG12 3 (by decide) wd_1144 (fun _ h => h) rfl dX12_factComes_46 ?_
    refine lv_aload_n hx hb dX12_factComes_49 rfl (lv_at hl 1 rfl) ?_
    refine x_get C0 hP (lay_X12 B ct S4) rfl inG12 1 (by decide) wd_1142 (fun _ h => h) rfl dX12_factComes_50 ?_
    refine lv_iload_n hx hb dX12_factComes_53 rfl (lv_at hl 3 rfl) ?_
    obtain ⟨g5, h⟩ := ob_gd h
    obtain ⟨S6, eS6, h⟩ := ob_nm h
    refine x_iast C0 hP hS (fun S => lay_139 B ct S) g5 dX12_factComes_54 (fun H locs hP hS => ?_)
    rw [← eS6] at hP
    refine lv_aload_n hx hb dX12_factComes_55 rfl (lv_at hl 1 rfl) ?_
    refine x_get C0 hP (lay_X12 B ct S6) rfl inG12 4 (by decide) wd_1145 (fun _ h => h) rfl dX12_factComes_56 ?_
    refine lv_aload_n hx hb dX12_factComes_59 rfl (lv_at hl 1 rfl) ?_
    refine x_get C0 hP (lay_X12 B ct S6) rfl inG12 1 (by decide) wd_1142 (fun _ h => h) rfl dX12_factComes_60 ?_
    refine lv_iload_n hx hb dX12_factComes_63 rfl (lv_at hl 4 rfl) ?_
    obtain ⟨g7, h⟩ := ob_gd h
    obtain ⟨S8, eS8, h⟩ := ob_nm h
    refine x_iast C0 hP hS (fun S => lay_140 B ct S) g7 dX12_factComes_64 (fun H locs hP hS => ?_)
    rw [← eS8] at hP
    refine lv_aload_n hx hb dX12_factComes_65 rfl (lv_at hl 1 rfl) ?_
    refine x_get C0 hP (lay_X12 B ct S8) rfl inG12 5 (by decide) wd_1146 (fun _ h => h) rfl dX12_factComes_66 ?_
    refine lv_aload_n hx hb dX12_factComes_69 rfl (lv_at hl 1 rfl) ?_
    refine x_get C0 hP (lay_X12 B ct S8) rfl inG12 1 (by decide) wd_1142 (fun _ h => h) rfl dX12_factComes_70 ?_
    refine lv_bipush (v := 10) hx hb dX12_factComes_73 (by decide) ?_
    obtain ⟨g9, h⟩ := ob_gd h
    obtain ⟨S10, eS10, h⟩ := ob_nm h
    refine x_iast C0 hP hS (fun S => lay_141 B ct S) g9 dX12_factComes_75 (fun H locs hP hS => ?_)
    rw [← eS10] at hP
    refine lv_aload_n hx hb dX12_factComes_76 rfl (lv_at hl 1 rfl) ?_
    refine lv_dup hx hb dX12_factComes_77 rfl ?_
    refine x_get C0 hP (lay_X12 B ct S10) rfl inG12 1 (by decide) wd_1142 (fun _ h => h) rfl dX12_factComes_78 ?_
    refine lv_iconst (v := 1) hx hb dX12_factComes_81 (by decide) ?_
    refine lv_iadd hx hb dX12_factComes_82 ?_
    obtain ⟨S11, eS11, h⟩ := ob_nm h
    refine x_put (S' := si S10 136 1 ((gi S10 136 1) + 1)) (FS := (fs12 B)) C0 hP hS (fun S => lay_X12 B ct S) rfl inG12 tyX12 tyX12_ok nmX12 1 (by decide) wd_1142 rfl rfl (fun a ha => lay_local (gi_si_n _ _ _ ha) rfl rfl rfl) (put_12_1 B _ _) rfl rfl (Nat.le_of_ble_eq_true rfl) dX12_factComes_83 (fun H locs hP hS => ?_)
    rw [← eS11] at hP
    refine lv_iload hx hb dX12_factComes_86 (lv_at hl 0 rfl) ?_
    obtain ⟨g12, h⟩ := ob_gd h
    exact r_Zw C0 hP hS (bool_n g12) h dX12_factComes_88
set_option maxRecDepth 100000 in
set_option maxHeartbeats 4000000 in
theorem w_X12_factComes_27 (l : Launch) {V : Int32 × St} (C0 : XC D ct p s m args meth c cX12_factComes 5 (some .boolean) RX12) (v1 : Int32) (v2 : Int32) (v3 : Int32) (S : St) {H : Heap} {locs : List Loc} {ls : Array Slot} (h : (b_X12_factComes_27 v1 v2 v3 S).bind some = some V) (hP : MP D ct B Hb S H) (hS : va_S (AB B) s.heap H locs) (hl : lv_has ls 5 [(0, .ref (B + 136)), (1, .int v1), (2, .int v2), (3, .int v3)]) : W p l e { frames := 2, cells := 0, slots := 0, locals := 45 } s m args below meth c H locs 0 0 (MQ below (qIw D ct B Hb V) args s 0 0 (AB B)) (F0 m 27 ls []) := by
  obtain ⟨hx, hb, hr, hml, hown, hts, hK, hlocks, hN⟩ := id C0
  unfold b_X12_factComes_27 at h
  refine lv_iconst (v := 0) hx hb dX12_factComes_27 (by decide) ?_
  exact w_X12_factComes_28 l C0 v1 v2 v3 0 S h hP hS (lv_sub hl [0, 1, 2, 3] rfl)
set_option maxRecDepth 100000 in
set_option maxHeartbeats 4000000 in
theorem w_X12_factComes_0 (l : Launch) {V : Int32 × St} (C0 : XC D ct p s m args meth c cX12_factComes 5 (some .boolean) RX12) (v1 : Int32) (v2 : Int32) (v3 : Int32) (S : St) {H : Heap} {locs : List Loc} {ls : Array Slot} (h : (b_X12_factComes_0 v1 v2 v3 S).bind some = some V) (hP : MP D ct B Hb S H) (hS : va_S (AB B) s.heap H locs) (hl : lv_has ls 5 [(0, .ref (B + 136)), (1, .int v1), (2, .int v2), (3, .int v3)]) : W p l e { frames := 2, cells := 0, slots := 0, locals := 45 } s m args below meth c H locs 0 0 (MQ below (qIw D ct B Hb V) args s 0 0 (AB B)) (F0 m 0 ls []) := by
  obtain ⟨hx, hb, hr, hml, hown, hts, hK, hlocks, hN⟩ := id C0
  unfold b_X12_factComes_0 at h
  refine lv_iload_n hx hb dX12_factComes_0 rfl (lv_at hl 1 rfl) ?_
  obtain ⟨r1, hr1, h⟩ := ob_bd h
  refine n_I (kS (As := [.int v1]) C0 (c_X12_isCase l v1 hr1) ⟨wd_1410, wd_1408, wd_1409, wd_6⟩ kd_X12_isCase ⟨Nat.le_of_ble_eq_true rfl, Nat.le_of_ble_eq_true rfl⟩ hP rfl hl.1 rfl (Nat.le_of_ble_eq_true rfl) dX12_factComes_1 ⟨Nat.le_of_ble_eq_true rfl, Nat.le_of_ble_eq_true rfl⟩) hS (fun H locs hP hS => ?_)
  refine lv_if_eq (tgt := 27) hx hb dX12_factComes_4 (by decide) (fun z2 => ?_) (fun z2 => ?_)
  · have h := ob_t h z2
    exact w_X12_factComes_27 l C0 v1 v2 v3 S h hP hS (lv_sub hl [0, 1, 2, 3] rfl)
  · have h := ob_f h z2
    refine lv_iload_n hx hb dX12_factComes_7 rfl (lv_at hl 3 rfl) ?_
    obtain ⟨r3, hr3, h⟩ := ob_bd h
    refine n_I (kS (As := [.int v3]) C0 (c_X12_isHour l v3 hr3) ⟨wd_1414, wd_1412, wd_1413, wd_6⟩ kd_X12_isHour ⟨Nat.le_of_ble_eq_true rfl, Nat.le_of_ble_eq_true rfl⟩ hP rfl hl.1 rfl (Nat.le_of_ble_eq_true rfl) dX12_factComes_8 ⟨Nat.le_of_ble_eq_true rfl, Nat.le_of_ble_eq_true rfl⟩) hS (fun H locs hP hS => ?_)
    refine lv_if_eq (tgt := 27) hx hb dX12_factComes_11 (by decide) (fun z4 => ?_) (fun z4 => ?_)
    · have h := ob_t h z4
      exact w_X12_factComes_27 l C0 v1 v2 v3 S h hP hS (lv_sub hl [0, 1, 2, 3] rfl)
    · have h := ob_f h z4
      refine lv_aload_n hx hb dX12_factComes_14 rfl (lv_at hl 0 rfl) ?_
      refine x_get C0 hP (lay_X12 B ct S) rfl inG12 1 (by decide) wd_1142 (fun _ h => h) rfl dX12_factComes_15 ?_
      refine lv_bipush (v := 6) hx hb dX12_factComes_18 (by decide) ?_
      refine lv_icmp_ge (tgt := 27) hx hb dX12_factComes_20 (by decide) (fun z5 => ?_) (fun z5 => ?_)
      · have h := ob_t h z5
        exact w_X12_factComes_27 l C0 v1 v2 v3 S h hP hS (lv_sub hl [0, 1, 2, 3] rfl)
      · have h := ob_f h z5
        refine lv_iconst (v := 1) hx hb dX12_factComes_23 (by decide) ?_
        refine lv_goto (tgt := 28) hx hb dX12_factComes_24 (by decide) ?_
        exact w_X12_factComes_28 l C0 v1 v2 v3 1 S h hP hS (lv_sub hl [0, 1, 2, 3] rfl)
set_option maxRecDepth 100000 in
set_option maxHeartbeats 4000000 in
theorem c_X12_factComes (l : Launch) (a1 : Int32) (a2 : Int32) (a3 : Int32) {D : va_G} {ct : Nat → ClassId} {B : Nat} {Hb : Heap} {S : St} {V : Int32 × St} (h : L_X12_factComes a1 a2 a3 S = some V) : Met l yX12_factComes (Cond.code yX12_factComes cX12_factComes 5 (some .boolean) :: tG) { frames := 2, cells := 0, slots := 0, locals := 45 } (va_Pc [.ref (B + 136), .int a1, .int a2, .int a3] (MPK D ct B Hb S)) (qIw D ct B Hb V) 0 0 (AB B) := by
  refine mk_met (by decide +kernel) (Nat.le_of_ble_eq_true rfl) (fun p e s m args below meth c ls C0 hP hl _ => ?_)
  have h := ob_of h
  exact w_X12_factComes_0 l C0 a1 a2 a3 S h hP va_S.rf (lv_sub hl [0, 1, 2, 3] rfl)
set_option maxRecDepth 100000 in
set_option maxHeartbeats 4000000 in
theorem w_X12_oneComes_0 (l : Launch) {V : St} (C0 : XC D ct p s m args meth c cX12_oneComes 7 none RX12) (v1 : Int32) (v2 : Int32) (v3 : Int32) (v4 : Int32) (v5 : Int32) (v6 : Int32) (S : St) {H : Heap} {locs : List Loc} {ls : Array Slot} (h : (b_X12_oneComes_0 v1 v2 v3 v4 v5 v6 S).bind some = some V) (hP : MP D ct B Hb S H) (hS : va_S (AB B) s.heap H locs) (hl : lv_has ls 7 [(0, .ref (B + 136)), (1, .int v1), (2, .int v2), (3, .int v3), (4, .int v4), (5, .int v5), (6, .int v6)]) : W p l e { frames := 0, cells := 0, slots := 0, locals := 0 } s m args below meth c H locs 0 0 (MQ below (qVw D ct B Hb V) args s 0 0 (AB B)) (F0 m 0 ls []) := by
  obtain ⟨hx, hb, hr, hml, hown, hts, hK, hlocks, hN⟩ := id C0
  unfold b_X12_oneComes_0 at h
  refine lv_aload_n hx hb dX12_oneComes_0 rfl (lv_at hl 0 rfl) ?_
  refine x_get C0 hP (lay_X12 B ct S) rfl inG12 16 (by decide) wd_1157 (fun _ h => h) rfl dX12_oneComes_1 ?_
  refine lv_aload_n hx hb dX12_oneComes_4 rfl (lv_at hl 0 rfl) ?_
  refine x_get C0 hP (lay_X12 B ct S) rfl inG12 15 (by decide) wd_1156 (fun _ h => h) rfl dX12_oneComes_5 ?_
  refine lv_iload_n hx hb dX12_oneComes_8 rfl (lv_at hl 1 rfl) ?_
  obtain ⟨g1, h⟩ := ob_gd h
  obtain ⟨S2, eS2, h⟩ := ob_nm h
  refine x_iast C0 hP hS (fun S => lay_147 B ct S) g1 dX12_oneComes_9 (fun H locs hP hS => ?_)
  rw [← eS2] at hP
  refine lv_aload_n hx hb dX12_oneComes_10 rfl (lv_at hl 0 rfl) ?_
  refine x_get C0 hP (lay_X12 B ct S2) rfl inG12 17 (by decide) wd_1158 (fun _ h => h) rfl dX12_oneComes_11 ?_
  refine lv_aload_n hx hb dX12_oneComes_14 rfl (lv_at hl 0 rfl) ?_
  refine x_get C0 hP (lay_X12 B ct S2) rfl inG12 15 (by decide) wd_1156 (fun _ h => h) rfl dX12_oneComes_15 ?_
  refine lv_iload_n hx hb dX12_oneComes_18 rfl (lv_at hl 2 rfl) ?_
  obtain ⟨g3, h⟩ := ob_gd h
  obtain ⟨S4, eS4, h⟩ := ob_nm h
  refine x_iast C0 hP hS (fun S => lay_148 B ct S) g3 dX12_oneComes_19 (fun H locs hP hS => ?_)
  rw [← eS4] at hP
  refine lv_aload_n hx hb dX12_oneComes_20 rfl (lv_at hl 0 rfl) ?_
  refine x_get C0 hP (lay_X12 B ct S4) rfl inG12 18 (by decide) wd_1159 (fun _ h => h) rfl dX12_oneComes_21 ?_
  refine lv_aload_n hx hb dX12_oneComes_24 rfl (lv_at hl 0 rfl) ?_
  refine x_get C0 hP (lay_X12 B ct S4) rfl inG12 15 (by decide) wd_1156 (fun _ h => h) rfl dX12_oneComes_25 ?_
  refine lv_iload_n hx hb dX12_oneComes_28 rfl (lv_at hl 3 rfl) ?_
  obtain ⟨g5, h⟩ := ob_gd h
  obtain ⟨S6, eS6, h⟩ := ob_nm h
  refine x_iast C0 hP hS (fun S => lay_149 B ct S) g5 dX12_oneComes_29 (fun H locs hP hS => ?_)
  rw [← eS6] at hP
  refine lv_aload_n hx hb dX12_oneComes_30 rfl (lv_at hl 0 rfl) ?_
  refine x_get C0 hP (lay_X12 B ct S6) rfl inG12 19 (by decide) wd_1160 (fun _ h => h) rfl dX12_oneComes_31 ?_
  refine lv_aload_n hx hb dX12_oneComes_34 rfl (lv_at hl 0 rfl) ?_
  refine x_get C0 hP (lay_X12 B ct S6) rfl inG12 15 (by decide) wd_1156 (fun _ h => h) rfl dX12_oneComes_35 ?_
  refine lv_iload hx hb dX12_oneComes_38 (lv_at hl 4 rfl) ?_
  obtain ⟨g7, h⟩ := ob_gd h
  obtain ⟨S8, eS8, h⟩ := ob_nm h
  refine x_iast C0 hP hS (fun S => lay_150 B ct S) g7 dX12_oneComes_40 (fun H locs hP hS => ?_)
  rw [← eS8] at hP
  refine lv_aload_n hx hb dX12_oneComes_41 rfl (lv_at hl 0 rfl) ?_
  refine x_get C0 hP (lay_X12 B ct S8) rfl inG12 20 (by decide) wd_1161 (fun _ h => h) rfl dX12_oneComes_42 ?_
  refine lv_aload_n hx hb dX12_oneComes_45 rfl (lv_at hl 0 rfl) ?_
  refine x_get C0 hP (lay_X12 B ct S8) rfl inG12 15 (by decide) wd_1156 (fun _ h => h) rfl dX12_oneComes_46 ?_
  refine lv_iload hx hb dX12_oneComes_49 (lv_at hl 5 rfl) ?_
  obtain ⟨g9, h⟩ := ob_gd h
  obtain ⟨S10, eS10, h⟩ := ob_nm h
  refine x_iast C0 hP hS (fun S => lay_151 B ct S) g9 dX12_oneComes_51 (fun H locs hP hS => ?_)
  rw [← eS10] at hP
  refine lv_aload_n hx hb dX12_oneComes_52 rfl (lv_at hl 0 rfl) ?_
  refine x_get C0 hP (lay_X12 B ct S10) rfl inG12 21 (by decide) wd_1162 (fun _ h => h) rfl dX12_oneComes_53 ?_
  refine lv_aload_n hx hb dX12_oneComes_56 rfl (lv_at hl 0 rfl) ?_
  refine x_get C0 hP (lay_X12 B ct S10) rfl inG12 15 (by decide) wd_1156 (fun _ h => h) rfl dX12_oneComes_57 ?_
  refine lv_iload hx hb dX12_oneComes_60 (lv_at hl 6 rfl) ?_
  obtain ⟨g11, h⟩ := ob_gd h
  obtain ⟨S12, eS12, h⟩ := ob_nm h
  refine x_iast C0 hP hS (fun S => lay_152 B ct S) g11 dX12_oneComes_62 (fun H locs hP hS => ?_)
  rw [← eS12] at hP
  refine lv_aload_n hx hb dX12_oneComes_63 rfl (lv_at hl 0 rfl) ?_
  refine lv_dup hx hb dX12_oneComes_64 rfl ?_
  refine x_get C0 hP (lay_X12 B ct S12) rfl inG12 15 (by decide) wd_1156 (fun _ h => h) rfl dX12_oneComes_65 ?_
  refine lv_iconst (v := 1) hx hb dX12_oneComes_68 (by decide) ?_
  refine lv_iadd hx hb dX12_oneComes_69 ?_
  obtain ⟨S13, eS13, h⟩ := ob_nm h
  refine x_put (S' := si S12 136 15 ((gi S12 136 15) + 1)) (FS := (fs12 B)) C0 hP hS (fun S => lay_X12 B ct S) rfl inG12 tyX12 tyX12_ok nmX12 15 (by decide) wd_1156 rfl rfl (fun a ha => lay_local (gi_si_n _ _ _ ha) rfl rfl rfl) (put_12_15 B _ _) rfl rfl (Nat.le_of_ble_eq_true rfl) dX12_oneComes_70 (fun H locs hP hS => ?_)
  rw [← eS13] at hP
  exact r_Vw C0 hP hS h dX12_oneComes_73
set_option maxRecDepth 100000 in
set_option maxHeartbeats 4000000 in
theorem c_X12_oneComes (l : Launch) (a1 : Int32) (a2 : Int32) (a3 : Int32) (a4 : Int32) (a5 : Int32) (a6 : Int32) {D : va_G} {ct : Nat → ClassId} {B : Nat} {Hb : Heap} {S : St} {V : St} (h : L_X12_oneComes a1 a2 a3 a4 a5 a6 S = some V) : Met l yX12_oneComes (Cond.code yX12_oneComes cX12_oneComes 7 none :: tG) { frames := 0, cells := 0, slots := 0, locals := 0 } (va_Pc [.ref (B + 136), .int a1, .int a2, .int a3, .int a4, .int a5, .int a6] (MPK D ct B Hb S)) (qVw D ct B Hb V) 0 0 (AB B) := by
  refine mk_met (by decide +kernel) (Nat.le_of_ble_eq_true rfl) (fun p e s m args below meth c ls C0 hP hl _ => ?_)
  have h := ob_of h
  exact w_X12_oneComes_0 l C0 a1 a2 a3 a4 a5 a6 S h hP va_S.rf (lv_sub hl [0, 1, 2, 3, 4, 5, 6] rfl)
set_option maxRecDepth 100000 in
set_option maxHeartbeats 4000000 in
theorem w_X12_turnKin_0 (l : Launch) {V : St} (C0 : XC D ct p s m args meth c cX12_turnKin 3 none RX12) (v1 : Int32) (v2 : Int32) (S : St) {H : Heap} {locs : List Loc} {ls : Array Slot} (h : (b_X12_turnKin_0 v1 v2 S).bind some = some V) (hP : MP D ct B Hb S H) (hS : va_S (AB B) s.heap H locs) (hl : lv_has ls 3 [(0, .ref (B + 136)), (1, .int v1), (2, .int v2)]) : W p l e { frames := 0, cells := 0, slots := 0, locals := 0 } s m args below meth c H locs 0 0 (MQ below (qVw D ct B Hb V) args s 0 0 (AB B)) (F0 m 0 ls []) := by
  obtain ⟨hx, hb, hr, hml, hown, hts, hK, hlocks, hN⟩ := id C0
  unfold b_X12_turnKin_0 at h
  refine lv_aload_n hx hb dX12_turnKin_0 rfl (lv_at hl 0 rfl) ?_
  refine x_get C0 hP (lay_X12 B ct S) rfl inG12 0 (by decide) wd_1141 (fun _ h => h) rfl dX12_turnKin_1 ?_
  refine lv_iconst (v := 4) hx hb dX12_turnKin_4 (by decide) ?_
  refine lv_iload_n hx hb dX12_turnKin_5 rfl (lv_at hl 1 rfl) ?_
  refine lv_imul hx hb dX12_turnKin_6 ?_
  refine lv_iload_n hx hb dX12_turnKin_7 rfl (lv_at hl 2 rfl) ?_
  refine lv_iadd hx hb dX12_turnKin_8 ?_
  refine lv_iconst (v := 1) hx hb dX12_turnKin_9 (by decide) ?_
  refine lv_aload_n hx hb dX12_turnKin_10 rfl (lv_at hl 0 rfl) ?_
  refine x_get C0 hP (lay_X12 B ct S) rfl inG12 0 (by decide) wd_1141 (fun _ h => h) rfl dX12_turnKin_11 ?_
  refine lv_iconst (v := 4) hx hb dX12_turnKin_14 (by decide) ?_
  refine lv_iload_n hx hb dX12_turnKin_15 rfl (lv_at hl 1 rfl) ?_
  refine lv_imul hx hb dX12_turnKin_16 ?_
  refine lv_iload_n hx hb dX12_turnKin_17 rfl (lv_at hl 2 rfl) ?_
  refine lv_iadd hx hb dX12_turnKin_18 ?_
  obtain ⟨g1, h⟩ := ob_gd h
  refine x_iald C0 hP ((fun S => lay_137 B ct S) S) g1 dX12_turnKin_19 ?_
  refine lv_isub hx hb dX12_turnKin_20 ?_
  obtain ⟨g2, h⟩ := ob_gd h
  obtain ⟨S3, eS3, h⟩ := ob_nm h
  refine x_iast C0 hP hS (fun S => lay_137 B ct S) g2 dX12_turnKin_21 (fun H locs hP hS => ?_)
  rw [← eS3] at hP
  refine lv_aload_n hx hb dX12_turnKin_22 rfl (lv_at hl 0 rfl) ?_
  refine x_get C0 hP (lay_X12 B ct S3) rfl inG12 0 (by decide) wd_1141 (fun _ h => h) rfl dX12_turnKin_23 ?_
  refine lv_iconst (v := 4) hx hb dX12_turnKin_26 (by decide) ?_
  refine lv_iload_n hx hb dX12_turnKin_27 rfl (lv_at hl 2 rfl) ?_
  refine lv_imul hx hb dX12_turnKin_28 ?_
  refine lv_iload_n hx hb dX12_turnKin_29 rfl (lv_at hl 1 rfl) ?_
  refine lv_iadd hx hb dX12_turnKin_30 ?_
  refine lv_aload_n hx hb dX12_turnKin_31 rfl (lv_at hl 0 rfl) ?_
  refine x_get C0 hP (lay_X12 B ct S3) rfl inG12 0 (by decide) wd_1141 (fun _ h => h) rfl dX12_turnKin_32 ?_
  refine lv_iconst (v := 4) hx hb dX12_turnKin_35 (by decide) ?_
  refine lv_iload_n hx hb dX12_turnKin_36 rfl (lv_at hl 1 rfl) ?_
  refine lv_imul hx hb dX12_turnKin_37 ?_
  refine lv_iload_n hx hb dX12_turnKin_38 rfl (lv_at hl 2 rfl) ?_
  refine lv_iadd hx hb dX12_turnKin_39 ?_
  obtain ⟨g4, h⟩ := ob_gd h
  refine x_iald C0 hP ((fun S => lay_137 B ct S) S3) g4 dX12_turnKin_40 ?_
  obtain ⟨g5, h⟩ := ob_gd h
  obtain ⟨S6, eS6, h⟩ := ob_nm h
  refine x_iast C0 hP hS (fun S => lay_137 B ct S) g5 dX12_turnKin_41 (fun H locs hP hS => ?_)
  rw [← eS6] at hP
  exact r_Vw C0 hP hS h dX12_turnKin_42
set_option maxRecDepth 100000 in
set_option maxHeartbeats 4000000 in
theorem c_X12_turnKin (l : Launch) (a1 : Int32) (a2 : Int32) {D : va_G} {ct : Nat → ClassId} {B : Nat} {Hb : Heap} {S : St} {V : St} (h : L_X12_turnKin a1 a2 S = some V) : Met l yX12_turnKin (Cond.code yX12_turnKin cX12_turnKin 3 none :: tG) { frames := 0, cells := 0, slots := 0, locals := 0 } (va_Pc [.ref (B + 136), .int a1, .int a2] (MPK D ct B Hb S)) (qVw D ct B Hb V) 0 0 (AB B) := by
  refine mk_met (by decide +kernel) (Nat.le_of_ble_eq_true rfl) (fun p e s m args below meth c ls C0 hP hl _ => ?_)
  have h := ob_of h
  exact w_X12_turnKin_0 l C0 a1 a2 S h hP va_S.rf (lv_sub hl [0, 1, 2] rfl)
set_option maxRecDepth 100000 in
set_option maxHeartbeats 4000000 in
theorem w_X12_plantComes_0 (l : Launch) {V : St} (C0 : XC D ct p s m args meth c cX12_plantComes 6 none RX12) (v1 : Int32) (v2 : Int32) (v3 : Int32) (v4 : Int32) (v5 : Int32) (S : St) {H : Heap} {locs : List Loc} {ls : Array Slot} (h : (b_X12_plantComes_0 v1 v2 v3 v4 v5 S).bind some = some V) (hP : MP D ct B Hb S H) (hS : va_S (AB B) s.heap H locs) (hl : lv_has ls 6 [(0, .ref (B + 136)), (1, .int v1), (2, .int v2), (3, .int v3), (4, .int v4), (5, .int v5)]) : W p l e { frames := 0, cells := 0, slots := 0, locals := 0 } s m args below meth c H locs 0 0 (MQ below (qVw D ct B Hb V) args s 0 0 (AB B)) (F0 m 0 ls []) := by
  obtain ⟨hx, hb, hr, hml, hown, hts, hK, hlocks, hN⟩ := id C0
  unfold b_X12_plantComes_0 at h
  refine lv_aload_n hx hb dX12_plantComes_0 rfl (lv_at hl 0 rfl) ?_
  refine x_get C0 hP (lay_X12 B ct S) rfl inG12 10 (by decide) wd_1151 (fun _ h => h) rfl dX12_plantComes_1 ?_
  refine lv_aload_n hx hb dX12_plantComes_4 rfl (lv_at hl 0 rfl) ?_
  refine x_get C0 hP (lay_X12 B ct S) rfl inG12 9 (by decide) wd_1150 (fun _ h => h) rfl dX12_plantComes_5 ?_
  refine lv_iload_n hx hb dX12_plantComes_8 rfl (lv_at hl 1 rfl) ?_
  obtain ⟨g1, h⟩ := ob_gd h
  obtain ⟨S2, eS2, h⟩ := ob_nm h
  refine x_iast C0 hP hS (fun S => lay_142 B ct S) g1 dX12_plantComes_9 (fun H locs hP hS => ?_)
  rw [← eS2] at hP
  refine lv_aload_n hx hb dX12_plantComes_10 rfl (lv_at hl 0 rfl) ?_
  refine x_get C0 hP (lay_X12 B ct S2) rfl inG12 11 (by decide) wd_1152 (fun _ h => h) rfl dX12_plantComes_11 ?_
  refine lv_aload_n hx hb dX12_plantComes_14 rfl (lv_at hl 0 rfl) ?_
  refine x_get C0 hP (lay_X12 B ct S2) rfl inG12 9 (by decide) wd_1150 (fun _ h => h) rfl dX12_plantComes_15 ?_
  refine lv_iload_n hx hb dX12_plantComes_18 rfl (lv_at hl 2 rfl) ?_
  obtain ⟨g3, h⟩ := ob_gd h
  obtain ⟨S4, eS4, h⟩ := ob_nm h
  refine x_iast C0 hP hS (fun S => lay_143 B ct S) g3 dX12_plantComes_19 (fun H locs hP hS => ?_)
  rw [← eS4] at hP
  refine lv_aload_n hx hb dX12_plantComes_20 rfl (lv_at hl 0 rfl) ?_
  refine x_get C0 hP (lay_X12 B ct S4) rfl inG12 12 (by decide) wd_1153 (fun _ h => h) rfl dX12_plantComes_21 ?_
  refine lv_aload_n hx hb dX12_plantComes_24 rfl (lv_at hl 0 rfl) ?_
  refine x_get C0 hP (lay_X12 B ct S4) rfl inG12 9 (by decide) wd_1150 (fun _ h => h) rfl dX12_plantComes_25 ?_
  refine lv_iload_n hx hb dX12_plantComes_28 rfl (lv_at hl 3 rfl) ?_
  obtain ⟨g5, h⟩ := ob_gd h
  obtain ⟨S6, eS6, h⟩ := ob_nm h
  refine x_iast C0 hP hS (fun S => lay_144 B ct S) g5 dX12_plantComes_29 (fun H locs hP hS => ?_)
  rw [← eS6] at hP
  refine lv_aload_n hx hb dX12_plantComes_30 rfl (lv_at hl 0 rfl) ?_
  refine x_get C0 hP (lay_X12 B ct S6) rfl inG12 13 (by decide) wd_1154 (fun _ h => h) rfl dX12_plantComes_31 ?_
  refine lv_aload_n hx hb dX12_plantComes_34 rfl (lv_at hl 0 rfl) ?_
  refine x_get C0 hP (lay_X12 B ct S6) rfl inG12 9 (by decide) wd_1150 (fun _ h => h) rfl dX12_plantComes_35 ?_
  refine lv_iload hx hb dX12_plantComes_38 (lv_at hl 4 rfl) ?_
  obtain ⟨g7, h⟩ := ob_gd h
  obtain ⟨S8, eS8, h⟩ := ob_nm h
  refine x_iast C0 hP hS (fun S => lay_145 B ct S) g7 dX12_plantComes_40 (fun H locs hP hS => ?_)
  rw [← eS8] at hP
  refine lv_aload_n hx hb dX12_plantComes_41 rfl (lv_at hl 0 rfl) ?_
  refine x_get C0 hP (lay_X12 B ct S8) rfl inG12 14 (by decide) wd_1155 (fun _ h => h) rfl dX12_plantComes_42 ?_
  refine lv_aload_n hx hb dX12_plantComes_45 rfl (lv_at hl 0 rfl) ?_
  refine x_get C0 hP (lay_X12 B ct S8) rfl inG12 9 (by decide) wd_1150 (fun _ h => h) rfl dX12_plantComes_46 ?_
  refine lv_iload hx hb dX12_plantComes_49 (lv_at hl 5 rfl) ?_
  obtain ⟨g9, h⟩ := ob_gd h
  obtain ⟨S10, eS10, h⟩ := ob_nm h
  refine x_iast C0 hP hS (fun S => lay_146 B ct S) g9 dX12_plantComes_51 (fun H locs hP hS => ?_)
  rw [← eS10] at hP
  refine lv_aload_n hx hb dX12_plantComes_52 rfl (lv_at hl 0 rfl) ?_
  refine lv_dup hx hb dX12_plantComes_53 rfl ?_
  refine x_get C0 hP (lay_X12 B ct S10) rfl inG12 9 (by decide) wd_1150 (fun _ h => h) rfl dX12_plantComes_54 ?_
  refine lv_iconst (v := 1) hx hb dX12_plantComes_57 (by decide) ?_
  refine lv_iadd hx hb dX12_plantComes_58 ?_
  obtain ⟨S11, eS11, h⟩ := ob_nm h
  refine x_put (S' := si S10 136 9 ((gi S10 136 9) + 1)) (FS := (fs12 B)) C0 hP hS (fun S => lay_X12 B ct S) rfl inG12 tyX12 tyX12_ok nmX12 9 (by decide) wd_1150 rfl rfl (fun a ha => lay_local (gi_si_n _ _ _ ha) rfl rfl rfl) (put_12_9 B _ _) rfl rfl (Nat.le_of_ble_eq_true rfl) dX12_plantComes_59 (fun H locs hP hS => ?_)
  rw [← eS11] at hP
  exact r_Vw C0 hP hS h dX12_plantComes_62
set_option maxRecDepth 100000 in
set_option maxHeartbeats 4000000 in
theorem c_X12_plantComes (l : Launch) (a1 : Int32) (a2 : Int32) (a3 : Int32) (a4 : Int32) (a5 : Int32) {D : va_G} {ct : Nat → ClassId} {B : Nat} {Hb : Heap} {S : St} {V : St} (h : L_X12_plantComes a1 a2 a3 a4 a5 S = some V) : Met l yX12_plantComes (Cond.code yX12_plantComes cX12_plantComes 6 none :: tG) { frames := 0, cells := 0, slots := 0, locals := 0 } (va_Pc [.ref (B + 136), .int a1, .int a2, .int a3, .int a4, .int a5] (MPK D ct B Hb S)) (qVw D ct B Hb V) 0 0 (AB B) := by
  refine mk_met (by decide +kernel) (Nat.le_of_ble_eq_true rfl) (fun p e s m args below meth c ls C0 hP hl _ => ?_)
  have h := ob_of h
  exact w_X12_plantComes_0 l C0 a1 a2 a3 a4 a5 S h hP va_S.rf (lv_sub hl [0, 1, 2, 3, 4, 5] rfl)
end WALKS
