theorem dX12_carryAll_0 : decode cX12_carryAll 0 = .ok (.aload_n 0, 1) := by decide +kernel
theorem dX12_carryAll_1 : decode cX12_carryAll 1 = .ok (.aload_n 1, 1) := by decide +kernel
theorem dX12_carryAll_2 : decode cX12_carryAll 2 = .ok (.putfield 245, 3) := by decide +kernel
theorem dX12_carryAll_5 : decode cX12_carryAll 5 = .ok (.aload_n 0, 1) := by decide +kernel
theorem dX12_carryAll_6 : decode cX12_carryAll 6 = .ok (.iload_n 2, 1) := by decide +kernel
theorem dX12_carryAll_7 : decode cX12_carryAll 7 = .ok (.putfield 242, 3) := by decide +kernel
theorem dX12_carryAll_10 : decode cX12_carryAll 10 = .ok (.aload_n 0, 1) := by decide +kernel
theorem dX12_carryAll_11 : decode cX12_carryAll 11 = .ok (.iconst 0, 1) := by decide +kernel
theorem dX12_carryAll_12 : decode cX12_carryAll 12 = .ok (.putfield 248, 3) := by decide +kernel
theorem dX12_carryAll_15 : decode cX12_carryAll 15 = .ok (.aload_n 0, 1) := by decide +kernel
theorem dX12_carryAll_16 : decode cX12_carryAll 16 = .ok (.aload_n 0, 1) := by decide +kernel
theorem dX12_carryAll_17 : decode cX12_carryAll 17 = .ok (.aload_n 0, 1) := by decide +kernel
theorem dX12_carryAll_18 : decode cX12_carryAll 18 = .ok (.getfield 181, 3) := by decide +kernel
theorem dX12_carryAll_21 : decode cX12_carryAll 21 = .ok (.invokevirtual 251, 3) := by decide +kernel
theorem dX12_carryAll_24 : decode cX12_carryAll 24 = .ok (.putfield 181, 3) := by decide +kernel
theorem dX12_carryAll_27 : decode cX12_carryAll 27 = .ok (.aload_n 0, 1) := by decide +kernel
theorem dX12_carryAll_28 : decode cX12_carryAll 28 = .ok (.aload_n 0, 1) := by decide +kernel
theorem dX12_carryAll_29 : decode cX12_carryAll 29 = .ok (.aload_n 0, 1) := by decide +kernel
theorem dX12_carryAll_30 : decode cX12_carryAll 30 = .ok (.getfield 25, 3) := by decide +kernel
theorem dX12_carryAll_33 : decode cX12_carryAll 33 = .ok (.invokevirtual 251, 3) := by decide +kernel
theorem dX12_carryAll_36 : decode cX12_carryAll 36 = .ok (.putfield 25, 3) := by decide +kernel
theorem dX12_carryAll_39 : decode cX12_carryAll 39 = .ok (.aload_n 0, 1) := by decide +kernel
theorem dX12_carryAll_40 : decode cX12_carryAll 40 = .ok (.aload_n 0, 1) := by decide +kernel
theorem dX12_carryAll_41 : decode cX12_carryAll 41 = .ok (.aload_n 0, 1) := by decide +kernel
theorem dX12_carryAll_42 : decode cX12_carryAll 42 = .ok (.getfield 29, 3) := by decide +kernel
theorem dX12_carryAll_45 : decode cX12_carryAll 45 = .ok (.invokevirtual 251, 3) := by decide +kernel
theorem dX12_carryAll_48 : decode cX12_carryAll 48 = .ok (.putfield 29, 3) := by decide +kernel
theorem dX12_carryAll_51 : decode cX12_carryAll 51 = .ok (.aload_n 0, 1) := by decide +kernel
theorem dX12_carryAll_52 : decode cX12_carryAll 52 = .ok (.aload_n 0, 1) := by decide +kernel
theorem dX12_carryAll_53 : decode cX12_carryAll 53 = .ok (.aload_n 0, 1) := by decide +kernel
theorem dX12_carryAll_54 : decode cX12_carryAll 54 = .ok (.getfield 32, 3) := by decide +kernel
theorem dX12_carryAll_57 : decode cX12_carryAll 57 = .ok (.invokevirtual 251, 3) := by decide +kernel
theorem dX12_carryAll_60 : decode cX12_carryAll 60 = .ok (.putfield 32, 3) := by decide +kernel
theorem dX12_carryAll_63 : decode cX12_carryAll 63 = .ok (.aload_n 0, 1) := by decide +kernel
theorem dX12_carryAll_64 : decode cX12_carryAll 64 = .ok (.aload_n 0, 1) := by decide +kernel
theorem dX12_carryAll_65 : decode cX12_carryAll 65 = .ok (.aload_n 0, 1) := by decide +kernel
theorem dX12_carryAll_66 : decode cX12_carryAll 66 = .ok (.getfield 232, 3) := by decide +kernel
theorem dX12_carryAll_69 : decode cX12_carryAll 69 = .ok (.invokevirtual 251, 3) := by decide +kernel
theorem dX12_carryAll_72 : decode cX12_carryAll 72 = .ok (.putfield 232, 3) := by decide +kernel
theorem dX12_carryAll_75 : decode cX12_carryAll 75 = .ok (.aload_n 0, 1) := by decide +kernel
theorem dX12_carryAll_76 : decode cX12_carryAll 76 = .ok (.aload_n 0, 1) := by decide +kernel
theorem dX12_carryAll_77 : decode cX12_carryAll 77 = .ok (.aload_n 0, 1) := by decide +kernel
theorem dX12_carryAll_78 : decode cX12_carryAll 78 = .ok (.getfield 171, 3) := by decide +kernel
theorem dX12_carryAll_81 : decode cX12_carryAll 81 = .ok (.invokevirtual 251, 3) := by decide +kernel
theorem dX12_carryAll_84 : decode cX12_carryAll 84 = .ok (.putfield 171, 3) := by decide +kernel
theorem dX12_carryAll_87 : decode cX12_carryAll 87 = .ok (.iconst 0, 1) := by decide +kernel
theorem dX12_carryAll_88 : decode cX12_carryAll 88 = .ok (.istore_n 3, 1) := by decide +kernel
theorem dX12_carryAll_89 : decode cX12_carryAll 89 = .ok (.iload_n 3, 1) := by decide +kernel
theorem dX12_carryAll_90 : decode cX12_carryAll 90 = .ok (.bipush 16, 2) := by decide +kernel
theorem dX12_carryAll_92 : decode cX12_carryAll 92 = .ok (.if_icmp .ge 25, 3) := by decide +kernel
theorem dX12_carryAll_95 : decode cX12_carryAll 95 = .ok (.aload_n 0, 1) := by decide +kernel
theorem dX12_carryAll_96 : decode cX12_carryAll 96 = .ok (.getfield 7, 3) := by decide +kernel
theorem dX12_carryAll_99 : decode cX12_carryAll 99 = .ok (.iload_n 3, 1) := by decide +kernel
theorem dX12_carryAll_100 : decode cX12_carryAll 100 = .ok (.aload_n 0, 1) := by decide +kernel
theorem dX12_carryAll_101 : decode cX12_carryAll 101 = .ok (.aload_n 0, 1) := by decide +kernel
theorem dX12_carryAll_102 : decode cX12_carryAll 102 = .ok (.getfield 7, 3) := by decide +kernel
theorem dX12_carryAll_105 : decode cX12_carryAll 105 = .ok (.iload_n 3, 1) := by decide +kernel
theorem dX12_carryAll_106 : decode cX12_carryAll 106 = .ok (.iaload, 1) := by decide +kernel
theorem dX12_carryAll_107 : decode cX12_carryAll 107 = .ok (.invokevirtual 251, 3) := by decide +kernel
theorem dX12_carryAll_110 : decode cX12_carryAll 110 = .ok (.iastore, 1) := by decide +kernel
theorem dX12_carryAll_111 : decode cX12_carryAll 111 = .ok (.iinc 3 1, 3) := by decide +kernel
theorem dX12_carryAll_114 : decode cX12_carryAll 114 = .ok (.goto (-25), 3) := by decide +kernel
theorem dX12_carryAll_117 : decode cX12_carryAll 117 = .ok (.iconst 0, 1) := by decide +kernel
theorem dX12_carryAll_118 : decode cX12_carryAll 118 = .ok (.istore_n 3, 1) := by decide +kernel
theorem dX12_carryAll_119 : decode cX12_carryAll 119 = .ok (.iload_n 3, 1) := by decide +kernel
theorem dX12_carryAll_120 : decode cX12_carryAll 120 = .ok (.bipush 6, 2) := by decide +kernel
theorem dX12_carryAll_122 : decode cX12_carryAll 122 = .ok (.if_icmp .ge 73, 3) := by decide +kernel
theorem dX12_carryAll_125 : decode cX12_carryAll 125 = .ok (.aload_n 0, 1) := by decide +kernel
theorem dX12_carryAll_126 : decode cX12_carryAll 126 = .ok (.getfield 13, 3) := by decide +kernel
theorem dX12_carryAll_129 : decode cX12_carryAll 129 = .ok (.iload_n 3, 1) := by decide +kernel
theorem dX12_carryAll_130 : decode cX12_carryAll 130 = .ok (.aload_n 0, 1) := by decide +kernel
theorem dX12_carryAll_131 : decode cX12_carryAll 131 = .ok (.aload_n 0, 1) := by decide +kernel
theorem dX12_carryAll_132 : decode cX12_carryAll 132 = .ok (.getfield 13, 3) := by decide +kernel
theorem dX12_carryAll_135 : decode cX12_carryAll 135 = .ok (.iload_n 3, 1) := by decide +kernel
theorem dX12_carryAll_136 : decode cX12_carryAll 136 = .ok (.iaload, 1) := by decide +kernel
theorem dX12_carryAll_137 : decode cX12_carryAll 137 = .ok (.invokevirtual 251, 3) := by decide +kernel
theorem dX12_carryAll_140 : decode cX12_carryAll 140 = .ok (.iastore, 1) := by decide +kernel
theorem dX12_carryAll_141 : decode cX12_carryAll 141 = .ok (.aload_n 0, 1) := by decide +kernel
theorem dX12_carryAll_142 : decode cX12_carryAll 142 = .ok (.getfield 16, 3) := by decide +kernel
theorem dX12_carryAll_145 : decode cX12_carryAll 145 = .ok (.iload_n 3, 1) := by decide +kernel
theorem dX12_carryAll_146 : decode cX12_carryAll 146 = .ok (.aload_n 0, 1) := by decide +kernel
theorem dX12_carryAll_147 : decode cX12_carryAll 147 = .ok (.aload_n 0, 1) := by decide +kernel
theorem dX12_carryAll_148 : decode cX12_carryAll 148 = .ok (.getfield 16, 3) := by decide +kernel
theorem dX12_carryAll_151 : decode cX12_carryAll 151 = .ok (.iload_n 3, 1) := by decide +kernel
theorem dX12_carryAll_152 : decode cX12_carryAll 152 = .ok (.iaload, 1) := by decide +kernel
theorem dX12_carryAll_153 : decode cX12_carryAll 153 = .ok (.invokevirtual 251, 3) := by decide +kernel
theorem dX12_carryAll_156 : decode cX12_carryAll 156 = .ok (.iastore, 1) := by decide +kernel
theorem dX12_carryAll_157 : decode cX12_carryAll 157 = .ok (.aload_n 0, 1) := by decide +kernel
theorem dX12_carryAll_158 : decode cX12_carryAll 158 = .ok (.getfield 19, 3) := by decide +kernel
theorem dX12_carryAll_161 : decode cX12_carryAll 161 = .ok (.iload_n 3, 1) := by decide +kernel
theorem dX12_carryAll_162 : decode cX12_carryAll 162 = .ok (.aload_n 0, 1) := by decide +kernel
theorem dX12_carryAll_163 : decode cX12_carryAll 163 = .ok (.aload_n 0, 1) := by decide +kernel
theorem dX12_carryAll_164 : decode cX12_carryAll 164 = .ok (.getfield 19, 3) := by decide +kernel
theorem dX12_carryAll_167 : decode cX12_carryAll 167 = .ok (.iload_n 3, 1) := by decide +kernel
theorem dX12_carryAll_168 : decode cX12_carryAll 168 = .ok (.iaload, 1) := by decide +kernel
theorem dX12_carryAll_169 : decode cX12_carryAll 169 = .ok (.invokevirtual 251, 3) := by decide +kernel
theorem dX12_carryAll_172 : decode cX12_carryAll 172 = .ok (.iastore, 1) := by decide +kernel
theorem dX12_carryAll_173 : decode cX12_carryAll 173 = .ok (.aload_n 0, 1) := by decide +kernel
theorem dX12_carryAll_174 : decode cX12_carryAll 174 = .ok (.getfield 22, 3) := by decide +kernel
theorem dX12_carryAll_177 : decode cX12_carryAll 177 = .ok (.iload_n 3, 1) := by decide +kernel
theorem dX12_carryAll_178 : decode cX12_carryAll 178 = .ok (.aload_n 0, 1) := by decide +kernel
theorem dX12_carryAll_179 : decode cX12_carryAll 179 = .ok (.aload_n 0, 1) := by decide +kernel
theorem dX12_carryAll_180 : decode cX12_carryAll 180 = .ok (.getfield 22, 3) := by decide +kernel
theorem dX12_carryAll_183 : decode cX12_carryAll 183 = .ok (.iload_n 3, 1) := by decide +kernel
theorem dX12_carryAll_184 : decode cX12_carryAll 184 = .ok (.iaload, 1) := by decide +kernel
theorem dX12_carryAll_185 : decode cX12_carryAll 185 = .ok (.invokevirtual 251, 3) := by decide +kernel
theorem dX12_carryAll_188 : decode cX12_carryAll 188 = .ok (.iastore, 1) := by decide +kernel
theorem dX12_carryAll_189 : decode cX12_carryAll 189 = .ok (.iinc 3 1, 3) := by decide +kernel
theorem dX12_carryAll_192 : decode cX12_carryAll 192 = .ok (.goto (-73), 3) := by decide +kernel
theorem dX12_carryAll_195 : decode cX12_carryAll 195 = .ok (.iconst 0, 1) := by decide +kernel
theorem dX12_carryAll_196 : decode cX12_carryAll 196 = .ok (.istore_n 3, 1) := by decide +kernel
theorem dX12_carryAll_197 : decode cX12_carryAll 197 = .ok (.iload_n 3, 1) := by decide +kernel
theorem dX12_carryAll_198 : decode cX12_carryAll 198 = .ok (.iconst 4, 1) := by decide +kernel
theorem dX12_carryAll_199 : decode cX12_carryAll 199 = .ok (.if_icmp .ge 89, 3) := by decide +kernel
theorem dX12_carryAll_202 : decode cX12_carryAll 202 = .ok (.aload_n 0, 1) := by decide +kernel
theorem dX12_carryAll_203 : decode cX12_carryAll 203 = .ok (.getfield 35, 3) := by decide +kernel
theorem dX12_carryAll_206 : decode cX12_carryAll 206 = .ok (.iload_n 3, 1) := by decide +kernel
theorem dX12_carryAll_207 : decode cX12_carryAll 207 = .ok (.aload_n 0, 1) := by decide +kernel
theorem dX12_carryAll_208 : decode cX12_carryAll 208 = .ok (.aload_n 0, 1) := by decide +kernel
theorem dX12_carryAll_209 : decode cX12_carryAll 209 = .ok (.getfield 35, 3) := by decide +kernel
theorem dX12_carryAll_212 : decode cX12_carryAll 212 = .ok (.iload_n 3, 1) := by decide +kernel
theorem dX12_carryAll_213 : decode cX12_carryAll 213 = .ok (.iaload, 1) := by decide +kernel
theorem dX12_carryAll_214 : decode cX12_carryAll 214 = .ok (.invokevirtual 251, 3) := by decide +kernel
theorem dX12_carryAll_217 : decode cX12_carryAll 217 = .ok (.iastore, 1) := by decide +kernel
theorem dX12_carryAll_218 : decode cX12_carryAll 218 = .ok (.aload_n 0, 1) := by decide +kernel
theorem dX12_carryAll_219 : decode cX12_carryAll 219 = .ok (.getfield 38, 3) := by decide +kernel
theorem dX12_carryAll_222 : decode cX12_carryAll 222 = .ok (.iload_n 3, 1) := by decide +kernel
theorem dX12_carryAll_223 : decode cX12_carryAll 223 = .ok (.aload_n 0, 1) := by decide +kernel
theorem dX12_carryAll_224 : decode cX12_carryAll 224 = .ok (.aload_n 0, 1) := by decide +kernel
theorem dX12_carryAll_225 : decode cX12_carryAll 225 = .ok (.getfield 38, 3) := by decide +kernel
theorem dX12_carryAll_228 : decode cX12_carryAll 228 = .ok (.iload_n 3, 1) := by decide +kernel
theorem dX12_carryAll_229 : decode cX12_carryAll 229 = .ok (.iaload, 1) := by decide +kernel
theorem dX12_carryAll_230 : decode cX12_carryAll 230 = .ok (.invokevirtual 251, 3) := by decide +kernel
theorem dX12_carryAll_233 : decode cX12_carryAll 233 = .ok (.iastore, 1) := by decide +kernel
theorem dX12_carryAll_234 : decode cX12_carryAll 234 = .ok (.aload_n 0, 1) := by decide +kernel
theorem dX12_carryAll_235 : decode cX12_carryAll 235 = .ok (.getfield 41, 3) := by decide +kernel
theorem dX12_carryAll_238 : decode cX12_carryAll 238 = .ok (.iload_n 3, 1) := by decide +kernel
theorem dX12_carryAll_239 : decode cX12_carryAll 239 = .ok (.aload_n 0, 1) := by decide +kernel
theorem dX12_carryAll_240 : decode cX12_carryAll 240 = .ok (.aload_n 0, 1) := by decide +kernel
theorem dX12_carryAll_241 : decode cX12_carryAll 241 = .ok (.getfield 41, 3) := by decide +kernel
theorem dX12_carryAll_244 : decode cX12_carryAll 244 = .ok (.iload_n 3, 1) := by decide +kernel
theorem dX12_carryAll_245 : decode cX12_carryAll 245 = .ok (.iaload, 1) := by decide +kernel
theorem dX12_carryAll_246 : decode cX12_carryAll 246 = .ok (.invokevirtual 251, 3) := by decide +kernel
theorem dX12_carryAll_249 : decode cX12_carryAll 249 = .ok (.iastore, 1) := by decide +kernel
theorem dX12_carryAll_250 : decode cX12_carryAll 250 = .ok (.aload_n 0, 1) := by decide +kernel
theorem dX12_carryAll_251 : decode cX12_carryAll 251 = .ok (.getfield 44, 3) := by decide +kernel
theorem dX12_carryAll_254 : decode cX12_carryAll 254 = .ok (.iload_n 3, 1) := by decide +kernel
theorem dX12_carryAll_255 : decode cX12_carryAll 255 = .ok (.aload_n 0, 1) := by decide +kernel
theorem dX12_carryAll_256 : decode cX12_carryAll 256 = .ok (.aload_n 0, 1) := by decide +kernel
theorem dX12_carryAll_257 : decode cX12_carryAll 257 = .ok (.getfield 44, 3) := by decide +kernel
theorem dX12_carryAll_260 : decode cX12_carryAll 260 = .ok (.iload_n 3, 1) := by decide +kernel
theorem dX12_carryAll_261 : decode cX12_carryAll 261 = .ok (.iaload, 1) := by decide +kernel
theorem dX12_carryAll_262 : decode cX12_carryAll 262 = .ok (.invokevirtual 251, 3) := by decide +kernel
theorem dX12_carryAll_265 : decode cX12_carryAll 265 = .ok (.iastore, 1) := by decide +kernel
theorem dX12_carryAll_266 : decode cX12_carryAll 266 = .ok (.aload_n 0, 1) := by decide +kernel
theorem dX12_carryAll_267 : decode cX12_carryAll 267 = .ok (.getfield 47, 3) := by decide +kernel
theorem dX12_carryAll_270 : decode cX12_carryAll 270 = .ok (.iload_n 3, 1) := by decide +kernel
theorem dX12_carryAll_271 : decode cX12_carryAll 271 = .ok (.aload_n 0, 1) := by decide +kernel
theorem dX12_carryAll_272 : decode cX12_carryAll 272 = .ok (.aload_n 0, 1) := by decide +kernel
theorem dX12_carryAll_273 : decode cX12_carryAll 273 = .ok (.getfield 47, 3) := by decide +kernel
theorem dX12_carryAll_276 : decode cX12_carryAll 276 = .ok (.iload_n 3, 1) := by decide +kernel
theorem dX12_carryAll_277 : decode cX12_carryAll 277 = .ok (.iaload, 1) := by decide +kernel
theorem dX12_carryAll_278 : decode cX12_carryAll 278 = .ok (.invokevirtual 251, 3) := by decide +kernel
theorem dX12_carryAll_281 : decode cX12_carryAll 281 = .ok (.iastore, 1) := by decide +kernel
theorem dX12_carryAll_282 : decode cX12_carryAll 282 = .ok (.iinc 3 1, 3) := by decide +kernel
theorem dX12_carryAll_285 : decode cX12_carryAll 285 = .ok (.goto (-88), 3) := by decide +kernel
theorem dX12_carryAll_288 : decode cX12_carryAll 288 = .ok (.iconst 0, 1) := by decide +kernel
theorem dX12_carryAll_289 : decode cX12_carryAll 289 = .ok (.istore_n 3, 1) := by decide +kernel
theorem dX12_carryAll_290 : decode cX12_carryAll 290 = .ok (.iload_n 3, 1) := by decide +kernel
theorem dX12_carryAll_291 : decode cX12_carryAll 291 = .ok (.bipush 8, 2) := by decide +kernel
theorem dX12_carryAll_293 : decode cX12_carryAll 293 = .ok (.if_icmp .ge 105, 3) := by decide +kernel
theorem dX12_carryAll_296 : decode cX12_carryAll 296 = .ok (.aload_n 0, 1) := by decide +kernel
theorem dX12_carryAll_297 : decode cX12_carryAll 297 = .ok (.getfield 50, 3) := by decide +kernel
theorem dX12_carryAll_300 : decode cX12_carryAll 300 = .ok (.iload_n 3, 1) := by decide +kernel
theorem dX12_carryAll_301 : decode cX12_carryAll 301 = .ok (.aload_n 0, 1) := by decide +kernel
theorem dX12_carryAll_302 : decode cX12_carryAll 302 = .ok (.aload_n 0, 1) := by decide +kernel
theorem dX12_carryAll_303 : decode cX12_carryAll 303 = .ok (.getfield 50, 3) := by decide +kernel
theorem dX12_carryAll_306 : decode cX12_carryAll 306 = .ok (.iload_n 3, 1) := by decide +kernel
theorem dX12_carryAll_307 : decode cX12_carryAll 307 = .ok (.iaload, 1) := by decide +kernel
theorem dX12_carryAll_308 : decode cX12_carryAll 308 = .ok (.invokevirtual 251, 3) := by decide +kernel
theorem dX12_carryAll_311 : decode cX12_carryAll 311 = .ok (.iastore, 1) := by decide +kernel
theorem dX12_carryAll_312 : decode cX12_carryAll 312 = .ok (.aload_n 0, 1) := by decide +kernel
theorem dX12_carryAll_313 : decode cX12_carryAll 313 = .ok (.getfield 53, 3) := by decide +kernel
theorem dX12_carryAll_316 : decode cX12_carryAll 316 = .ok (.iload_n 3, 1) := by decide +kernel
theorem dX12_carryAll_317 : decode cX12_carryAll 317 = .ok (.aload_n 0, 1) := by decide +kernel
theorem dX12_carryAll_318 : decode cX12_carryAll 318 = .ok (.aload_n 0, 1) := by decide +kernel
theorem dX12_carryAll_319 : decode cX12_carryAll 319 = .ok (.getfield 53, 3) := by decide +kernel
theorem dX12_carryAll_322 : decode cX12_carryAll 322 = .ok (.iload_n 3, 1) := by decide +kernel
theorem dX12_carryAll_323 : decode cX12_carryAll 323 = .ok (.iaload, 1) := by decide +kernel
theorem dX12_carryAll_324 : decode cX12_carryAll 324 = .ok (.invokevirtual 251, 3) := by decide +kernel
theorem dX12_carryAll_327 : decode cX12_carryAll 327 = .ok (.iastore, 1) := by decide +kernel
theorem dX12_carryAll_328 : decode cX12_carryAll 328 = .ok (.aload_n 0, 1) := by decide +kernel
theorem dX12_carryAll_329 : decode cX12_carryAll 329 = .ok (.getfield 56, 3) := by decide +kernel
theorem dX12_carryAll_332 : decode cX12_carryAll 332 = .ok (.iload_n 3, 1) := by decide +kernel
theorem dX12_carryAll_333 : decode cX12_carryAll 333 = .ok (.aload_n 0, 1) := by decide +kernel
theorem dX12_carryAll_334 : decode cX12_carryAll 334 = .ok (.aload_n 0, 1) := by decide +kernel
theorem dX12_carryAll_335 : decode cX12_carryAll 335 = .ok (.getfield 56, 3) := by decide +kernel
theorem dX12_carryAll_338 : decode cX12_carryAll 338 = .ok (.iload_n 3, 1) := by decide +kernel
theorem dX12_carryAll_339 : decode cX12_carryAll 339 = .ok (.iaload, 1) := by decide +kernel
theorem dX12_carryAll_340 : decode cX12_carryAll 340 = .ok (.invokevirtual 251, 3) := by decide +kernel
theorem dX12_carryAll_343 : decode cX12_carryAll 343 = .ok (.iastore, 1) := by decide +kernel
theorem dX12_carryAll_344 : decode cX12_carryAll 344 = .ok (.aload_n 0, 1) := by decide +kernel
theorem dX12_carryAll_345 : decode cX12_carryAll 345 = .ok (.getfield 59, 3) := by decide +kernel
theorem dX12_carryAll_348 : decode cX12_carryAll 348 = .ok (.iload_n 3, 1) := by decide +kernel
theorem dX12_carryAll_349 : decode cX12_carryAll 349 = .ok (.aload_n 0, 1) := by decide +kernel
theorem dX12_carryAll_350 : decode cX12_carryAll 350 = .ok (.aload_n 0, 1) := by decide +kernel
theorem dX12_carryAll_351 : decode cX12_carryAll 351 = .ok (.getfield 59, 3) := by decide +kernel
theorem dX12_carryAll_354 : decode cX12_carryAll 354 = .ok (.iload_n 3, 1) := by decide +kernel
theorem dX12_carryAll_355 : decode cX12_carryAll 355 = .ok (.iaload, 1) := by decide +kernel
theorem dX12_carryAll_356 : decode cX12_carryAll 356 = .ok (.invokevirtual 251, 3) := by decide +kernel
theorem dX12_carryAll_359 : decode cX12_carryAll 359 = .ok (.iastore, 1) := by decide +kernel
theorem dX12_carryAll_360 : decode cX12_carryAll 360 = .ok (.aload_n 0, 1) := by decide +kernel
theorem dX12_carryAll_361 : decode cX12_carryAll 361 = .ok (.getfield 62, 3) := by decide +kernel
theorem dX12_carryAll_364 : decode cX12_carryAll 364 = .ok (.iload_n 3, 1) := by decide +kernel
theorem dX12_carryAll_365 : decode cX12_carryAll 365 = .ok (.aload_n 0, 1) := by decide +kernel
theorem dX12_carryAll_366 : decode cX12_carryAll 366 = .ok (.aload_n 0, 1) := by decide +kernel
theorem dX12_carryAll_367 : decode cX12_carryAll 367 = .ok (.getfield 62, 3) := by decide +kernel
theorem dX12_carryAll_370 : decode cX12_carryAll 370 = .ok (.iload_n 3, 1) := by decide +kernel
theorem dX12_carryAll_371 : decode cX12_carryAll 371 = .ok (.iaload, 1) := by decide +kernel
theorem dX12_carryAll_372 : decode cX12_carryAll 372 = .ok (.invokevirtual 251, 3) := by decide +kernel
theorem dX12_carryAll_375 : decode cX12_carryAll 375 = .ok (.iastore, 1) := by decide +kernel
theorem dX12_carryAll_376 : decode cX12_carryAll 376 = .ok (.aload_n 0, 1) := by decide +kernel
theorem dX12_carryAll_377 : decode cX12_carryAll 377 = .ok (.getfield 65, 3) := by decide +kernel
theorem dX12_carryAll_380 : decode cX12_carryAll 380 = .ok (.iload_n 3, 1) := by decide +kernel
theorem dX12_carryAll_381 : decode cX12_carryAll 381 = .ok (.aload_n 0, 1) := by decide +kernel
theorem dX12_carryAll_382 : decode cX12_carryAll 382 = .ok (.aload_n 0, 1) := by decide +kernel
theorem dX12_carryAll_383 : decode cX12_carryAll 383 = .ok (.getfield 65, 3) := by decide +kernel
theorem dX12_carryAll_386 : decode cX12_carryAll 386 = .ok (.iload_n 3, 1) := by decide +kernel
theorem dX12_carryAll_387 : decode cX12_carryAll 387 = .ok (.iaload, 1) := by decide +kernel
theorem dX12_carryAll_388 : decode cX12_carryAll 388 = .ok (.invokevirtual 251, 3) := by decide +kernel
theorem dX12_carryAll_391 : decode cX12_carryAll 391 = .ok (.iastore, 1) := by decide +kernel
theorem dX12_carryAll_392 : decode cX12_carryAll 392 = .ok (.iinc 3 1, 3) := by decide +kernel
theorem dX12_carryAll_395 : decode cX12_carryAll 395 = .ok (.goto (-105), 3) := by decide +kernel
theorem dX12_carryAll_398 : decode cX12_carryAll 398 = .ok (.return_, 1) := by decide +kernel
theorem dX12_open_0 : decode cX12_open 0 = .ok (.aload_n 0, 1) := by decide +kernel
theorem dX12_open_1 : decode cX12_open 1 = .ok (.aload_n 0, 1) := by decide +kernel
theorem dX12_open_2 : decode cX12_open 2 = .ok (.getfield 130, 3) := by decide +kernel
theorem dX12_open_5 : decode cX12_open 5 = .ok (.iconst 1, 1) := by decide +kernel
theorem dX12_open_6 : decode cX12_open 6 = .ok (.invokevirtual 254, 3) := by decide +kernel
theorem dX12_open_9 : decode cX12_open 9 = .ok (.return_, 1) := by decide +kernel
theorem dX12_close_0 : decode cX12_close 0 = .ok (.aload_n 0, 1) := by decide +kernel
theorem dX12_close_1 : decode cX12_close 1 = .ok (.aload_n 0, 1) := by decide +kernel
theorem dX12_close_2 : decode cX12_close 2 = .ok (.getfield 130, 3) := by decide +kernel
theorem dX12_close_5 : decode cX12_close 5 = .ok (.iconst 0, 1) := by decide +kernel
theorem dX12_close_6 : decode cX12_close 6 = .ok (.invokevirtual 254, 3) := by decide +kernel
theorem dX12_close_9 : decode cX12_close 9 = .ok (.aload_n 0, 1) := by decide +kernel
theorem dX12_close_10 : decode cX12_close 10 = .ok (.bipush 63, 2) := by decide +kernel
theorem dX12_close_12 : decode cX12_close 12 = .ok (.putfield 87, 3) := by decide +kernel
theorem dX12_close_15 : decode cX12_close 15 = .ok (.aload_n 0, 1) := by decide +kernel
theorem dX12_close_16 : decode cX12_close 16 = .ok (.iconst 0, 1) := by decide +kernel
theorem dX12_close_17 : decode cX12_close 17 = .ok (.putfield 210, 3) := by decide +kernel
theorem dX12_close_20 : decode cX12_close 20 = .ok (.return_, 1) := by decide +kernel
theorem dX12_image_0 : decode cX12_image 0 = .ok (.aload_n 0, 1) := by decide +kernel
theorem dX12_image_1 : decode cX12_image 1 = .ok (.iconst 0, 1) := by decide +kernel
theorem dX12_image_2 : decode cX12_image 2 = .ok (.putfield 160, 3) := by decide +kernel
theorem dX12_image_5 : decode cX12_image 5 = .ok (.aload_n 0, 1) := by decide +kernel
theorem dX12_image_6 : decode cX12_image 6 = .ok (.iconst 1, 1) := by decide +kernel
theorem dX12_image_7 : decode cX12_image 7 = .ok (.putfield 258, 3) := by decide +kernel
theorem dX12_image_10 : decode cX12_image 10 = .ok (.aload_n 0, 1) := by decide +kernel
theorem dX12_image_11 : decode cX12_image 11 = .ok (.aload_n 0, 1) := by decide +kernel
theorem dX12_image_12 : decode cX12_image 12 = .ok (.getfield 133, 3) := by decide +kernel
theorem dX12_image_15 : decode cX12_image 15 = .ok (.iconst 1, 1) := by decide +kernel
theorem dX12_image_16 : decode cX12_image 16 = .ok (.invokevirtual 254, 3) := by decide +kernel
theorem dX12_image_19 : decode cX12_image 19 = .ok (.aload_n 0, 1) := by decide +kernel
theorem dX12_image_20 : decode cX12_image 20 = .ok (.getfield 171, 3) := by decide +kernel
theorem dX12_image_23 : decode cX12_image 23 = .ok (.ireturn, 1) := by decide +kernel
theorem dX12_restore_0 : decode cX12_restore 0 = .ok (.aload_n 0, 1) := by decide +kernel
theorem dX12_restore_1 : decode cX12_restore 1 = .ok (.iconst 0, 1) := by decide +kernel
theorem dX12_restore_2 : decode cX12_restore 2 = .ok (.putfield 160, 3) := by decide +kernel
theorem dX12_restore_5 : decode cX12_restore 5 = .ok (.aload_n 0, 1) := by decide +kernel
theorem dX12_restore_6 : decode cX12_restore 6 = .ok (.getfield 258, 3) := by decide +kernel
theorem dX12_restore_9 : decode cX12_restore 9 = .ok (.ifCond .ne 6, 3) := by decide +kernel
theorem dX12_restore_12 : decode cX12_restore 12 = .ok (.bipush (-3), 2) := by decide +kernel
theorem dX12_restore_14 : decode cX12_restore 14 = .ok (.ireturn, 1) := by decide +kernel
theorem dX12_restore_15 : decode cX12_restore 15 = .ok (.aload_n 0, 1) := by decide +kernel
theorem dX12_restore_16 : decode cX12_restore 16 = .ok (.aload_n 0, 1) := by decide +kernel
theorem dX12_restore_17 : decode cX12_restore 17 = .ok (.getfield 133, 3) := by decide +kernel
theorem dX12_restore_20 : decode cX12_restore 20 = .ok (.iconst 0, 1) := by decide +kernel
theorem dX12_restore_21 : decode cX12_restore 21 = .ok (.invokevirtual 254, 3) := by decide +kernel
theorem dX12_restore_24 : decode cX12_restore 24 = .ok (.aload_n 0, 1) := by decide +kernel
theorem dX12_restore_25 : decode cX12_restore 25 = .ok (.getfield 171, 3) := by decide +kernel
theorem dX12_restore_28 : decode cX12_restore 28 = .ok (.ireturn, 1) := by decide +kernel
theorem dX12_here_0 : decode cX12_here 0 = .ok (.aload_n 0, 1) := by decide +kernel
theorem dX12_here_1 : decode cX12_here 1 = .ok (.getfield 261, 3) := by decide +kernel
theorem dX12_here_4 : decode cX12_here 4 = .ok (.aload_n 0, 1) := by decide +kernel
theorem dX12_here_5 : decode cX12_here 5 = .ok (.getfield 80, 3) := by decide +kernel
theorem dX12_here_8 : decode cX12_here 8 = .ok (.aload_n 0, 1) := by decide +kernel
theorem dX12_here_9 : decode cX12_here 9 = .ok (.getfield 264, 3) := by decide +kernel
theorem dX12_here_12 : decode cX12_here 12 = .ok (.iaload, 1) := by decide +kernel
theorem dX12_here_13 : decode cX12_here 13 = .ok (.if_icmp .ge 24, 3) := by decide +kernel
theorem dX12_here_16 : decode cX12_here 16 = .ok (.aload_n 0, 1) := by decide +kernel
theorem dX12_here_17 : decode cX12_here 17 = .ok (.getfield 83, 3) := by decide +kernel
theorem dX12_here_20 : decode cX12_here 20 = .ok (.bipush 100, 2) := by decide +kernel
theorem dX12_here_22 : decode cX12_here 22 = .ok (.aload_n 0, 1) := by decide +kernel
theorem dX12_here_23 : decode cX12_here 23 = .ok (.getfield 264, 3) := by decide +kernel
theorem dX12_here_26 : decode cX12_here 26 = .ok (.imul, 1) := by decide +kernel
theorem dX12_here_27 : decode cX12_here 27 = .ok (.aload_n 0, 1) := by decide +kernel
theorem dX12_here_28 : decode cX12_here 28 = .ok (.getfield 261, 3) := by decide +kernel
theorem dX12_here_31 : decode cX12_here 31 = .ok (.iadd, 1) := by decide +kernel
theorem dX12_here_32 : decode cX12_here 32 = .ok (.laload, 1) := by decide +kernel
theorem dX12_here_33 : decode cX12_here 33 = .ok (.l2i, 1) := by decide +kernel
theorem dX12_here_34 : decode cX12_here 34 = .ok (.goto 6, 3) := by decide +kernel
theorem dX12_here_37 : decode cX12_here 37 = .ok (.sipush (-999), 3) := by decide +kernel
theorem dX12_here_40 : decode cX12_here 40 = .ok (.ireturn, 1) := by decide +kernel
theorem dX12_readDigits_0 : decode cX12_readDigits 0 = .ok (.iconst 0, 1) := by decide +kernel
theorem dX12_readDigits_1 : decode cX12_readDigits 1 = .ok (.istore_n 2, 1) := by decide +kernel
theorem dX12_readDigits_2 : decode cX12_readDigits 2 = .ok (.iconst 0, 1) := by decide +kernel
theorem dX12_readDigits_3 : decode cX12_readDigits 3 = .ok (.istore_n 3, 1) := by decide +kernel
theorem dX12_readDigits_4 : decode cX12_readDigits 4 = .ok (.iload_n 3, 1) := by decide +kernel
theorem dX12_readDigits_5 : decode cX12_readDigits 5 = .ok (.iload_n 1, 1) := by decide +kernel
theorem dX12_readDigits_6 : decode cX12_readDigits 6 = .ok (.if_icmp .ge 87, 3) := by decide +kernel
theorem dX12_readDigits_9 : decode cX12_readDigits 9 = .ok (.aload_n 0, 1) := by decide +kernel
theorem dX12_readDigits_10 : decode cX12_readDigits 10 = .ok (.aload_n 0, 1) := by decide +kernel
theorem dX12_readDigits_11 : decode cX12_readDigits 11 = .ok (.getfield 267, 3) := by decide +kernel
theorem dX12_readDigits_14 : decode cX12_readDigits 14 = .ok (.ifCond .ne 20, 3) := by decide +kernel
theorem dX12_readDigits_17 : decode cX12_readDigits 17 = .ok (.aload_n 0, 1) := by decide +kernel
theorem dX12_readDigits_18 : decode cX12_readDigits 18 = .ok (.invokevirtual 270, 3) := by decide +kernel
theorem dX12_readDigits_21 : decode cX12_readDigits 21 = .ok (.i2l, 1) := by decide +kernel
theorem dX12_readDigits_22 : decode cX12_readDigits 22 = .ok (.ldc2_w 274, 3) := by decide +kernel
theorem dX12_readDigits_25 : decode cX12_readDigits 25 = .ok (.ldc2_w 276, 3) := by decide +kernel
theorem dX12_readDigits_28 : decode cX12_readDigits 28 = .ok (.invokestatic 165, 3) := by decide +kernel
theorem dX12_readDigits_31 : decode cX12_readDigits 31 = .ok (.ifCond .ne 7, 3) := by decide +kernel
theorem dX12_readDigits_34 : decode cX12_readDigits 34 = .ok (.iconst 1, 1) := by decide +kernel
theorem dX12_readDigits_35 : decode cX12_readDigits 35 = .ok (.goto 4, 3) := by decide +kernel
theorem dX12_readDigits_38 : decode cX12_readDigits 38 = .ok (.iconst 0, 1) := by decide +kernel
theorem dX12_readDigits_39 : decode cX12_readDigits 39 = .ok (.putfield 267, 3) := by decide +kernel
theorem dX12_readDigits_42 : decode cX12_readDigits 42 = .ok (.aload_n 0, 1) := by decide +kernel
theorem dX12_readDigits_43 : decode cX12_readDigits 43 = .ok (.getfield 267, 3) := by decide +kernel
theorem dX12_readDigits_46 : decode cX12_readDigits 46 = .ok (.ifCond .eq 7, 3) := by decide +kernel
theorem dX12_readDigits_49 : decode cX12_readDigits 49 = .ok (.iconst 0, 1) := by decide +kernel
theorem dX12_readDigits_50 : decode cX12_readDigits 50 = .ok (.goto 15, 3) := by decide +kernel
theorem dX12_readDigits_53 : decode cX12_readDigits 53 = .ok (.bipush 10, 2) := by decide +kernel
theorem dX12_readDigits_55 : decode cX12_readDigits 55 = .ok (.iload_n 2, 1) := by decide +kernel
theorem dX12_readDigits_56 : decode cX12_readDigits 56 = .ok (.imul, 1) := by decide +kernel
theorem dX12_readDigits_57 : decode cX12_readDigits 57 = .ok (.aload_n 0, 1) := by decide +kernel
theorem dX12_readDigits_58 : decode cX12_readDigits 58 = .ok (.invokevirtual 270, 3) := by decide +kernel
theorem dX12_readDigits_61 : decode cX12_readDigits 61 = .ok (.iadd, 1) := by decide +kernel
theorem dX12_readDigits_62 : decode cX12_readDigits 62 = .ok (.bipush 48, 2) := by decide +kernel
theorem dX12_readDigits_64 : decode cX12_readDigits 64 = .ok (.isub, 1) := by decide +kernel
theorem dX12_readDigits_65 : decode cX12_readDigits 65 = .ok (.istore_n 2, 1) := by decide +kernel
theorem dX12_readDigits_66 : decode cX12_readDigits 66 = .ok (.aload_n 0, 1) := by decide +kernel
theorem dX12_readDigits_67 : decode cX12_readDigits 67 = .ok (.dup, 1) := by decide +kernel
theorem dX12_readDigits_68 : decode cX12_readDigits 68 = .ok (.getfield 261, 3) := by decide +kernel
theorem dX12_readDigits_71 : decode cX12_readDigits 71 = .ok (.aload_n 0, 1) := by decide +kernel
theorem dX12_readDigits_72 : decode cX12_readDigits 72 = .ok (.getfield 267, 3) := by decide +kernel
theorem dX12_readDigits_75 : decode cX12_readDigits 75 = .ok (.ifCond .eq 7, 3) := by decide +kernel
theorem dX12_readDigits_78 : decode cX12_readDigits 78 = .ok (.iconst 0, 1) := by decide +kernel
theorem dX12_readDigits_79 : decode cX12_readDigits 79 = .ok (.goto 4, 3) := by decide +kernel
theorem dX12_readDigits_82 : decode cX12_readDigits 82 = .ok (.iconst 1, 1) := by decide +kernel
theorem dX12_readDigits_83 : decode cX12_readDigits 83 = .ok (.iadd, 1) := by decide +kernel
theorem dX12_readDigits_84 : decode cX12_readDigits 84 = .ok (.putfield 261, 3) := by decide +kernel
theorem dX12_readDigits_87 : decode cX12_readDigits 87 = .ok (.iinc 3 1, 3) := by decide +kernel
theorem dX12_readDigits_90 : decode cX12_readDigits 90 = .ok (.goto (-86), 3) := by decide +kernel
theorem dX12_readDigits_93 : decode cX12_readDigits 93 = .ok (.iload_n 2, 1) := by decide +kernel
theorem dX12_readDigits_94 : decode cX12_readDigits 94 = .ok (.ireturn, 1) := by decide +kernel
theorem dX12_readSign_0 : decode cX12_readSign 0 = .ok (.aload_n 0, 1) := by decide +kernel
theorem dX12_readSign_1 : decode cX12_readSign 1 = .ok (.invokevirtual 270, 3) := by decide +kernel
theorem dX12_readSign_4 : decode cX12_readSign 4 = .ok (.istore_n 1, 1) := by decide +kernel
theorem dX12_readSign_5 : decode cX12_readSign 5 = .ok (.aload_n 0, 1) := by decide +kernel
theorem dX12_readSign_6 : decode cX12_readSign 6 = .ok (.aload_n 0, 1) := by decide +kernel
theorem dX12_readSign_7 : decode cX12_readSign 7 = .ok (.getfield 267, 3) := by decide +kernel
theorem dX12_readSign_10 : decode cX12_readSign 10 = .ok (.ifCond .ne 15, 3) := by decide +kernel
theorem dX12_readSign_13 : decode cX12_readSign 13 = .ok (.iload_n 1, 1) := by decide +kernel
theorem dX12_readSign_14 : decode cX12_readSign 14 = .ok (.bipush 43, 2) := by decide +kernel
theorem dX12_readSign_16 : decode cX12_readSign 16 = .ok (.if_icmp .eq 13, 3) := by decide +kernel
theorem dX12_readSign_19 : decode cX12_readSign 19 = .ok (.iload_n 1, 1) := by decide +kernel
theorem dX12_readSign_20 : decode cX12_readSign 20 = .ok (.bipush 45, 2) := by decide +kernel
theorem dX12_readSign_22 : decode cX12_readSign 22 = .ok (.if_icmp .eq 7, 3) := by decide +kernel
theorem dX12_readSign_25 : decode cX12_readSign 25 = .ok (.iconst 1, 1) := by decide +kernel
theorem dX12_readSign_26 : decode cX12_readSign 26 = .ok (.goto 4, 3) := by decide +kernel
theorem dX12_readSign_29 : decode cX12_readSign 29 = .ok (.iconst 0, 1) := by decide +kernel
theorem dX12_readSign_30 : decode cX12_readSign 30 = .ok (.putfield 267, 3) := by decide +kernel
theorem dX12_readSign_33 : decode cX12_readSign 33 = .ok (.aload_n 0, 1) := by decide +kernel
theorem dX12_readSign_34 : decode cX12_readSign 34 = .ok (.dup, 1) := by decide +kernel
theorem dX12_readSign_35 : decode cX12_readSign 35 = .ok (.getfield 261, 3) := by decide +kernel
theorem dX12_readSign_38 : decode cX12_readSign 38 = .ok (.aload_n 0, 1) := by decide +kernel
theorem dX12_readSign_39 : decode cX12_readSign 39 = .ok (.getfield 267, 3) := by decide +kernel
theorem dX12_readSign_42 : decode cX12_readSign 42 = .ok (.ifCond .eq 7, 3) := by decide +kernel
theorem dX12_readSign_45 : decode cX12_readSign 45 = .ok (.iconst 0, 1) := by decide +kernel
theorem dX12_readSign_46 : decode cX12_readSign 46 = .ok (.goto 4, 3) := by decide +kernel
theorem dX12_readSign_49 : decode cX12_readSign 49 = .ok (.iconst 1, 1) := by decide +kernel
theorem dX12_readSign_50 : decode cX12_readSign 50 = .ok (.iadd, 1) := by decide +kernel
theorem dX12_readSign_51 : decode cX12_readSign 51 = .ok (.putfield 261, 3) := by decide +kernel
theorem dX12_readSign_54 : decode cX12_readSign 54 = .ok (.iload_n 1, 1) := by decide +kernel
theorem dX12_readSign_55 : decode cX12_readSign 55 = .ok (.bipush 45, 2) := by decide +kernel
theorem dX12_readSign_57 : decode cX12_readSign 57 = .ok (.if_icmp .ne 7, 3) := by decide +kernel
theorem dX12_readSign_60 : decode cX12_readSign 60 = .ok (.iconst (-1), 1) := by decide +kernel
theorem dX12_readSign_61 : decode cX12_readSign 61 = .ok (.goto 4, 3) := by decide +kernel
theorem dX12_readSign_64 : decode cX12_readSign 64 = .ok (.iconst 1, 1) := by decide +kernel
theorem dX12_readSign_65 : decode cX12_readSign 65 = .ok (.ireturn, 1) := by decide +kernel
theorem dX12_isLetter_0 : decode cX12_isLetter 0 = .ok (.iload_n 0, 1) := by decide +kernel
theorem dX12_isLetter_1 : decode cX12_isLetter 1 = .ok (.bipush 102, 2) := by decide +kernel
theorem dX12_isLetter_3 : decode cX12_isLetter 3 = .ok (.if_icmp .eq 39, 3) := by decide +kernel
theorem dX12_isLetter_6 : decode cX12_isLetter 6 = .ok (.iload_n 0, 1) := by decide +kernel
theorem dX12_isLetter_7 : decode cX12_isLetter 7 = .ok (.bipush 112, 2) := by decide +kernel
theorem dX12_isLetter_9 : decode cX12_isLetter 9 = .ok (.if_icmp .eq 33, 3) := by decide +kernel
theorem dX12_isLetter_12 : decode cX12_isLetter 12 = .ok (.iload_n 0, 1) := by decide +kernel
theorem dX12_isLetter_13 : decode cX12_isLetter 13 = .ok (.bipush 107, 2) := by decide +kernel
theorem dX12_isLetter_15 : decode cX12_isLetter 15 = .ok (.if_icmp .eq 27, 3) := by decide +kernel
theorem dX12_isLetter_18 : decode cX12_isLetter 18 = .ok (.iload_n 0, 1) := by decide +kernel
theorem dX12_isLetter_19 : decode cX12_isLetter 19 = .ok (.bipush 116, 2) := by decide +kernel
theorem dX12_isLetter_21 : decode cX12_isLetter 21 = .ok (.if_icmp .eq 21, 3) := by decide +kernel
theorem dX12_isLetter_24 : decode cX12_isLetter 24 = .ok (.iload_n 0, 1) := by decide +kernel
theorem dX12_isLetter_25 : decode cX12_isLetter 25 = .ok (.bipush 111, 2) := by decide +kernel
theorem dX12_isLetter_27 : decode cX12_isLetter 27 = .ok (.if_icmp .eq 15, 3) := by decide +kernel
theorem dX12_isLetter_30 : decode cX12_isLetter 30 = .ok (.iload_n 0, 1) := by decide +kernel
theorem dX12_isLetter_31 : decode cX12_isLetter 31 = .ok (.bipush 100, 2) := by decide +kernel
theorem dX12_isLetter_33 : decode cX12_isLetter 33 = .ok (.if_icmp .eq 9, 3) := by decide +kernel
theorem dX12_isLetter_36 : decode cX12_isLetter 36 = .ok (.iload_n 0, 1) := by decide +kernel
theorem dX12_isLetter_37 : decode cX12_isLetter 37 = .ok (.bipush 114, 2) := by decide +kernel
theorem dX12_isLetter_39 : decode cX12_isLetter 39 = .ok (.if_icmp .ne 7, 3) := by decide +kernel
theorem dX12_isLetter_42 : decode cX12_isLetter 42 = .ok (.iconst 1, 1) := by decide +kernel
theorem dX12_isLetter_43 : decode cX12_isLetter 43 = .ok (.goto 4, 3) := by decide +kernel
theorem dX12_isLetter_46 : decode cX12_isLetter 46 = .ok (.iconst 0, 1) := by decide +kernel
theorem dX12_isLetter_47 : decode cX12_isLetter 47 = .ok (.ireturn, 1) := by decide +kernel
def b_X12_carryAll_290 (u1 : Nat) (v3 : Int32) (S : St) : Option ((Int32 × St) ⊕ St) := (if (8 : Int32) ≤ v3 then some (.inr S) else gd (inb v3 8) ((L_X12_carry (gi S 147 v3.toNatClampNeg) S).bind fun r3 => gd (inb v3 8) (nm (si r3.2 147 v3.toNatClampNeg r3.1) fun S5 => gd (inb v3 8) ((L_X12_carry (gi S5 148 v3.toNatClampNeg) S5).bind fun r7 => gd (inb v3 8) (nm (si r7.2 148 v3.toNatClampNeg r7.1) fun S9 => gd (inb v3 8) ((L_X12_carry (gi S9 149 v3.toNatClampNeg) S9).bind fun r11 => gd (inb v3 8) (nm (si r11.2 149 v3.toNatClampNeg r11.1) fun S13 => gd (inb v3 8) ((L_X12_carry (gi S13 150 v3.toNatClampNeg) S13).bind fun r15 => gd (inb v3 8) (nm (si r15.2 150 v3.toNatClampNeg r15.1) fun S17 => gd (inb v3 8) ((L_X12_carry (gi S17 151 v3.toNatClampNeg) S17).bind fun r19 => gd (inb v3 8) (nm (si r19.2 151 v3.toNatClampNeg r19.1) fun S21 => gd (inb v3 8) ((L_X12_carry (gi S21 152 v3.toNatClampNeg) S21).bind fun r23 => gd (inb v3 8) (nm (si r23.2 152 v3.toNatClampNeg r23.1) fun S25 => some (.inl ((v3 + 1), S25)))))))))))))))
def l_X12_carryAll_290 (u1 : Nat) (x : (Int32 × St)) : Option ((Int32 × St) ⊕ St) := b_X12_carryAll_290 u1 x.1 x.2
def b_X12_carryAll_288 (u1 : Nat) (S : St) : Option St := (lp 1000 (l_X12_carryAll_290 u1) (0, S))
def b_X12_carryAll_197 (u1 : Nat) (v3 : Int32) (S : St) : Option ((Int32 × St) ⊕ St) := (if (4 : Int32) ≤ v3 then ((b_X12_carryAll_288 u1 S).map Sum.inr) else gd (inb v3 4) ((L_X12_carry (gi S 142 v3.toNatClampNeg) S).bind fun r3 => gd (inb v3 4) (nm (si r3.2 142 v3.toNatClampNeg r3.1) fun S5 => gd (inb v3 4) ((L_X12_carry (gi S5 143 v3.toNatClampNeg) S5).bind fun r7 => gd (inb v3 4) (nm (si r7.2 143 v3.toNatClampNeg r7.1) fun S9 => gd (inb v3 4) ((L_X12_carry (gi S9 144 v3.toNatClampNeg) S9).bind fun r11 => gd (inb v3 4) (nm (si r11.2 144 v3.toNatClampNeg r11.1) fun S13 => gd (inb v3 4) ((L_X12_carry (gi S13 145 v3.toNatClampNeg) S13).bind fun r15 => gd (inb v3 4) (nm (si r15.2 145 v3.toNatClampNeg r15.1) fun S17 => gd (inb v3 4) ((L_X12_carry (gi S17 146 v3.toNatClampNeg) S17).bind fun r19 => gd (inb v3 4) (nm (si r19.2 146 v3.toNatClampNeg r19.1) fun S21 => some (.inl ((v3 + 1), S21)))))))))))))
def l_X12_carryAll_197 (u1 : Nat) (x : (Int32 × St)) : Option ((Int32 × St) ⊕ St) := b_X12_carryAll_197 u1 x.1 x.2
def b_X12_carryAll_195 (u1 : Nat) (S : St) : Option St := (lp 1000 (l_X12_carryAll_197 u1) (0, S))
def b_X12_carryAll_119 (u1 : Nat) (v3 : Int32) (S : St) : Option ((Int32 × St) ⊕ St) := (if (6 : Int32) ≤ v3 then ((b_X12_carryAll_195 u1 S).map Sum.inr) else gd (inb v3 6) ((L_X12_carry (gi S 138 v3.toNatClampNeg) S).bind fun r3 => gd (inb v3 6) (nm (si r3.2 138 v3.toNatClampNeg r3.1) fun S5 => gd (inb v3 6) ((L_X12_carry (gi S5 139 v3.toNatClampNeg) S5).bind fun r7 => gd (inb v3 6) (nm (si r7.2 139 v3.toNatClampNeg r7.1) fun S9 => gd (inb v3 6) ((L_X12_carry (gi S9 140 v3.toNatClampNeg) S9).bind fun r11 => gd (inb v3 6) (nm (si r11.2 140 v3.toNatClampNeg r11.1) fun S13 => gd (inb v3 6) ((L_X12_carry (gi S13 141 v3.toNatClampNeg) S13).bind fun r15 => gd (inb v3 6) (nm (si r15.2 141 v3.toNatClampNeg r15.1) fun S17 => some (.inl ((v3 + 1), S17)))))))))))
def l_X12_carryAll_119 (u1 : Nat) (x : (Int32 × St)) : Option ((Int32 × St) ⊕ St) := b_X12_carryAll_119 u1 x.1 x.2
def b_X12_carryAll_117 (u1 : Nat) (S : St) : Option St := (lp 1000 (l_X12_carryAll_119 u1) (0, S))
def b_X12_carryAll_89 (u1 : Nat) (v3 : Int32) (S : St) : Option ((Int32 × St) ⊕ St) := (if (16 : Int32) ≤ v3 then ((b_X12_carryAll_117 u1 S).map Sum.inr) else gd (inb v3 16) ((L_X12_carry (gi S 137 v3.toNatClampNeg) S).bind fun r3 => gd (inb v3 16) (nm (si r3.2 137 v3.toNatClampNeg r3.1) fun S5 => some (.inl ((v3 + 1), S5)))))
def l_X12_carryAll_89 (u1 : Nat) (x : (Int32 × St)) : Option ((Int32 × St) ⊕ St) := b_X12_carryAll_89 u1 x.1 x.2
def b_X12_carryAll_0 (u1 : Nat) (v2 : Int32) (S : St) : Option St := nm (sr S 136 49 (some u1)) fun S1 => gd ((v2 : Int32) == 0 || (v2 : Int32) == 1) (nm (si S1 136 48 v2) fun S2 => nm (si S2 136 47 0) fun S4 => (L_X12_carry (gi S4 136 1) S4).bind fun r5 => nm (si r5.2 136 1 r5.1) fun S6 => (L_X12_carry (gi S6 136 6) S6).bind fun r7 => nm (si r7.2 136 6 r7.1) fun S8 => (L_X12_carry (gi S8 136 7) S8).bind fun r9 => nm (si r9.2 136 7 r9.1) fun S10 => (L_X12_carry (gi S10 136 8) S10).bind fun r11 => nm (si r11.2 136 8 r11.1) fun S12 => (L_X12_carry (gi S12 136 9) S12).bind fun r13 => nm (si r13.2 136 9 r13.1) fun S14 => (L_X12_carry (gi S14 136 15) S14).bind fun r15 => nm (si r15.2 136 15 r15.1) fun S16 => (lp 1000 (l_X12_carryAll_89 u1) (0, S16)))
def L_X12_carryAll (u1 : Nat) (a2 : Int32) (S : St) : Option St := b_X12_carryAll_0 u1 a2 S
def b_X12_open_0 (S : St) : Option St := (L_X12_carryAll 172 1 S).bind fun r1 => some r1
def L_X12_open (S : St) : Option St := b_X12_open_0 S
def b_X12_close_0 (S : St) : Option St := (L_X12_carryAll 172 0 S).bind fun r1 => nm (si r1 136 29 63) fun S2 => nm (si S2 136 30 0) fun S3 => some S3
def L_X12_close (S : St) : Option St := b_X12_close_0 S
def b_X12_image_0 (S : St) : Option (Int32 × St) := nm (si S 136 28 0) fun S1 => nm (si S1 136 46 1) fun S2 => (L_X12_carryAll 173 1 S2).bind fun r3 => some (gi r3 136 15, r3)
def L_X12_image (S : St) : Option (Int32 × St) := b_X12_image_0 S
def b_X12_restore_0 (S : St) : Option (Int32 × St) := nm (si S 136 28 0) fun S1 => (if (gi S1 136 46 : Int32) = 0 then some ((-3), S1) else (L_X12_carryAll 173 0 S1).bind fun r3 => some (gi r3 136 15, r3))
def L_X12_restore (S : St) : Option (Int32 × St) := b_X12_restore_0 S
def b_X12_here_0 (S : St) : Option Int32 := gd (inb (gi S 136 50) 8) ((if (gi S 157 (gi S 136 50).toNatClampNeg : Int32) ≤ (gi S 136 51) then some ((-999)) else gd (inb ((100 * (gi S 136 50)) + (gi S 136 51)) 800) (some ((gl S 158 ((100 * (gi S 136 50)) + (gi S 136 51)).toNatClampNeg).toInt32))))
def L_X12_here (S : St) : Option Int32 := b_X12_here_0 S
def b_X12_readDigits_83 (v1 : Int32) (v2 : Int32) (v3 : Int32) (s0 : Int32) (s1 : Int32) (S : St) : Option ((Int32 × Int32 × Int32 × St) ⊕ (Int32 × St)) := nm (si S 136 51 (s1 + s0)) fun S1 => some (.inl (v1, v2, (v3 + 1), S1))
def b_X12_readDigits_65 (v1 : Int32) (v3 : Int32) (s0 : Int32) (S : St) : Option ((Int32 × Int32 × Int32 × St) ⊕ (Int32 × St)) := (if (gi S 136 52 : Int32) = 0 then (b_X12_readDigits_83 v1 s0 v3 1 (gi S 136 51) S) else (b_X12_readDigits_83 v1 s0 v3 0 (gi S 136 51) S))
def b_X12_readDigits_39 (v1 : Int32) (v2 : Int32) (v3 : Int32) (s0 : Int32) (S : St) : Option ((Int32 × Int32 × Int32 × St) ⊕ (Int32 × St)) := gd ((s0 : Int32) == 0 || (s0 : Int32) == 1) (nm (si S 136 52 s0) fun S1 => (if (gi S1 136 52 : Int32) = 0 then (L_X12_here S1).bind fun r4 => (b_X12_readDigits_65 v1 v3 (((10 * v2) + r4) - 48) S1) else (b_X12_readDigits_65 v1 v3 0 S1)))
def b_X12_readDigits_34 (v1 : Int32) (v2 : Int32) (v3 : Int32) (S : St) : Option ((Int32 × Int32 × Int32 × St) ⊕ (Int32 × St)) := (b_X12_readDigits_39 v1 v2 v3 1 S)
def b_X12_readDigits_4 (v1 : Int32) (v2 : Int32) (v3 : Int32) (S : St) : Option ((Int32 × Int32 × Int32 × St) ⊕ (Int32 × St)) := (if (v1 : Int32) ≤ v3 then some (.inr (v2, S)) else (if (gi S 136 52 : Int32) = 0 then (L_X12_here S).bind fun r3 => (L_X12_in r3.toInt64 48 57 S).bind fun r4 => (if (r4 : Int32) = 0 then (b_X12_readDigits_34 v1 v2 v3 S) else (b_X12_readDigits_39 v1 v2 v3 0 S)) else (b_X12_readDigits_34 v1 v2 v3 S)))
def l_X12_readDigits_4 (x : (Int32 × Int32 × Int32 × St)) : Option ((Int32 × Int32 × Int32 × St) ⊕ (Int32 × St)) := b_X12_readDigits_4 x.1 x.2.1 x.2.2.1 x.2.2.2
def b_X12_readDigits_0 (v1 : Int32) (S : St) : Option (Int32 × St) := (lp 1000 (l_X12_readDigits_4) (v1, 0, 0, S))
def L_X12_readDigits (a1 : Int32) (S : St) : Option (Int32 × St) := b_X12_readDigits_0 a1 S
def b_X12_readSign_50 (v1 : Int32) (s0 : Int32) (s1 : Int32) (S : St) : Option (Int32 × St) := nm (si S 136 51 (s1 + s0)) fun S1 => (if (v1 : Int32) = 45 then some ((-1), S1) else some (1, S1))
def b_X12_readSign_30 (v1 : Int32) (s0 : Int32) (S : St) : Option (Int32 × St) := gd ((s0 : Int32) == 0 || (s0 : Int32) == 1) (nm (si S 136 52 s0) fun S1 => (if (gi S1 136 52 : Int32) = 0 then (b_X12_readSign_50 v1 1 (gi S1 136 51) S1) else (b_X12_readSign_50 v1 0 (gi S1 136 51) S1)))
def b_X12_readSign_25 (v1 : Int32) (S : St) : Option (Int32 × St) := (b_X12_readSign_30 v1 1 S)
def b_X12_readSign_29 (v1 : Int32) (S : St) : Option (Int32 × St) := (b_X12_readSign_30 v1 0 S)
def b_X12_readSign_0 (S : St) : Option (Int32 × St) := (L_X12_here S).bind fun r1 => (if (gi S 136 52 : Int32) = 0 then (if (r1 : Int32) = 43 then (b_X12_readSign_29 r1 S) else (if (r1 : Int32) = 45 then (b_X12_readSign_29 r1 S) else (b_X12_readSign_25 r1 S))) else (b_X12_readSign_25 r1 S))
def L_X12_readSign (S : St) : Option (Int32 × St) := b_X12_readSign_0 S
def b_X12_isLetter_42 (S : St) : Option Int32 := some 1
def b_X12_isLetter_0 (v0 : Int32) (S : St) : Option Int32 := (if (v0 : Int32) = 102 then (b_X12_isLetter_42 S) else (if (v0 : Int32) = 112 then (b_X12_isLetter_42 S) else (if (v0 : Int32) = 107 then (b_X12_isLetter_42 S) else (if (v0 : Int32) = 116 then (b_X12_isLetter_42 S) else (if (v0 : Int32) = 111 then (b_X12_isLetter_42 S) else (if (v0 : Int32) = 100 then (b_X12_isLetter_42 S) else (if (v0 : Int32) = 114 then (b_X12_isLetter_42 S) else some 0)))))))
def L_X12_isLetter (a0 : Int32) (S : St) : Option Int32 := b_X12_isLetter_0 a0 S
section WALKS
variable {p : Program} {e : Env} {s : State} {m : MethodId} {args : Array Value} {below : List Frame} {meth : Method} {c : Code} {D : va_G} {ct : Nat → ClassId} {B : Nat} {Hb : Heap}
set_option maxRecDepth 100000 in
set_option maxHeartbeats 4000000 in
theorem w_X12_carryAll_290 (l : Launch) {V : St} (C0 : XC D ct p s m args meth c cX12_carryAll 4 none RX12) (u1 : Nat) (hu1 : isKp u1) (n0 : Nat) (ih0 : ∀ (v3 : Int32) (S : St) (H : Heap) (locs : List Loc) (ls : Array Slot), (lp n0 (l_X12_carryAll_290 u1) (v3, S)).bind some = some V → MP D ct B Hb S H → va_S (AB B) s.heap H locs → lv_has ls 4 [(0, .ref (B + 136)), (3, .int v3)] → W p l e { frames := 1, cells := 0, slots := 0, locals := 21 } s m args below meth c H locs 0 0 (MQ below (qVw D ct B Hb V) args s 0 0 (AB B)) (F0 m 290 ls [])) (v3 : Int32) (S : St) {H : Heap} {locs : List Loc} {ls : Array Slot} (h : (b_X12_carryAll_290 u1 v3 S).bind (lpF n0 (l_X12_carryAll_290 u1) some) = some V) (hP : MP D ct B Hb S H) (hS : va_S (AB B) s.heap H locs) (hl : lv_has ls 4 [(0, .ref (B + 136)), (3, .int v3)]) : W p l e { frames := 1, cells := 0, slots := 0, locals := 21 } s m args below meth c H locs 0 0 (MQ below (qVw D ct B Hb V) args s 0 0 (AB B)) (F0 m 290 ls []) := by
  obtain ⟨hx, hb, hr, hml, hown, hts, hK, hlocks, hN⟩ := id C0
  unfold b_X12_carryAll_290 at h
  refine lv_iload_n hx hb dX12_carryAll_290 rfl (lv_at hl 1 rfl) ?_
  refine lv_bipush (v := 8) hx hb dX12_carryAll_291 (by decide) ?_
  refine lv_icmp_ge (tgt := 398) hx hb dX12_carryAll_293 (by decide) (fun z1 => ?_) (fun z1 => ?_)
  · have h := ob_t h z1
    exact r_Vw C0 hP hS h dX12_carryAll_398
  · have h := ob_f h z1
    refine lv_aload_n hx hb dX12_carryAll_296 rfl (lv_at hl 0 rfl) ?_
    refine x_get C0 hP (lay_X12 B ct S) rfl inG12 16 (by decide) wd_1157 (fun _ h => h) rfl dX12_carryAll_297 ?_
    refine lv_iload_n hx hb dX12_carryAll_300 rfl (lv_at hl 1 rfl) ?_
    refine lv_aload_n hx hb dX12_carryAll_301 rfl (lv_at hl 0 rfl) ?_
    refine lv_aload_n hx hb dX12_carryAll_302 rfl (lv_at hl 0 rfl) ?_
    refine x_get C0 hP (lay_X12 B ct S) rfl inG12 16 (by decide) wd_1157 (fun _ h => h) rfl dX12_carryAll_303 ?_
    refine lv_iload_n hx hb dX12_carryAll_306 rfl (lv_at hl 1 rfl) ?_
    obtain ⟨g2, h⟩ := ob_gd h
    refine x_iald C0 hP ((fun S => lay_147 B ct S) S) g2 dX12_carryAll_307 ?_
    obtain ⟨r3, hr3, h⟩ := ob_bd h
    refine n_Iw (kV (As := [.int (gi S 147 v3.toNatClampNeg)]) C0 (c_X12_carry l (gi S 147 v3.toNatClampNeg) hr3) ⟨wd_1354, wd_1351, wd_1353, wp_21, wd_6⟩ kd_X12_carry ⟨Nat.le_of_ble_eq_true rfl, Nat.le_of_ble_eq_true rfl⟩ hP (lay_X12 B ct S) rfl rfl hl.1 rfl (Nat.le_of_ble_eq_true rfl) dX12_carryAll_308 ⟨Nat.le_of_ble_eq_true rfl, Nat.le_of_ble_eq_true rfl⟩) hS (fun H locs hP hS => ?_)
    obtain ⟨g4, h⟩ := ob_gd h
    obtain ⟨S5, eS5, h⟩ := ob_nm h
    refine x_iast C0 hP hS (fun S => lay_147 B ct S) g4 dX12_carryAll_311 (fun H locs hP hS => ?_)
    rw [← eS5] at hP
    refine lv_aload_n hx hb dX12_carryAll_312 rfl (lv_at hl 0 rfl) ?_
    refine x_get C0 hP (lay_X12 B ct S5) rfl inG12 17 (by decide) wd_1158 (fun _ h => h) rfl dX12_carryAll_313 ?_
    refine lv_iload_n hx hb dX12_carryAll_316 rfl (lv_at hl 1 rfl) ?_
    refine lv_aload_n hx hb dX12_carryAll_317 rfl (lv_at hl 0 rfl) ?_
    refine lv_aload_n hx hb dX12_carryAll_318 rfl (lv_at hl 0 rfl) ?_
    refine x_get C0 hP (lay_X12 B ct S5) rfl inG12 17 (by decide) wd_1158 (fun _ h => h) rfl dX12_carryAll_319 ?_
    refine lv_iload_n hx hb dX12_carryAll_322 rfl (lv_at hl 1 rfl) ?_
    obtain ⟨g6, h⟩ := ob_gd h
    refine x_iald C0 hP ((fun S => lay_148 B ct S) S5) g6 dX12_carryAll_323 ?_
    obtain ⟨r7, hr7, h⟩ := ob_bd h
    refine n_Iw (kV (As := [.int (gi S5 148 v3.toNatClampNeg)]) C0 (c_X12_carry l (gi S5 148 v3.toNatClampNeg) hr7) ⟨wd_1354, wd_1351, wd_1353, wp_21, wd_6⟩ kd_X12_carry ⟨Nat.le_of_ble_eq_true rfl, Nat.le_of_ble_eq_true rfl⟩ hP (lay_X12 B ct S5) rfl rfl hl.1 rfl (Nat.le_of_ble_eq_true rfl) dX12_carryAll_324 ⟨Nat.le_of_ble_eq_true rfl, Nat.le_of_ble_eq_true rfl⟩) hS (fun H locs hP hS => ?_)
    obtain ⟨g8, h⟩ := ob_gd h
    obtain ⟨S9, eS9, h⟩ := ob_nm h
    refine x_iast C0 hP hS (fun S => lay_148 B ct S) g8 dX12_carryAll_327 (fun H locs hP hS => ?_)
    rw [← eS9] at hP
    refine lv_aload_n hx hb dX12_carryAll_328 rfl (lv_at hl 0 rfl) ?_
    refine x_get C0 hP (lay_X12 B ct S9) rfl inG12 18 (by decide) wd_1159 (fun _ h => h) rfl dX12_carryAll_329 ?_
    refine lv_iload_n hx hb dX12_carryAll_332 rfl (lv_at hl 1 rfl) ?_
    refine lv_aload_n hx hb dX12_carryAll_333 rfl (lv_at hl 0 rfl) ?_
    refine lv_aload_n hx hb dX12_carryAll_334 rfl (lv_at hl 0 rfl) ?_
    refine x_get C0 hP (lay_X12 B ct S9) rfl inG12 18 (by decide) wd_1159 (fun _ h => h) rfl dX12_carryAll_335 ?_
    refine lv_iload_n hx hb dX12_carryAll_338 rfl (lv_at hl 1 rfl) ?_
    obtain ⟨g10, h⟩ := ob_gd h
    refine x_iald C0 hP ((fun S => lay_149 B ct S) S9) g10 dX12_carryAll_339 ?_
    obtain ⟨r11, hr11, h⟩ := ob_bd h
    refine n_Iw (kV (As := [.int (gi S9 149 v3.toNatClampNeg)]) C0 (c_X12_carry l (gi S9 149 v3.toNatClampNeg) hr11) ⟨wd_1354, wd_1351, wd_1353, wp_21, wd_6⟩ kd_X12_carry ⟨Nat.le_of_ble_eq_true rfl, Nat.le_of_ble_eq_true rfl⟩ hP (lay_X12 B ct S9) rfl rfl hl.1 rfl (Nat.le_of_ble_eq_true rfl) dX12_carryAll_340 ⟨Nat.le_of_ble_eq_true rfl, Nat.le_of_ble_eq_true rfl⟩) hS (fun H locs hP hS => ?_)
    obtain ⟨g12, h⟩ := ob_gd h
    obtain ⟨S13, eS13, h⟩ := ob_nm h
    refine x_iast C0 hP hS (fun S => lay_149 B ct S) g12 dX12_carryAll_343 (fun H locs hP hS => ?_)
    rw [← eS13] at hP
    refine lv_aload_n hx hb dX12_carryAll_344 rfl (lv_at hl 0 rfl) ?_
    refine x_get C0 hP (lay_X12 B ct S13) rfl inG12 19 (by decide) wd_1160 (fun _ h => h) rfl dX12_carryAll_345 ?_
    refine lv_iload_n hx hb dX12_carryAll_348 rfl (lv_at hl 1 rfl) ?_
    refine lv_aload_n hx hb dX12_carryAll_349 rfl (lv_at hl 0 rfl) ?_
    refine lv_aload_n hx hb dX12_carryAll_350 rfl (lv_at hl 0 rfl) ?_
    refine x_get C0 hP (lay_X12 B ct S13) rfl inG12 19 (by decide) wd_1160 (fun _ h => h) rfl dX12_carryAll_351 ?_
    refine lv_iload_n hx hb dX12_carryAll_354 rfl (lv_at hl 1 rfl) ?_
    obtain ⟨g14, h⟩ := ob_gd h
    refine x_iald C0 hP ((fun S => lay_150 B ct S) S13) g14 dX12_carryAll_355 ?_
    obtain ⟨r15, hr15, h⟩ := ob_bd h
    refine n_Iw (kV (As := [.int (gi S13 150 v3.toNatClampNeg)]) C0 (c_X12_carry l (gi S13 150 v3.toNatClampNeg) hr15) ⟨wd_1354, wd_1351, wd_1353, wp_21, wd_6⟩ kd_X12_carry ⟨Nat.le_of_ble_eq_true rfl, Nat.le_of_ble_eq_true rfl⟩ hP (lay_X12 B ct S13) rfl rfl hl.1 rfl (Nat.le_of_ble_eq_true rfl) dX12_carryAll_356 ⟨Nat.le_of_ble_eq_true rfl, Nat.le_of_ble_eq_true rfl⟩) hS (fun H locs hP hS => ?_)
    obtain ⟨g16, h⟩ := ob_gd h
    obtain ⟨S17, eS17, h⟩ := ob_nm h
    refine x_iast C0 hP hS (fun S => lay_150 B ct S) g16 dX12_carryAll_359 (fun H locs hP hS => ?_)
    rw [← eS17] at hP
    refine lv_aload_n hx hb dX12_carryAll_360 rfl (lv_at hl 0 rfl) ?_
    refine x_get C0 hP (lay_X12 B ct S17) rfl inG12 20 (by decide) wd_1161 (fun _ h => h) rfl dX12_carryAll_361 ?_
    refine lv_iload_n hx hb dX12_carryAll_364 rfl (lv_at hl 1 rfl) ?_
    refine lv_aload_n hx hb dX12_carryAll_365 rfl (lv_at hl 0 rfl) ?_
    refine lv_aload_n hx hb dX12_carryAll_366 rfl (lv_at hl 0 rfl) ?_
    refine x_get C0 hP (lay_X12 B ct S17) rfl inG12 20 (by decide) wd_1161 (fun _ h => h) rfl dX12_carryAll_367 ?_
    refine lv_iload_n hx hb dX12_carryAll_370 rfl (lv_at hl 1 rfl) ?_
    obtain ⟨g18, h⟩ := ob_gd h
    refine x_iald C0 hP ((fun S => lay_151 B ct S) S17) g18 dX12_carryAll_371 ?_
    obtain ⟨r19, hr19, h⟩ := ob_bd h
    refine n_Iw (kV (As := [.int (gi S17 151 v3.toNatClampNeg)]) C0 (c_X12_carry l (gi S17 151 v3.toNatClampNeg) hr19) ⟨wd_1354, wd_1351, wd_1353, wp_21, wd_6⟩ kd_X12_carry ⟨Nat.le_of_ble_eq_true rfl, Nat.le_of_ble_eq_true rfl⟩ hP (lay_X12 B ct S17) rfl rfl hl.1 rfl (Nat.le_of_ble_eq_true rfl) dX12_carryAll_372 ⟨Nat.le_of_ble_eq_true rfl, Nat.le_of_ble_eq_true rfl⟩) hS (fun H locs hP hS => ?_)
    obtain ⟨g20, h⟩ := ob_gd h
    obtain ⟨S21, eS21, h⟩ := ob_nm h
    refine x_iast C0 hP hS (fun S => lay_151 B ct S) g20 dX12_carryAll_375 (fun H locs hP hS => ?_)
    rw [← eS21] at hP
    refine lv_aload_n hx hb dX12_carryAll_376 rfl (lv_at hl 0 rfl) ?_
    refine x_get C0 hP (lay_X12 B ct S21) rfl inG12 21 (by decide) wd_1162 (fun _ h => h) rfl dX12_carryAll_377 ?_
    refine lv_iload_n hx hb dX12_carryAll_380 rfl (lv_at hl 1 rfl) ?_
    refine lv_aload_n hx hb dX12_carryAll_381 rfl (lv_at hl 0 rfl) ?_
    refine lv_aload_n hx hb dX12_carryAll_382 rfl (lv_at hl 0 rfl) ?_
    refine x_get C0 hP (lay_X12 B ct S21) rfl inG12 21 (by decide) wd_1162 (fun _ h => h) rfl dX12_carryAll_383 ?_
    refine lv_iload_n hx hb dX12_carryAll_386 rfl (lv_at hl 1 rfl) ?_
    obtain ⟨g22, h⟩ := ob_gd h
    refine x_iald C0 hP ((fun S => lay_152 B ct S) S21) g22 dX12_carryAll_387 ?_
    obtain ⟨r23, hr23, h⟩ := ob_bd h
    refine n_Iw (kV (As := [.int (gi S21 152 v3.toNatClampNeg)]) C0 (c_X12_carry l (gi S21 152 v3.toNatClampNeg) hr23) ⟨wd_1354, wd_1351, wd_1353, wp_21, wd_6⟩ kd_X12_carry ⟨Nat.le_of_ble_eq_true rfl, Nat.le_of_ble_eq_true rfl⟩ hP (lay_X12 B ct S21) rfl rfl hl.1 rfl (Nat.le_of_ble_eq_true rfl) dX12_carryAll_388 ⟨Nat.le_of_ble_eq_true rfl, Nat.le_of_ble_eq_true rfl⟩) hS (fun H locs hP hS => ?_)
    obtain ⟨g24, h⟩ := ob_gd h
    obtain ⟨S25, eS25, h⟩ := ob_nm h
    refine x_iast C0 hP hS (fun S => lay_152 B ct S) g24 dX12_carryAll_391 (fun H locs hP hS => ?_)
    rw [← eS25] at hP
    refine lv_iinc (v := v3 + 1) (lv' := [(3, .int (v3 + 1)), (0, .ref (B + 136))]) hx hb dX12_carryAll_392 hl (k := 1) rfl rfl (by decide) rfl (fun ls hl => ?_)
    refine lv_goto (tgt := 290) hx hb dX12_carryAll_395 (by decide) ?_
    exact ih0 (v3 + 1) S25 _ _ _ h hP hS (lv_sub hl [1, 0] rfl)
set_option maxRecDepth 100000 in
set_option maxHeartbeats 4000000 in
theorem wl_X12_carryAll_290 (l : Launch) {V : St} (C0 : XC D ct p s m args meth c cX12_carryAll 4 none RX12) (u1 : Nat) (hu1 : isKp u1)  : ∀ (n0 : Nat) (v3 : Int32) (S : St) {H : Heap} {locs : List Loc} {ls : Array Slot}, (lp n0 (l_X12_carryAll_290 u1) (v3, S)).bind some = some V → MP D ct B Hb S H → va_S (AB B) s.heap H locs → lv_has ls 4 [(0, .ref (B + 136)), (3, .int v3)] → W p l e { frames := 1, cells := 0, slots := 0, locals := 21 } s m args below meth c H locs 0 0 (MQ below (qVw D ct B Hb V) args s 0 0 (AB B)) (F0 m 290 ls []) := by
  intro n0
  induction n0 with
  | zero =>
    intro v3 S H locs ls h hP hS hl
    exact (lp_0 h).elim
  | succ n0 ih0 =>
    intro v3 S H locs ls h hP hS hl
    have h := lp_s h
    exact w_X12_carryAll_290 l C0 u1 hu1 n0 (fun v3 S H locs ls h hP hS hl => ih0 v3 S h hP hS hl) v3 S h hP hS hl
set_option maxRecDepth 100000 in
set_option maxHeartbeats 4000000 in
theorem w_X12_carryAll_288 (l : Launch) {V : St} (C0 : XC D ct p s m args meth c cX12_carryAll 4 none RX12) (u1 : Nat) (hu1 : isKp u1) (S : St) {H : Heap} {locs : List Loc} {ls : Array Slot} (h : (b_X12_carryAll_288 u1 S).bind some = some V) (hP : MP D ct B Hb S H) (hS : va_S (AB B) s.heap H locs) (hl : lv_has ls 4 [(0, .ref (B + 136))]) : W p l e { frames := 1, cells := 0, slots := 0, locals := 21 } s m args below meth c H locs 0 0 (MQ below (qVw D ct B Hb V) args s 0 0 (AB B)) (F0 m 288 ls []) := by
  obtain ⟨hx, hb, hr, hml, hown, hts, hK, hlocks, hN⟩ := id C0
  unfold b_X12_carryAll_288 at h
  refine lv_iconst (v := 0) hx hb dX12_carryAll_288 (by decide) ?_
  refine lv_istore_n (lv' := [(3, .int 0), (0, .ref (B + 136))]) hx hb dX12_carryAll_289 rfl hl (by decide) rfl (fun ls hl => ?_)
  exact wl_X12_carryAll_290 l C0 u1 hu1 1000 0 S h hP hS (lv_sub hl [1, 0] rfl)
set_option maxRecDepth 100000 in
set_option maxHeartbeats 4000000 in
theorem w_X12_carryAll_197 (l : Launch) {V : St} (C0 : XC D ct p s m args meth c cX12_carryAll 4 none RX12) (u1 : Nat) (hu1 : isKp u1) (n0 : Nat) (ih0 : ∀ (v3 : Int32) (S : St) (H : Heap) (locs : List Loc) (ls : Array Slot), (lp n0 (l_X12_carryAll_197 u1) (v3, S)).bind some = some V → MP D ct B Hb S H → va_S (AB B) s.heap H locs → lv_has ls 4 [(0, .ref (B + 136)), (3, .int v3)] → W p l e { frames := 1, cells := 0, slots := 0, locals := 21 } s m args below meth c H locs 0 0 (MQ below (qVw D ct B Hb V) args s 0 0 (AB B)) (F0 m 197 ls [])) (v3 : Int32) (S : St) {H : Heap} {locs : List Loc} {ls : Array Slot} (h : (b_X12_carryAll_197 u1 v3 S).bind (lpF n0 (l_X12_carryAll_197 u1) some) = some V) (hP : MP D ct B Hb S H) (hS : va_S (AB B) s.heap H locs) (hl : lv_has ls 4 [(0, .ref (B + 136)), (3, .int v3)]) : W p l e { frames := 1, cells := 0, slots := 0, locals := 21 } s m args below meth c H locs 0 0 (MQ below (qVw D ct B Hb V) args s 0 0 (AB B)) (F0 m 197 ls []) := by
  obtain ⟨hx, hb, hr, hml, hown, hts, hK, hlocks, hN⟩ := id C0
  unfold b_X12_carryAll_197 at h
  refine lv_iload_n hx hb dX12_carryAll_197 rfl (lv_at hl 1 rfl) ?_
  refine lv_iconst (v := 4) hx hb dX12_carryAll_198 (by decide) ?_
  refine lv_icmp_ge (tgt := 288) hx hb dX12_carryAll_199 (by decide) (fun z1 => ?_) (fun z1 => ?_)
  · have h := ob_t h z1
    have h := ob_mp h
    exact w_X12_carryAll_288 l C0 u1 hu1 S h hP hS (lv_sub hl [0] rfl)
  · have h := ob_f h z1
    refine lv_aload_n hx hb dX12_carryAll_202 rfl (lv_at hl 0 rfl) ?_
    refine x_get C0 hP (lay_X12 B ct S) rfl inG12 10 (by decide) wd_1151 (fun _ h => h) rfl dX12_carryAll_203 ?_
    refine lv_iload_n hx hb dX12_carryAll_206 rfl (lv_at hl 1 rfl) ?_
    refine lv_aload_n hx hb dX12_carryAll_207 rfl (lv_at hl 0 rfl) ?_
    refine lv_aload_n hx hb dX12_carryAll_208 rfl (lv_at hl 0 rfl) ?_
    refine x_get C0 hP (lay_X12 B ct S) rfl inG12 10 (by decide) wd_1151 (fun _ h => h) rfl dX12_carryAll_209 ?_
    refine lv_iload_n hx hb dX12_carryAll_212 rfl (lv_at hl 1 rfl) ?_
    obtain ⟨g2, h⟩ := ob_gd h
    refine x_iald C0 hP ((fun S => lay_142 B ct S) S) g2 dX12_carryAll_213 ?_
    obtain ⟨r3, hr3, h⟩ := ob_bd h
    refine n_Iw (kV (As := [.int (gi S 142 v3.toNatClampNeg)]) C0 (c_X12_carry l (gi S 142 v3.toNatClampNeg) hr3) ⟨wd_1354, wd_1351, wd_1353, wp_21, wd_6⟩ kd_X12_carry ⟨Nat.le_of_ble_eq_true rfl, Nat.le_of_ble_eq_true rfl⟩ hP (lay_X12 B ct S) rfl rfl hl.1 rfl (Nat.le_of_ble_eq_true rfl) dX12_carryAll_214 ⟨Nat.le_of_ble_eq_true rfl, Nat.le_of_ble_eq_true rfl⟩) hS (fun H locs hP hS => ?_)
    obtain ⟨g4, h⟩ := ob_gd h
    obtain ⟨S5, eS5, h⟩ := ob_nm h
    refine x_iast C0 hP hS (fun S => lay_142 B ct S) g4 dX12_carryAll_217 (fun H locs hP hS => ?_)
    rw [← eS5] at hP
    refine lv_aload_n hx hb dX12_carryAll_218 rfl (lv_at hl 0 rfl) ?_
    refine x_get C0 hP (lay_X12 B ct S5) rfl inG12 11 (by decide) wd_1152 (fun _ h => h) rfl dX12_carryAll_219 ?_
    refine lv_iload_n hx hb dX12_carryAll_222 rfl (lv_at hl 1 rfl) ?_
    refine lv_aload_n hx hb dX12_carryAll_223 rfl (lv_at hl 0 rfl) ?_
    refine lv_aload_n hx hb dX12_carryAll_224 rfl (lv_at hl 0 rfl) ?_
    refine x_get C0 hP (lay_X12 B ct S5) rfl inG12 11 (by decide) wd_1152 (fun _ h => h) rfl dX12_carryAll_225 ?_
    refine lv_iload_n hx hb dX12_carryAll_228 rfl (lv_at hl 1 rfl) ?_
    obtain ⟨g6, h⟩ := ob_gd h
    refine x_iald C0 hP ((fun S => lay_143 B ct S) S5) g6 dX12_carryAll_229 ?_
    obtain ⟨r7, hr7, h⟩ := ob_bd h
    refine n_Iw (kV (As := [.int (gi S5 143 v3.toNatClampNeg)]) C0 (c_X12_carry l (gi S5 143 v3.toNatClampNeg) hr7) ⟨wd_1354, wd_1351, wd_1353, wp_21, wd_6⟩ kd_X12_carry ⟨Nat.le_of_ble_eq_true rfl, Nat.le_of_ble_eq_true rfl⟩ hP (lay_X12 B ct S5) rfl rfl hl.1 rfl (Nat.le_of_ble_eq_true rfl) dX12_carryAll_230 ⟨Nat.le_of_ble_eq_true rfl, Nat.le_of_ble_eq_true rfl⟩) hS (fun H locs hP hS => ?_)
    obtain ⟨g8, h⟩ := ob_gd h
    obtain ⟨S9, eS9, h⟩ := ob_nm h
    refine x_iast C0 hP hS (fun S => lay_143 B ct S) g8 dX12_carryAll_233 (fun H locs hP hS => ?_)
    rw [← eS9] at hP
    refine lv_aload_n hx hb dX12_carryAll_234 rfl (lv_at hl 0 rfl) ?_
    refine x_get C0 hP (lay_X12 B ct S9) rfl inG12 12 (by decide) wd_1153 (fun _ h => h) rfl dX12_carryAll_235 ?_
    refine lv_iload_n hx hb dX12_carryAll_238 rfl (lv_at hl 1 rfl) ?_
    refine lv_aload_n hx hb dX12_carryAll_239 rfl (lv_at hl 0 rfl) ?_
    refine lv_aload_n hx hb dX12_carryAll_240 rfl (lv_at hl 0 rfl) ?_
    refine x_get C0 hP (lay_X12 B ct S9) rfl inG12 12 (by decide) wd_1153 (fun _ h => h) rfl dX12_carryAll_241 ?_
    refine lv_iload_n hx hb dX12_carryAll_244 rfl (lv_at hl 1 rfl) ?_
    obtain ⟨g10, h⟩ := ob_gd h
    refine x_iald C0 hP ((fun S => lay_144 B ct S) S9) g10 dX12_carryAll_245 ?_
    obtain ⟨r11, hr11, h⟩ := ob_bd h
    refine n_Iw (kV (As := [.int (gi S9 144 v3.toNatClampNeg)]) C0 (c_X12_carry l (gi S9 144 v3.toNatClampNeg) hr11) ⟨wd_1354, wd_1351, wd_1353, wp_21, wd_6⟩ kd_X12_carry ⟨Nat.le_of_ble_eq_true rfl, Nat.le_of_ble_eq_true rfl⟩ hP (lay_X12 B ct S9) rfl rfl hl.1 rfl (Nat.le_of_ble_eq_true rfl) dX12_carryAll_246 ⟨Nat.le_of_ble_eq_true rfl, Nat.le_of_ble_eq_true rfl⟩) hS (fun H locs hP hS => ?_)
    obtain ⟨g12, h⟩ := ob_gd h
    obtain ⟨S13, eS13, h⟩ := ob_nm h
    refine x_iast C0 hP hS (fun S => lay_144 B ct S) g12 dX12_carryAll_249 (fun H locs hP hS => ?_)
    rw [← eS13] at hP
    refine lv_aload_n hx hb dX12_carryAll_250 rfl (lv_at hl 0 rfl) ?_
    refine x_get C0 hP (lay_X12 B ct S13) rfl inG12 13 (by decide) wd_1154 (fun _ h => h) rfl dX12_carryAll_251 ?_
    refine lv_iload_n hx hb dX12_carryAll_254 rfl (lv_at hl 1 rfl) ?_
    refine lv_aload_n hx hb dX12_carryAll_255 rfl (lv_at hl 0 rfl) ?_
    refine lv_aload_n hx hb dX12_carryAll_256 rfl (lv_at hl 0 rfl) ?_
    refine x_get C0 hP (lay_X12 B ct S13) rfl inG12 13 (by decide) wd_1154 (fun _ h => h) rfl dX12_carryAll_257 ?_
    refine lv_iload_n hx hb dX12_carryAll_260 rfl (lv_at hl 1 rfl) ?_
    obtain ⟨g14, h⟩ := ob_gd h
    refine x_iald C0 hP ((fun S => lay_145 B ct S) S13) g14 dX12_carryAll_261 ?_
    obtain ⟨r15, hr15, h⟩ := ob_bd h
    refine n_Iw (kV (As := [.int (gi S13 145 v3.toNatClampNeg)]) C0 (c_X12_carry l (gi S13 145 v3.toNatClampNeg) hr15) ⟨wd_1354, wd_1351, wd_1353, wp_21, wd_6⟩ kd_X12_carry ⟨Nat.le_of_ble_eq_true rfl, Nat.le_of_ble_eq_true rfl⟩ hP (lay_X12 B ct S13) rfl rfl hl.1 rfl (Nat.le_of_ble_eq_true rfl) dX12_carryAll_262 ⟨Nat.le_of_ble_eq_true rfl, Nat.le_of_ble_eq_true rfl⟩) hS (fun H locs hP hS => ?_)
    obtain ⟨g16, h⟩ := ob_gd h
    obtain ⟨S17, eS17, h⟩ := ob_nm h
    refine x_iast C0 hP hS (fun S => lay_145 B ct S) g16 dX12_carryAll_265 (fun H locs hP hS => ?_)
    rw [← eS17] at hP
    refine lv_aload_n hx hb dX12_carryAll_266 rfl (lv_at hl 0 rfl) ?_
    refine x_get C0 hP (lay_X12 B ct S17) rfl inG12 14 (by decide) wd_1155 (fun _ h => h) rfl dX12_carryAll_267 ?_
    refine lv_iload_n hx hb dX12_carryAll_270 rfl (lv_at hl 1 rfl) ?_
    refine lv_aload_n hx hb dX12_carryAll_271 rfl (lv_at hl 0 rfl) ?_
    refine lv_aload_n hx hb dX12_carryAll_272 rfl (lv_at hl 0 rfl) ?_
    refine x_get C0 hP (lay_X12 B ct S17) rfl inG12 14 (by decide) wd_1155 (fun _ h => h) rfl dX12_carryAll_273 ?_
    refine lv_iload_n hx hb dX12_carryAll_276 rfl (lv_at hl 1 rfl) ?_
    obtain ⟨g18, h⟩ := ob_gd h
    refine x_iald C0 hP ((fun S => lay_146 B ct S) S17) g18 dX12_carryAll_277 ?_
    obtain ⟨r19, hr19, h⟩ := ob_bd h
    refine n_Iw (kV (As := [.int (gi S17 146 v3.toNatClampNeg)]) C0 (c_X12_carry l (gi S17 146 v3.toNatClampNeg) hr19) ⟨wd_1354, wd_1351, wd_1353, wp_21, wd_6⟩ kd_X12_carry ⟨Nat.le_of_ble_eq_true rfl, Nat.le_of_ble_eq_true rfl⟩ hP (lay_X12 B ct S17) rfl rfl hl.1 rfl (Nat.le_of_ble_eq_true rfl) dX12_carryAll_278 ⟨Nat.le_of_ble_eq_true rfl, Nat.le_of_ble_eq_true rfl⟩) hS (fun H locs hP hS => ?_)
    obtain ⟨g20, h⟩ := ob_gd h
    obtain ⟨S21, eS21, h⟩ := ob_nm h
    refine x_iast C0 hP hS (fun S => lay_146 B ct S) g20 dX12_carryAll_281 (fun H locs hP hS => ?_)
    rw [← eS21] at hP
    refine lv_iinc (v := v3 + 1) (lv' := [(3, .int (v3 + 1)), (0, .ref (B + 136))]) hx hb dX12_carryAll_282 hl (k := 1) rfl rfl (by decide) rfl (fun ls hl => ?_)
    refine lv_goto (tgt := 197) hx hb dX12_carryAll_285 (by decide) ?_
    exact ih0 (v3 + 1) S21 _ _ _ h hP hS (lv_sub hl [1, 0] rfl)
set_option maxRecDepth 100000 in
set_option maxHeartbeats 4000000 in
theorem wl_X12_carryAll_197 (l : Launch) {V : St} (C0 : XC D ct p s m args meth c cX12_carryAll 4 none RX12) (u1 : Nat) (hu1 : isKp u1)  : ∀ (n0 : Nat) (v3 : Int32) (S : St) {H : Heap} {locs : List Loc} {ls : Array Slot}, (lp n0 (l_X12_carryAll_197 u1) (v3, S)).bind some = some V → MP D ct B Hb S H → va_S (AB B) s.heap H locs → lv_has ls 4 [(0, .ref (B + 136)), (3, .int v3)] → W p l e { frames := 1, cells := 0, slots := 0, locals := 21 } s m args below meth c H locs 0 0 (MQ below (qVw D ct B Hb V) args s 0 0 (AB B)) (F0 m 197 ls []) := by
  intro n0
  induction n0 with
  | zero =>
    intro v3 S H locs ls h hP hS hl
    exact (lp_0 h).elim
  | succ n0 ih0 =>
    intro v3 S H locs ls h hP hS hl
    have h := lp_s h
    exact w_X12_carryAll_197 l C0 u1 hu1 n0 (fun v3 S H locs ls h hP hS hl => ih0 v3 S h hP hS hl) v3 S h hP hS hl
set_option maxRecDepth 100000 in
set_option maxHeartbeats 4000000 in
theorem w_X12_carryAll_195 (l : Launch) {V : St} (C0 : XC D ct p s m args meth c cX12_carryAll 4 none RX12) (u1 : Nat) (hu1 : isKp u1) (S : St) {H : Heap} {locs : List Loc} {ls : Array Slot} (h : (b_X12_carryAll_195 u1 S).bind some = some V) (hP : MP D ct B Hb S H) (hS : va_S (AB B) s.heap H locs) (hl : lv_has ls 4 [(0, .ref (B + 136))]) : W p l e { frames := 1, cells := 0, slots := 0, locals := 21 } s m args below meth c H locs 0 0 (MQ below (qVw D ct B Hb V) args s 0 0 (AB B)) (F0 m 195 ls []) := by
  obtain ⟨hx, hb, hr, hml, hown, hts, hK, hlocks, hN⟩ := id C0
  unfold b_X12_carryAll_195 at h
  refine lv_iconst (v := 0) hx hb dX12_carryAll_195 (by decide) ?_
  refine lv_istore_n (lv' := [(3, .int 0), (0, .ref (B + 136))]) hx hb dX12_carryAll_196 rfl hl (by decide) rfl (fun ls hl => ?_)
  exact wl_X12_carryAll_197 l C0 u1 hu1 1000 0 S h hP hS (lv_sub hl [1, 0] rfl)
set_option maxRecDepth 100000 in
set_option maxHeartbeats 4000000 in
theorem w_X12_carryAll_119 (l : Launch) {V : St} (C0 : XC D ct p s m args meth c cX12_carryAll 4 none RX12) (u1 : Nat) (hu1 : isKp u1) (n0 : Nat) (ih0 : ∀ (v3 : Int32) (S : St) (H : Heap) (locs : List Loc) (ls : Array Slot), (lp n0 (l_X12_carryAll_119 u1) (v3, S)).bind some = some V → MP D ct B Hb S H → va_S (AB B) s.heap H locs → lv_has ls 4 [(0, .ref (B + 136)), (3, .int v3)] → W p l e { frames := 1, cells := 0, slots := 0, locals := 21 } s m args below meth c H locs 0 0 (MQ below (qVw D ct B Hb V) args s 0 0 (AB B)) (F0 m 119 ls [])) (v3 : Int32) (S : St) {H : Heap} {locs : List Loc} {ls : Array Slot} (h : (b_X12_carryAll_119 u1 v3 S).bind (lpF n0 (l_X12_carryAll_119 u1) some) = some V) (hP : MP D ct B Hb S H) (hS : va_S (AB B) s.heap H locs) (hl : lv_has ls 4 [(0, .ref (B + 136)), (3, .int v3)]) : W p l e { frames := 1, cells := 0, slots := 0, locals := 21 } s m args below meth c H locs 0 0 (MQ below (qVw D ct B Hb V) args s 0 0 (AB B)) (F0 m 119 ls []) := by
  obtain ⟨hx, hb, hr, hml, hown, hts, hK, hlocks, hN⟩ := id C0
  unfold b_X12_carryAll_119 at h
  refine lv_iload_n hx hb dX12_carryAll_119 rfl (lv_at hl 1 rfl) ?_
  refine lv_bipush (v := 6) hx hb dX12_carryAll_120 (by decide) ?_
  refine lv_icmp_ge (tgt := 195) hx hb dX12_carryAll_122 (by decide) (fun z1 => ?_) (fun z1 => ?_)
  · have h := ob_t h z1
    have h := ob_mp h
    exact w_X12_carryAll_195 l C0 u1 hu1 S h hP hS (lv_sub hl [0] rfl)
  · have h := ob_f h z1
    refine lv_aload_n hx hb dX12_carryAll_125 rfl (lv_at hl 0 rfl) ?_
    refine x_get C0 hP (lay_X12 B ct S) rfl inG12 2 (by decide) wd_1143 (fun _ h => h) rfl dX12_carryAll_126 ?_
    refine lv_iload_n hx hb dX12_carryAll_129 rfl (lv_at hl 1 rfl) ?_
    refine lv_aload_n hx hb dX12_carryAll_130 rfl (lv_at hl 0 rfl) ?_
    refine lv_aload_n hx hb dX12_carryAll_131 rfl (lv_at hl 0 rfl) ?_
    refine x_get C0 hP (lay_X12 B ct S) rfl inG12 2 (by decide) wd_1143 (fun _ h => h) rfl dX12_carryAll_132 ?_
    refine lv_iload_n hx hb dX12_carryAll_135 rfl (lv_at hl 1 rfl) ?_
    obtain ⟨g2, h⟩ := ob_gd h
    refine x_iald C0 hP ((fun S => lay_138 B ct S) S) g2 dX12_carryAll_136 ?_
    obtain ⟨r3, hr3, h⟩ := ob_bd h
    refine n_Iw (kV (As := [.int (gi S 138 v3.toNatClampNeg)]) C0 (c_X12_carry l (gi S 138 v3.toNatClampNeg) hr3) ⟨wd_1354, wd_1351, wd_1353, wp_21, wd_6⟩ kd_X12_carry ⟨Nat.le_of_ble_eq_true rfl, Nat.le_of_ble_eq_true rfl⟩ hP (lay_X12 B ct S) rfl rfl hl.1 rfl (Nat.le_of_ble_eq_true rfl) dX12_carryAll_137 ⟨Nat.le_of_ble_eq_true rfl, Nat.le_of_ble_eq_true rfl⟩) hS (fun H locs hP hS => ?_)
    obtain ⟨g4, h⟩ := ob_gd h
    obtain ⟨S5, eS5, h⟩ := ob_nm h
    refine x_iast C0 hP hS (fun S => lay_138 B ct S) g4 dX12_carryAll_140 (fun H locs hP hS => ?_)
    rw [← eS5] at hP
    refine lv_aload_n hx hb dX12_carryAll_141 rfl (lv_at hl 0 rfl) ?_
    refine x_get C0 hP (lay_X12 B ct S5) rfl inG12 3 (by decide) wd_1144 (fun _ h => h) rfl dX12_carryAll_142 ?_
    refine lv_iload_n hx hb dX12_carryAll_145 rfl (lv_at hl 1 rfl) ?_
    refine lv_aload_n hx hb dX12_carryAll_146 rfl (lv_at hl 0 rfl) ?_
    refine lv_aload_n hx hb dX12_carryAll_147 rfl (lv_at hl 0 rfl) ?_
    refine x_get C0 hP (lay_X12 B ct S5) rfl inG12 3 (by decide) wd_1144 (fun _ h => h) rfl dX12_carryAll_148 ?_
    refine lv_iload_n hx hb dX12_carryAll_151 rfl (lv_at hl 1 rfl) ?_
    obtain ⟨g6, h⟩ := ob_gd h
    refine x_iald C0 hP ((fun S => lay_139 B ct S) S5) g6 dX12_carryAll_152 ?_
    obtain ⟨r7, hr7, h⟩ := ob_bd h
    refine n_Iw (kV (As := [.int (gi S5 139 v3.toNatClampNeg)]) C0 (c_X12_carry l (gi S5 139 v3.toNatClampNeg) hr7) ⟨wd_1354, wd_1351, wd_1353, wp_21, wd_6⟩ kd_X12_carry ⟨Nat.le_of_ble_eq_true rfl, Nat.le_of_ble_eq_true rfl⟩ hP (lay_X12 B ct S5) rfl rfl hl.1 rfl (Nat.le_of_ble_eq_true rfl) dX12_carryAll_153 ⟨Nat.le_of_ble_eq_true rfl, Nat.le_of_ble_eq_true rfl⟩) hS (fun H locs hP hS => ?_)
    obtain ⟨g8, h⟩ := ob_gd h
    obtain ⟨S9, eS9, h⟩ := ob_nm h
    refine x_iast C0 hP hS (fun S => lay_139 B ct S) g8 dX12_carryAll_156 (fun H locs hP hS => ?_)
    rw [← eS9] at hP
    refine lv_aload_n hx hb dX12_carryAll_157 rfl (lv_at hl 0 rfl) ?_
    refine x_get C0 hP (lay_X12 B ct S9) rfl inG12 4 (by decide) wd_1145 (fun _ h => h) rfl dX12_carryAll_158 ?_
    refine lv_iload_n hx hb dX12_carryAll_161 rfl (lv_at hl 1 rfl) ?_
    refine lv_aload_n hx hb dX12_carryAll_162 rfl (lv_at hl 0 rfl) ?_
    refine lv_aload_n hx hb dX12_carryAll_163 rfl (lv_at hl 0 rfl) ?_
    refine x_get C0 hP (lay_X12 B ct S9) rfl inG12 4 (by decide) wd_1145 (fun _ h => h) rfl dX12_carryAll_164 ?_
    refine lv_iload_n hx hb dX12_carryAll_167 rfl (lv_at hl 1 rfl) ?_
    obtain ⟨g10, h⟩ := ob_gd h
    refine x_iald C0 hP ((fun S => lay_140 B ct S) S9) g10 dX12_carryAll_168 ?_
    obtain ⟨r11, hr11, h⟩ := ob_bd h
    refine n_Iw (kV (As := [.int (gi S9 140 v3.toNatClampNeg)]) C0 (c_X12_carry l (gi S9 140 v3.toNatClampNeg) hr11) ⟨wd_1354, wd_1351, wd_1353, wp_21, wd_6⟩ kd_X12_carry ⟨Nat.le_of_ble_eq_true rfl, Nat.le_of_ble_eq_true rfl⟩ hP (lay_X12 B ct S9) rfl rfl hl.1 rfl (Nat.le_of_ble_eq_true rfl) dX12_carryAll_169 ⟨Nat.le_of_ble_eq_true rfl, Nat.le_of_ble_eq_true rfl⟩) hS (fun H locs hP hS => ?_)
    obtain ⟨g12, h⟩ := ob_gd h
    obtain ⟨S13, eS13, h⟩ := ob_nm h
    refine x_iast C0 hP hS (fun S => lay_140 B ct S) g12 dX12_carryAll_172 (fun H locs hP hS => ?_)
    rw [← eS13] at hP
    refine lv_aload_n hx hb dX12_carryAll_173 rfl (lv_at hl 0 rfl) ?_
    refine x_get C0 hP (lay_X12 B ct S13) rfl inG12 5 (by decide) wd_1146 (fun _ h => h) rfl dX12_carryAll_174 ?_
    refine lv_iload_n hx hb dX12_carryAll_177 rfl (lv_at hl 1 rfl) ?_
    refine lv_aload_n hx hb dX12_carryAll_178 rfl (lv_at hl 0 rfl) ?_
    refine lv_aload_n hx hb dX12_carryAll_179 rfl (lv_at hl 0 rfl) ?_
    refine x_get C0 hP (lay_X12 B ct S13) rfl inG12 5 (by decide) wd_1146 (fun _ h => h) rfl dX12_carryAll_180 ?_
    refine lv_iload_n hx hb dX12_carryAll_183 rfl (lv_at hl 1 rfl) ?_
    obtain ⟨g14, h⟩ := ob_gd h
    refine x_iald C0 hP ((fun S => lay_141 B ct S) S13) g14 dX12_carryAll_184 ?_
    obtain ⟨r15, hr15, h⟩ := ob_bd h
    refine n_Iw (kV (As := [.int (gi S13 141 v3.toNatClampNeg)]) C0 (c_X12_carry l (gi S13 141 v3.toNatClampNeg) hr15) ⟨wd_1354, wd_1351, wd_1353, wp_21, wd_6⟩ kd_X12_carry ⟨Nat.le_of_ble_eq_true rfl, Nat.le_of_ble_eq_true rfl⟩ hP (lay_X12 B ct S13) rfl rfl hl.1 rfl (Nat.le_of_ble_eq_true rfl) dX12_carryAll_185 ⟨Nat.le_of_ble_eq_true rfl, Nat.le_of_ble_eq_true rfl⟩) hS (fun H locs hP hS => ?_)
    obtain ⟨g16, h⟩ := ob_gd h
    obtain ⟨S17, eS17, h⟩ := ob_nm h
    refine x_iast C0 hP hS (fun S => lay_141 B ct S) g16 dX12_carryAll_188 (fun H locs hP hS => ?_)
    rw [← eS17] at hP
    refine lv_iinc (v := v3 + 1) (lv' := [(3, .int (v3 + 1)), (0, .ref (B + 136))]) hx hb dX12_carryAll_189 hl (k := 1) rfl rfl (by decide) rfl (fun ls hl => ?_)
    refine lv_goto (tgt := 119) hx hb dX12_carryAll_192 (by decide) ?_
    exact ih0 (v3 + 1) S17 _ _ _ h hP hS (lv_sub hl [1, 0] rfl)
set_option maxRecDepth 100000 in
set_option maxHeartbeats 4000000 in
theorem wl_X12_carryAll_119 (l : Launch) {V : St} (C0 : XC D ct p s m args meth c cX12_carryAll 4 none RX12) (u1 : Nat) (hu1 : isKp u1)  : ∀ (n0 : Nat) (v3 : Int32) (S : St) {H : Heap} {locs : List Loc} {ls : Array Slot}, (lp n0 (l_X12_carryAll_119 u1) (v3, S)).bind some = some V → MP D ct B Hb S H → va_S (AB B) s.heap H locs → lv_has ls 4 [(0, .ref (B + 136)), (3, .int v3)] → W p l e { frames := 1, cells := 0, slots := 0, locals := 21 } s m args below meth c H locs 0 0 (MQ below (qVw D ct B Hb V) args s 0 0 (AB B)) (F0 m 119 ls []) := by
  intro n0
  induction n0 with
  | zero =>
    intro v3 S H locs ls h hP hS hl
    exact (lp_0 h).elim
  | succ n0 ih0 =>
    intro v3 S H locs ls h hP hS hl
    have h := lp_s h
    exact w_X12_carryAll_119 l C0 u1 hu1 n0 (fun v3 S H locs ls h hP hS hl => ih0 v3 S h hP hS hl) v3 S h hP hS hl
set_option maxRecDepth 100000 in
set_option maxHeartbeats 4000000 in
theorem w_X12_carryAll_117 (l : Launch) {V : St} (C0 : XC D ct p s m args meth c cX12_carryAll 4 none RX12) (u1 : Nat) (hu1 : isKp u1) (S : St) {H : Heap} {locs : List Loc} {ls : Array Slot} (h : (b_X12_carryAll_117 u1 S).bind some = some V) (hP : MP D ct B Hb S H) (hS : va_S (AB B) s.heap H locs) (hl : lv_has ls 4 [(0, .ref (B + 136))]) : W p l e { frames := 1, cells := 0, slots := 0, locals := 21 } s m args below meth c H locs 0 0 (MQ below (qVw D ct B Hb V) args s 0 0 (AB B)) (F0 m 117 ls []) := by
  obtain ⟨hx, hb, hr, hml, hown, hts, hK, hlocks, hN⟩ := id C0
  unfold b_X12_carryAll_117 at h
  refine lv_iconst (v := 0) hx hb dX12_carryAll_117 (by decide) ?_
  refine lv_istore_n (lv' := [(3, .int 0), (0, .ref (B + 136))]) hx hb dX12_carryAll_118 rfl hl (by decide) rfl (fun ls hl => ?_)
  exact wl_X12_carryAll_119 l C0 u1 hu1 1000 0 S h hP hS (lv_sub hl [1, 0] rfl)
set_option maxRecDepth 100000 in
set_option maxHeartbeats 4000000 in
theorem w_X12_carryAll_89 (l : Launch) {V : St} (C0 : XC D ct p s m args meth c cX12_carryAll 4 none RX12) (u1 : Nat) (hu1 : isKp u1) (n0 : Nat) (ih0 : ∀ (v3 : Int32) (S : St) (H : Heap) (locs : List Loc) (ls : Array Slot), (lp n0 (l_X12_carryAll_89 u1) (v3, S)).bind some = some V → MP D ct B Hb S H → va_S (AB B) s.heap H locs → lv_has ls 4 [(0, .ref (B + 136)), (3, .int v3)] → W p l e { frames := 1, cells := 0, slots := 0, locals := 21 } s m args below meth c H locs 0 0 (MQ below (qVw D ct B Hb V) args s 0 0 (AB B)) (F0 m 89 ls [])) (v3 : Int32) (S : St) {H : Heap} {locs : List Loc} {ls : Array Slot} (h : (b_X12_carryAll_89 u1 v3 S).bind (lpF n0 (l_X12_carryAll_89 u1) some) = some V) (hP : MP D ct B Hb S H) (hS : va_S (AB B) s.heap H locs) (hl : lv_has ls 4 [(0, .ref (B + 136)), (3, .int v3)]) : W p l e { frames := 1, cells := 0, slots := 0, locals := 21 } s m args below meth c H locs 0 0 (MQ below (qVw D ct B Hb V) args s 0 0 (AB B)) (F0 m 89 ls []) := by
  obtain ⟨hx, hb, hr, hml, hown, hts, hK, hlocks, hN⟩ := id C0
  unfold b_X12_carryAll_89 at h
  refine lv_iload_n hx hb dX12_carryAll_89 rfl (lv_at hl 1 rfl) ?_
  refine lv_bipush (v := 16) hx hb dX12_carryAll_90 (by decide) ?_
  refine lv_icmp_ge (tgt := 117) hx hb dX12_carryAll_92 (by decide) (fun z1 => ?_) (fun z1 => ?_)
  · have h := ob_t h z1
    have h := ob_mp h
    exact w_X12_carryAll_117 l C0 u1 hu1 S h hP hS (lv_sub hl [0] rfl)
  · have h := ob_f h z1
    refine lv_aload_n hx hb dX12_carryAll_95 rfl (lv_at hl 0 rfl) ?_
    refine x_get C0 hP (lay_X12 B ct S) rfl inG12 0 (by decide) wd_1141 (fun _ h => h) rfl dX12_carryAll_96 ?_
    refine lv_iload_n hx hb dX12_carryAll_99 rfl (lv_at hl 1 rfl) ?_
    refine lv_aload_n hx hb dX12_carryAll_100 rfl (lv_at hl 0 rfl) ?_
    refine lv_aload_n hx hb dX12_carryAll_101 rfl (lv_at hl 0 rfl) ?_
    refine x_get C0 hP (lay_X12 B ct S) rfl inG12 0 (by decide) wd_1141 (fun _ h => h) rfl dX12_carryAll_102 ?_
    refine lv_iload_n hx hb dX12_carryAll_105 rfl (lv_at hl 1 rfl) ?_
    obtain ⟨g2, h⟩ := ob_gd h
    refine x_iald C0 hP ((fun S => lay_137 B ct S) S) g2 dX12_carryAll_106 ?_
    obtain ⟨r3, hr3, h⟩ := ob_bd h
    refine n_Iw (kV (As := [.int (gi S 137 v3.toNatClampNeg)]) C0 (c_X12_carry l (gi S 137 v3.toNatClampNeg) hr3) ⟨wd_1354, wd_1351, wd_1353, wp_21, wd_6⟩ kd_X12_carry ⟨Nat.le_of_ble_eq_true rfl, Nat.le_of_ble_eq_true rfl⟩ hP (lay_X12 B ct S) rfl rfl hl.1 rfl (Nat.le_of_ble_eq_true rfl) dX12_carryAll_107 ⟨Nat.le_of_ble_eq_true rfl, Nat.le_of_ble_eq_true rfl⟩) hS (fun H locs hP hS => ?_)
    obtain ⟨g4, h⟩ := ob_gd h
    obtain ⟨S5, eS5, h⟩ := ob_nm h
    refine x_iast C0 hP hS (fun S => lay_137 B ct S) g4 dX12_carryAll_110 (fun H locs hP hS => ?_)
    rw [← eS5] at hP
    refine lv_iinc (v := v3 + 1) (lv' := [(3, .int (v3 + 1)), (0, .ref (B + 136))]) hx hb dX12_carryAll_111 hl (k := 1) rfl rfl (by decide) rfl (fun ls hl => ?_)
    refine lv_goto (tgt := 89) hx hb dX12_carryAll_114 (by decide) ?_
    exact ih0 (v3 + 1) S5 _ _ _ h hP hS (lv_sub hl [1, 0] rfl)
set_option maxRecDepth 100000 in
set_option maxHeartbeats 4000000 in
theorem wl_X12_carryAll_89 (l : Launch) {V : St} (C0 : XC D ct p s m args meth c cX12_carryAll 4 none RX12) (u1 : Nat) (hu1 : isKp u1)  : ∀ (n0 : Nat) (v3 : Int32) (S : St) {H : Heap} {locs : List Loc} {ls : Array Slot}, (lp n0 (l_X12_carryAll_89 u1) (v3, S)).bind some = some V → MP D ct B Hb S H → va_S (AB B) s.heap H locs → lv_has ls 4 [(0, .ref (B + 136)), (3, .int v3)] → W p l e { frames := 1, cells := 0, slots := 0, locals := 21 } s m args below meth c H locs 0 0 (MQ below (qVw D ct B Hb V) args s 0 0 (AB B)) (F0 m 89 ls []) := by
  intro n0
  induction n0 with
  | zero =>
    intro v3 S H locs ls h hP hS hl
    exact (lp_0 h).elim
  | succ n0 ih0 =>
    intro v3 S H locs ls h hP hS hl
    have h := lp_s h
    exact w_X12_carryAll_89 l C0 u1 hu1 n0 (fun v3 S H locs ls h hP hS hl => ih0 v3 S h hP hS hl) v3 S h hP hS hl
set_option maxRecDepth 100000 in
set_option maxHeartbeats 4000000 in
theorem w_X12_carryAll_0 (l : Launch) {V : St} (C0 : XC D ct p s m args meth c cX12_carryAll 4 none RX12) (u1 : Nat) (hu1 : isKp u1) (v2 : Int32) (S : St) {H : Heap} {locs : List Loc} {ls : Array Slot} (h : (b_X12_carryAll_0 u1 v2 S).bind some = some V) (hP : MP D ct B Hb S H) (hS : va_S (AB B) s.heap H locs) (hl : lv_has ls 4 [(0, .ref (B + 136)), (1, .ref (B + u1)), (2, .int v2)]) : W p l e { frames := 1, cells := 0, slots := 0, locals := 21 } s m args below meth c H locs 0 0 (MQ below (qVw D ct B Hb V) args s 0 0 (AB B)) (F0 m 0 ls []) := by
  obtain ⟨hx, hb, hr, hml, hown, hts, hK, hlocks, hN⟩ := id C0
  unfold b_X12_carryAll_0 at h
  refine lv_aload_n hx hb dX12_carryAll_0 rfl (lv_at hl 0 rfl) ?_
  refine lv_aload_n hx hb dX12_carryAll_1 rfl (lv_at hl 1 rfl) ?_
  obtain ⟨S1, eS1, h⟩ := ob_nm h
  refine x_put (S' := sr S 136 49 (some u1)) (FS := (fs12 B)) C0 hP hS (fun S => lay_X12 B ct S) rfl inG12 tyX12 tyX12_ok nmX12 49 (by decide) wd_1190 rfl rfl (fun a ha => lay_local rfl rfl (gr_sr_n _ _ _ ha) rfl) (put_12_49 B _ _) rfl rfl (Nat.le_of_ble_eq_true rfl) dX12_carryAll_2 (fun H locs hP hS => ?_)
  rw [← eS1] at hP
  refine lv_aload_n hx hb dX12_carryAll_5 rfl (lv_at hl 0 rfl) ?_
  refine lv_iload_n hx hb dX12_carryAll_6 rfl (lv_at hl 2 rfl) ?_
  obtain ⟨g3, h⟩ := ob_gd h
  obtain ⟨S2, eS2, h⟩ := ob_nm h
  refine x_put (S' := si S1 136 48 v2) (FS := (fs12 B)) C0 hP hS (fun S => lay_X12 B ct S) rfl inG12 tyX12 tyX12_ok nmX12 48 (by decide) wd_1189 rfl rfl (fun a ha => lay_local (gi_si_n _ _ _ ha) rfl rfl rfl) (put_12_48 B _ _) (bool_n g3) (bool_f g3) (Nat.le_of_ble_eq_true rfl) dX12_carryAll_7 (fun H locs hP hS => ?_)
  rw [← eS2] at hP
  refine lv_aload_n hx hb dX12_carryAll_10 rfl (lv_at hl 0 rfl) ?_
  refine lv_iconst (v := 0) hx hb dX12_carryAll_11 (by decide) ?_
  obtain ⟨S4, eS4, h⟩ := ob_nm h
  refine x_put (S' := si S2 136 47 0) (FS := (fs12 B)) C0 hP hS (fun S => lay_X12 B ct S) rfl inG12 tyX12 tyX12_ok nmX12 47 (by decide) wd_1188 rfl rfl (fun a ha => lay_local (gi_si_n _ _ _ ha) rfl rfl rfl) (put_12_47 B _ _) rfl rfl (Nat.le_of_ble_eq_true rfl) dX12_carryAll_12 (fun H locs hP hS => ?_)
  rw [← eS4] at hP
  refine lv_aload_n hx hb dX12_carryAll_15 rfl (lv_at hl 0 rfl) ?_
  refine lv_aload_n hx hb dX12_carryAll_16 rfl (lv_at hl 0 rfl) ?_
  refine lv_aload_n hx hb dX12_carryAll_17 rfl (lv_at hl 0 rfl) ?_
  refine x_get C0 hP (lay_X12 B ct S4) rfl inG12 1 (by decide) wd_1142 (fun _ h => h) rfl dX12_carryAll_18 ?_
  obtain ⟨r5, hr5, h⟩ := ob_bd h
  refine n_Iw (kV (As := [.int (gi S4 136 1)]) C0 (c_X12_carry l (gi S4 136 1) hr5) ⟨wd_1354, wd_1351, wd_1353, wp_21, wd_6⟩ kd_X12_carry ⟨Nat.le_of_ble_eq_true rfl, Nat.le_of_ble_eq_true rfl⟩ hP (lay_X12 B ct S4) rfl rfl hl.1 rfl (Nat.le_of_ble_eq_true rfl) dX12_carryAll_21 ⟨Nat.le_of_ble_eq_true rfl, Nat.le_of_ble_eq_true rfl⟩) hS (fun H locs hP hS => ?_)
  obtain ⟨S6, eS6, h⟩ := ob_nm h
  refine x_put (S' := si r5.2 136 1 r5.1) (FS := (fs12 B)) C0 hP hS (fun S => lay_X12 B ct S) rfl inG12 tyX12 tyX12_ok nmX12 1 (by decide) wd_1142 rfl rfl (fun a ha => lay_local (gi_si_n _ _ _ ha) rfl rfl rfl) (put_12_1 B _ _) rfl rfl (Nat.le_of_ble_eq_true rfl) dX12_carryAll_24 (fun H locs hP hS => ?_)
  rw [← eS6] at hP
  refine lv_aload_n hx hb dX12_carryAll_27 rfl (lv_at hl 0 rfl) ?_
  refine lv_aload_n hx hb dX12_carryAll_28 rfl (lv_at hl 0 rfl) ?_
  refine lv_aload_n hx hb dX12_carryAll_29 rfl (lv_at hl 0 rfl) ?_
  refine x_get C0 hP (lay_X12 B ct S6) rfl inG12 6 (by decide) wd_1147 (fun _ h => h) rfl dX12_carryAll_30 ?_
  obtain ⟨r7, hr7, h⟩ := ob_bd h
  refine n_Iw (kV (As := [.int (gi S6 136 6)]) C0 (c_X12_carry l (gi S6 136 6) hr7) ⟨wd_1354, wd_1351, wd_1353, wp_21, wd_6⟩ kd_X12_carry ⟨Nat.le_of_ble_eq_true rfl, Nat.le_of_ble_eq_true rfl⟩ hP (lay_X12 B ct S6) rfl rfl hl.1 rfl (Nat.le_of_ble_eq_true rfl) dX12_carryAll_33 ⟨Nat.le_of_ble_eq_true rfl, Nat.le_of_ble_eq_true rfl⟩) hS (fun H locs hP hS => ?_)
  obtain ⟨S8, eS8, h⟩ := ob_nm h
  refine x_put (S' := si r7.2 136 6 r7.1) (FS := (fs12 B)) C0 hP hS (fun S => lay_X12 B ct S) rfl inG12 tyX12 tyX12_ok nmX12 6 (by decide) wd_1147 rfl rfl (fun a ha => lay_local (gi_si_n _ _ _ ha) rfl rfl rfl) (put_12_6 B _ _) rfl rfl (Nat.le_of_ble_eq_true rfl) dX12_carryAll_36 (fun H locs hP hS => ?_)
  rw [← eS8] at hP
  refine lv_aload_n hx hb dX12_carryAll_39 rfl (lv_at hl 0 rfl) ?_
  refine lv_aload_n hx hb dX12_carryAll_40 rfl (lv_at hl 0 rfl) ?_
  refine lv_aload_n hx hb dX12_carryAll_41 rfl (lv_at hl 0 rfl) ?_
  refine x_get C0 hP (lay_X12 B ct S8) rfl inG12 7 (by decide) wd_1148 (fun _ h => h) rfl dX12_carryAll_42 ?_
  obtain ⟨r9, hr9, h⟩ := ob_bd h
  refine n_Iw (kV (As := [.int (gi S8 136 7)]) C0 (c_X12_carry l (gi S8 136 7) hr9) ⟨wd_1354, wd_1351, wd_1353, wp_21, wd_6⟩ kd_X12_carry ⟨Nat.le_of_ble_eq_true rfl, Nat.le_of_ble_eq_true rfl⟩ hP (lay_X12 B ct S8) rfl rfl hl.1 rfl (Nat.le_of_ble_eq_true rfl) dX12_carryAll_45 ⟨Nat.le_of_ble_eq_true rfl, Nat.le_of_ble_eq_true rfl⟩) hS (fun H locs hP hS => ?_)
  obtain ⟨S10, eS10, h⟩ := ob_nm h
  refine x_put (S' := si r9.2 136 7 r9.1) (FS := (fs12 B)) C0 hP hS (fun S => lay_X12 B ct S) rfl inG12 tyX12 tyX12_ok nmX12 7 (by decide) wd_1148 rfl rfl (fun a ha => lay_local (gi_si_n _ _ _ ha) rfl rfl rfl) (put_12_7 B _ _) rfl rfl (Nat.le_of_ble_eq_true rfl) dX12_carryAll_48 (fun H locs hP hS => ?_)
  rw [← eS10] at hP
  refine lv_aload_n hx hb dX12_carryAll_51 rfl (lv_at hl 0 rfl) ?_
  refine lv_aload_n hx hb dX12_carryAll_52 rfl (lv_at hl 0 rfl) ?_
  refine lv_aload_n hx hb dX12_carryAll_53 rfl (lv_at hl 0 rfl) ?_
  refine x_get C0 hP (lay_X12 B ct S10) rfl inG12 8 (by decide) wd_1149 (fun _ h => h) rfl dX12_carryAll_54 ?_
  obtain ⟨r11, hr11, h⟩ := ob_bd h
  refine n_Iw (kV (As := [.int (gi S10 136 8)]) C0 (c_X12_carry l (gi S10 136 8) hr11) ⟨wd_1354, wd_1351, wd_1353, wp_21, wd_6⟩ kd_X12_carry ⟨Nat.le_of_ble_eq_true rfl, Nat.le_of_ble_eq_true rfl⟩ hP (lay_X12 B ct S10) rfl rfl hl.1 rfl (Nat.le_of_ble_eq_true rfl) dX12_carryAll_57 ⟨Nat.le_of_ble_eq_true rfl, Nat.le_of_ble_eq_true rfl⟩) hS (fun H locs hP hS => ?_)
  obtain ⟨S12, eS12, h⟩ := ob_nm h
  refine x_put (S' := si r11.2 136 8 r11.1) (FS := (fs12 B)) C0 hP hS (fun S => lay_X12 B ct S) rfl inG12 tyX12 tyX12_ok nmX12 8 (by decide) wd_1149 rfl rfl (fun a ha => lay_local (gi_si_n _ _ _ ha) rfl rfl rfl) (put_12_8 B _ _) rfl rfl (Nat.le_of_ble_eq_true rfl) dX12_carryAll_60 (fun H locs hP hS => ?_)
  rw [← eS12] at hP
  refine lv_aload_n hx hb dX12_carryAll_63 rfl (lv_at hl 0 rfl) ?_
  refine lv_aload_n hx hb dX12_carryAll_64 rfl (lv_at hl 0 rfl) ?_
  refine lv_aload_n hx hb dX12_carryAll_65 rfl (lv_at hl 0 rfl) ?_
  refine x_get C0 hP (lay_X12 B ct S12) rfl inG12 9 (by decide) wd_1150 (fun _ h => h) rfl dX12_carryAll_66 ?_
  obtain ⟨r13, hr13, h⟩ := ob_bd h
  refine n_Iw (kV (As := [.int (gi S12 136 9)]) C0 (c_X12_carry l (gi S12 136 9) hr13) ⟨wd_1354, wd_1351, wd_1353, wp_21, wd_6⟩ kd_X12_carry ⟨Nat.le_of_ble_eq_true rfl, Nat.le_of_ble_eq_true rfl⟩ hP (lay_X12 B ct S12) rfl rfl hl.1 rfl (Nat.le_of_ble_eq_true rfl) dX12_carryAll_69 ⟨Nat.le_of_ble_eq_true rfl, Nat.le_of_ble_eq_true rfl⟩) hS (fun H locs hP hS => ?_)
  obtain ⟨S14, eS14, h⟩ := ob_nm h
  refine x_put (S' := si r13.2 136 9 r13.1) (FS := (fs12 B)) C0 hP hS (fun S => lay_X12 B ct S) rfl inG12 tyX12 tyX12_ok nmX12 9 (by decide) wd_1150 rfl rfl (fun a ha => lay_local (gi_si_n _ _ _ ha) rfl rfl rfl) (put_12_9 B _ _) rfl rfl (Nat.le_of_ble_eq_true rfl) dX12_carryAll_72 (fun H locs hP hS => ?_)
  rw [← eS14] at hP
  refine lv_aload_n hx hb dX12_carryAll_75 rfl (lv_at hl 0 rfl) ?_
  refine lv_aload_n hx hb dX12_carryAll_76 rfl (lv_at hl 0 rfl) ?_
  refine lv_aload_n hx hb dX12_carryAll_77 rfl (lv_at hl 0 rfl) ?_
  refine x_get C0 hP (lay_X12 B ct S14) rfl inG12 15 (by decide) wd_1156 (fun _ h => h) rfl dX12_carryAll_78 ?_
  obtain ⟨r15, hr15, h⟩ := ob_bd h
  refine n_Iw (kV (As := [.int (gi S14 136 15)]) C0 (c_X12_carry l (gi S14 136 15) hr15) ⟨wd_1354, wd_1351, wd_1353, wp_21, wd_6⟩ kd_X12_carry ⟨Nat.le_of_ble_eq_true rfl, Nat.le_of_ble_eq_true rfl⟩ hP (lay_X12 B ct S14) rfl rfl hl.1 rfl (Nat.le_of_ble_eq_true rfl) dX12_carryAll_81 ⟨Nat.le_of_ble_eq_true rfl, Nat.le_of_ble_eq_true rfl⟩) hS (fun H locs hP hS => ?_)
  obtain ⟨S16, eS16, h⟩ := ob_nm h
  refine x_put (S' := si r15.2 136 15 r15.1) (FS := (fs12 B)) C0 hP hS (fun S => lay_X12 B ct S) rfl inG12 tyX12 tyX12_ok nmX12 15 (by decide) wd_1156 rfl rfl (fun a ha => lay_local (gi_si_n _ _ _ ha) rfl rfl rfl) (put_12_15 B _ _) rfl rfl (Nat.le_of_ble_eq_true rfl) dX12_carryAll_84 (fun H locs hP hS => ?_)
  rw [← eS16] at hP
  refine lv_iconst (v := 0) hx hb dX12_carryAll_87 (by decide) ?_
  refine lv_istore_n (lv' := [(3, .int 0), (0, .ref (B + 136)), (1, .ref (B + u1)), (2, .int v2)]) hx hb dX12_carryAll_88 rfl hl (by decide) rfl (fun ls hl => ?_)
  exact wl_X12_carryAll_89 l C0 u1 hu1 1000 0 S16 h hP hS (lv_sub hl [1, 0] rfl)
set_option maxRecDepth 100000 in
set_option maxHeartbeats 4000000 in
theorem c_X12_carryAll (l : Launch) (u1 : Nat) (hu1 : isKp u1) (a2 : Int32) {D : va_G} {ct : Nat → ClassId} {B : Nat} {Hb : Heap} {S : St} {V : St} (h : L_X12_carryAll u1 a2 S = some V) : Met l yX12_carryAll (Cond.code yX12_carryAll cX12_carryAll 4 none :: tG) { frames := 1, cells := 0, slots := 0, locals := 21 } (va_Pc [.ref (B + 136), .ref (B + u1), .int a2] (MPK D ct B Hb S)) (qVw D ct B Hb V) 0 0 (AB B) := by
  refine mk_met (by decide +kernel) (Nat.le_of_ble_eq_true rfl) (fun p e s m args below meth c ls C0 hP hl _ => ?_)
  have h := ob_of h
  exact w_X12_carryAll_0 l C0 u1 hu1 a2 S h hP va_S.rf (lv_sub hl [0, 1, 2] rfl)
set_option maxRecDepth 100000 in
set_option maxHeartbeats 4000000 in
theorem w_X12_open_0 (l : Launch) {V : St} (C0 : XC D ct p s m args meth c cX12_open 1 none RX12) (S : St) {H : Heap} {locs : List Loc} {ls : Array Slot} (h : (b_X12_open_0 S).bind some = some V) (hP : MP D ct B Hb S H) (hS : va_S (AB B) s.heap H locs) (hl : lv_has ls 1 [(0, .ref (B + 136))]) : W p l e { frames := 2, cells := 0, slots := 0, locals := 44 } s m args below meth c H locs 0 0 (MQ below (qVw D ct B Hb V) args s 0 0 (AB B)) (F0 m 0 ls []) := by
  obtain ⟨hx, hb, hr, hml, hown, hts, hK, hlocks, hN⟩ := id C0
  unfold b_X12_open_0 at h
  refine lv_aload_n hx hb dX12_open_0 rfl (lv_at hl 0 rfl) ?_
  refine lv_aload_n hx hb dX12_open_1 rfl (lv_at hl 0 rfl) ?_
  refine x_get C0 hP (lay_X12 B ct S) rfl inG12 44 (by decide) wd_1185 (fun _ h => h) rfl dX12_open_2 ?_
  refine lv_iconst (v := 1) hx hb dX12_open_5 (by decide) ?_
  obtain ⟨r1, hr1, h⟩ := ob_bd h
  refine n_Vw (kV (As := [.ref (B + 172), .int 1]) C0 (c_X12_carryAll l 172 (Or.inl rfl) 1 hr1) ⟨wd_1350, wd_1347, wd_1349, wp_20, wd_6⟩ kd_X12_carryAll ⟨Nat.le_of_ble_eq_true rfl, Nat.le_of_ble_eq_true rfl⟩ hP (lay_X12 B ct S) rfl rfl hl.1 rfl (Nat.le_of_ble_eq_true rfl) dX12_open_6 ⟨Nat.le_of_ble_eq_true rfl, Nat.le_of_ble_eq_true rfl⟩) hS (fun H locs hP hS => ?_)
  exact r_Vw C0 hP hS h dX12_open_9
set_option maxRecDepth 100000 in
set_option maxHeartbeats 4000000 in
theorem c_X12_open (l : Launch) {D : va_G} {ct : Nat → ClassId} {B : Nat} {Hb : Heap} {S : St} {V : St} (h : L_X12_open S = some V) : Met l yX12_open (Cond.code yX12_open cX12_open 1 none :: tG) { frames := 2, cells := 0, slots := 0, locals := 44 } (va_Pc [.ref (B + 136)] (MPK D ct B Hb S)) (qVw D ct B Hb V) 0 0 (AB B) := by
  refine mk_met (by decide +kernel) (Nat.le_of_ble_eq_true rfl) (fun p e s m args below meth c ls C0 hP hl _ => ?_)
  have h := ob_of h
  exact w_X12_open_0 l C0 S h hP va_S.rf (lv_sub hl [0] rfl)
set_option maxRecDepth 100000 in
set_option maxHeartbeats 4000000 in
theorem w_X12_close_0 (l : Launch) {V : St} (C0 : XC D ct p s m args meth c cX12_close 1 none RX12) (S : St) {H : Heap} {locs : List Loc} {ls : Array Slot} (h : (b_X12_close_0 S).bind some = some V) (hP : MP D ct B Hb S H) (hS : va_S (AB B) s.heap H locs) (hl : lv_has ls 1 [(0, .ref (B + 136))]) : W p l e { frames := 2, cells := 0, slots := 0, locals := 44 } s m args below meth c H locs 0 0 (MQ below (qVw D ct B Hb V) args s 0 0 (AB B)) (F0 m 0 ls []) := by
  obtain ⟨hx, hb, hr, hml, hown, hts, hK, hlocks, hN⟩ := id C0
  unfold b_X12_close_0 at h
  refine lv_aload_n hx hb dX12_close_0 rfl (lv_at hl 0 rfl) ?_
  refine lv_aload_n hx hb dX12_close_1 rfl (lv_at hl 0 rfl) ?_
  refine x_get C0 hP (lay_X12 B ct S) rfl inG12 44 (by decide) wd_1185 (fun _ h => h) rfl dX12_close_2 ?_
  refine lv_iconst (v := 0) hx hb dX12_close_5 (by decide) ?_
  obtain ⟨r1, hr1, h⟩ := ob_bd h
  refine n_Vw (kV (As := [.ref (B + 172), .int 0]) C0 (c_X12_carryAll l 172 (Or.inl rfl) 0 hr1) ⟨wd_1350, wd_1347, wd_1349, wp_20, wd_6⟩ kd_X12_carryAll ⟨Nat.le_of_ble_eq_true rfl, Nat.le_of_ble_eq_true rfl⟩ hP (lay_X12 B ct S) rfl rfl hl.1 rfl (Nat.le_of_ble_eq_true rfl) dX12_close_6 ⟨Nat.le_of_ble_eq_true rfl, Nat.le_of_ble_eq_true rfl⟩) hS (fun H locs hP hS => ?_)
  refine lv_aload_n hx hb dX12_close_9 rfl (lv_at hl 0 rfl) ?_
  refine lv_bipush (v := 63) hx hb dX12_close_10 (by decide) ?_
  obtain ⟨S2, eS2, h⟩ := ob_nm h
  refine x_put (S' := si r1 136 29 63) (FS := (fs12 B)) C0 hP hS (fun S => lay_X12 B ct S) rfl inG12 tyX12 tyX12_ok nmX12 29 (by decide) wd_1170 rfl rfl (fun a ha => lay_local (gi_si_n _ _ _ ha) rfl rfl rfl) (put_12_29 B _ _) rfl rfl (Nat.le_of_ble_eq_true rfl) dX12_close_12 (fun H locs hP hS => ?_)
  rw [← eS2] at hP
  refine lv_aload_n hx hb dX12_close_15 rfl (lv_at hl 0 rfl) ?_
  refine lv_iconst (v := 0) hx hb dX12_close_16 (by decide) ?_
  obtain ⟨S3, eS3, h⟩ := ob_nm h
  refine x_put (S' := si S2 136 30 0) (FS := (fs12 B)) C0 hP hS (fun S => lay_X12 B ct S) rfl inG12 tyX12 tyX12_ok nmX12 30 (by decide) wd_1171 rfl rfl (fun a ha => lay_local (gi_si_n _ _ _ ha) rfl rfl rfl) (put_12_30 B _ _) bool_0 rfl (Nat.le_of_ble_eq_true rfl) dX12_close_17 (fun H locs hP hS => ?_)
  rw [← eS3] at hP
  exact r_Vw C0 hP hS h dX12_close_20
set_option maxRecDepth 100000 in
set_option maxHeartbeats 4000000 in
theorem c_X12_close (l : Launch) {D : va_G} {ct : Nat → ClassId} {B : Nat} {Hb : Heap} {S : St} {V : St} (h : L_X12_close S = some V) : Met l yX12_close (Cond.code yX12_close cX12_close 1 none :: tG) { frames := 2, cells := 0, slots := 0, locals := 44 } (va_Pc [.ref (B + 136)] (MPK D ct B Hb S)) (qVw D ct B Hb V) 0 0 (AB B) := by
  refine mk_met (by decide +kernel) (Nat.le_of_ble_eq_true rfl) (fun p e s m args below meth c ls C0 hP hl _ => ?_)
  have h := ob_of h
  exact w_X12_close_0 l C0 S h hP va_S.rf (lv_sub hl [0] rfl)
set_option maxRecDepth 100000 in
set_option maxHeartbeats 4000000 in
theorem w_X12_image_0 (l : Launch) {V : Int32 × St} (C0 : XC D ct p s m args meth c cX12_image 1 (some .int) RX12) (S : St) {H : Heap} {locs : List Loc} {ls : Array Slot} (h : (b_X12_image_0 S).bind some = some V) (hP : MP D ct B Hb S H) (hS : va_S (AB B) s.heap H locs) (hl : lv_has ls 1 [(0, .ref (B + 136))]) : W p l e { frames := 2, cells := 0, slots := 0, locals := 44 } s m args below meth c H locs 0 0 (MQ below (qIw D ct B Hb V) args s 0 0 (AB B)) (F0 m 0 ls []) := by
  obtain ⟨hx, hb, hr, hml, hown, hts, hK, hlocks, hN⟩ := id C0
  unfold b_X12_image_0 at h
  refine lv_aload_n hx hb dX12_image_0 rfl (lv_at hl 0 rfl) ?_
  refine lv_iconst (v := 0) hx hb dX12_image_1 (by decide) ?_
  obtain ⟨S1, eS1, h⟩ := ob_nm h
  refine x_put (S' := si S 136 28 0) (FS := (fs12 B)) C0 hP hS (fun S => lay_X12 B ct S) rfl inG12 tyX12 tyX12_ok nmX12 28 (by decide) wd_1169 rfl rfl (fun a ha => lay_local (gi_si_n _ _ _ ha) rfl rfl rfl) (put_12_28 B _ _) rfl rfl (Nat.le_of_ble_eq_true rfl) dX12_image_2 (fun H locs hP hS => ?_)
  rw [← eS1] at hP
  refine lv_aload_n hx hb dX12_image_5 rfl (lv_at hl 0 rfl) ?_
  refine lv_iconst (v := 1) hx hb dX12_image_6 (by decide) ?_
  obtain ⟨S2, eS2, h⟩ := ob_nm h
  refine x_put (S' := si S1 136 46 1) (FS := (fs12 B)) C0 hP hS (fun S => lay_X12 B ct S) rfl inG12 tyX12 tyX12_ok nmX12 46 (by decide) wd_1187 rfl rfl (fun a ha => lay_local (gi_si_n _ _ _ ha) rfl rfl rfl) (put_12_46 B _ _) bool_1 rfl (Nat.le_of_ble_eq_true rfl) dX12_image_7 (fun H locs hP hS => ?_)
  rw [← eS2] at hP
  refine lv_aload_n hx hb dX12_image_10 rfl (lv_at hl 0 rfl) ?_
  refine lv_aload_n hx hb dX12_image_11 rfl (lv_at hl 0 rfl) ?_
  refine x_get C0 hP (lay_X12 B ct S2) rfl inG12 45 (by decide) wd_1186 (fun _ h => h) rfl dX12_image_12 ?_
  refine lv_iconst (v := 1) hx hb dX12_image_15 (by decide) ?_
  obtain ⟨r3, hr3, h⟩ := ob_bd h
  refine n_Vw (kV (As := [.ref (B + 173), .int 1]) C0 (c_X12_carryAll l 173 (Or.inr rfl) 1 hr3) ⟨wd_1350, wd_1347, wd_1349, wp_20, wd_6⟩ kd_X12_carryAll ⟨Nat.le_of_ble_eq_true rfl, Nat.le_of_ble_eq_true rfl⟩ hP (lay_X12 B ct S2) rfl rfl hl.1 rfl (Nat.le_of_ble_eq_true rfl) dX12_image_16 ⟨Nat.le_of_ble_eq_true rfl, Nat.le_of_ble_eq_true rfl⟩) hS (fun H locs hP hS => ?_)
  refine lv_aload_n hx hb dX12_image_19 rfl (lv_at hl 0 rfl) ?_
  refine x_get C0 hP (lay_X12 B ct r3) rfl inG12 15 (by decide) wd_1156 (fun _ h => h) rfl dX12_image_20 ?_
  exact r_Iw C0 hP hS h dX12_image_23
set_option maxRecDepth 100000 in
set_option maxHeartbeats 4000000 in
theorem c_X12_image (l : Launch) {D : va_G} {ct : Nat → ClassId} {B : Nat} {Hb : Heap} {S : St} {V : Int32 × St} (h : L_X12_image S = some V) : Met l yX12_image (Cond.code yX12_image cX12_image 1 (some .int) :: tG) { frames := 2, cells := 0, slots := 0, locals := 44 } (va_Pc [.ref (B + 136)] (MPK D ct B Hb S)) (qIw D ct B Hb V) 0 0 (AB B) := by
  refine mk_met (by decide +kernel) (Nat.le_of_ble_eq_true rfl) (fun p e s m args below meth c ls C0 hP hl _ => ?_)
  have h := ob_of h
  exact w_X12_image_0 l C0 S h hP va_S.rf (lv_sub hl [0] rfl)
set_option maxRecDepth 100000 in
set_option maxHeartbeats 4000000 in
theorem w_X12_restore_0 (l : Launch) {V : Int32 × St} (C0 : XC D ct p s m args meth c cX12_restore 1 (some .int) RX12) (S : St) {H : Heap} {locs : List Loc} {ls : Array Slot} (h : (b_X12_restore_0 S).bind some = some V) (hP : MP D ct B Hb S H) (hS : va_S (AB B) s.heap H locs) (hl : lv_has ls 1 [(0, .ref (B + 136))]) : W p l e { frames := 2, cells := 0, slots := 0, locals := 44 } s m args below meth c H locs 0 0 (MQ below (qIw D ct B Hb V) args s 0 0 (AB B)) (F0 m 0 ls []) := by
  obtain ⟨hx, hb, hr, hml, hown, hts, hK, hlocks, hN⟩ := id C0
  unfold b_X12_restore_0 at h
  refine lv_aload_n hx hb dX12_restore_0 rfl (lv_at hl 0 rfl) ?_
  refine lv_iconst (v := 0) hx hb dX12_restore_1 (by decide) ?_
  obtain ⟨S1, eS1, h⟩ := ob_nm h
  refine x_put (S' := si S 136 28 0) (FS := (fs12 B)) C0 hP hS (fun S => lay_X12 B ct S) rfl inG12 tyX12 tyX12_ok nmX12 28 (by decide) wd_1169 rfl rfl (fun a ha => lay_local (gi_si_n _ _ _ ha) rfl rfl rfl) (put_12_28 B _ _) rfl rfl (Nat.le_of_ble_eq_true rfl) dX12_restore_2 (fun H locs hP hS => ?_)
  rw [← eS1] at hP
  refine lv_aload_n hx hb dX12_restore_5 rfl (lv_at hl 0 rfl) ?_
  refine x_get C0 hP (lay_X12 B ct S1) rfl inG12 46 (by decide) wd_1187 (fun _ h => h) rfl dX12_restore_6 ?_
  refine lv_if_ne (tgt := 15) hx hb dX12_restore_9 (by decide) (fun z2 => ?_) (fun z2 => ?_)
  · have h := ob_f h z2
    refine lv_aload_n hx hb dX12_restore_15 rfl (lv_at hl 0 rfl) ?_
    refine lv_aload_n hx hb dX12_restore_16 rfl (lv_at hl 0 rfl) ?_
    refine x_get C0 hP (lay_X12 B ct S1) rfl inG12 45 (by decide) wd_1186 (fun _ h => h) rfl dX12_restore_17 ?_
    refine lv_iconst (v := 0) hx hb dX12_restore_20 (by decide) ?_
    obtain ⟨r3, hr3, h⟩ := ob_bd h
    refine n_Vw (kV (As := [.ref (B + 173), .int 0]) C0 (c_X12_carryAll l 173 (Or.inr rfl) 0 hr3) ⟨wd_1350, wd_1347, wd_1349, wp_20, wd_6⟩ kd_X12_carryAll ⟨Nat.le_of_ble_eq_true rfl, Nat.le_of_ble_eq_true rfl⟩ hP (lay_X12 B ct S1) rfl rfl hl.1 rfl (Nat.le_of_ble_eq_true rfl) dX12_restore_21 ⟨Nat.le_of_ble_eq_true rfl, Nat.le_of_ble_eq_true rfl⟩) hS (fun H locs hP hS => ?_)
    refine lv_aload_n hx hb dX12_restore_24 rfl (lv_at hl 0 rfl) ?_
    refine x_get C0 hP (lay_X12 B ct r3) rfl inG12 15 (by decide) wd_1156 (fun _ h => h) rfl dX12_restore_25 ?_
    exact r_Iw C0 hP hS h dX12_restore_28
  · have h := ob_t h z2
    refine lv_bipush (v := (-3)) hx hb dX12_restore_12 (by decide) ?_
    exact r_Iw C0 hP hS h dX12_restore_14
set_option maxRecDepth 100000 in
set_option maxHeartbeats 4000000 in
theorem c_X12_restore (l : Launch) {D : va_G} {ct : Nat → ClassId} {B : Nat} {Hb : Heap} {S : St} {V : Int32 × St} (h : L_X12_restore S = some V) : Met l yX12_restore (Cond.code yX12_restore cX12_restore 1 (some .int) :: tG) { frames := 2, cells := 0, slots := 0, locals := 44 } (va_Pc [.ref (B + 136)] (MPK D ct B Hb S)) (qIw D ct B Hb V) 0 0 (AB B) := by
  refine mk_met (by decide +kernel) (Nat.le_of_ble_eq_true rfl) (fun p e s m args below meth c ls C0 hP hl _ => ?_)
  have h := ob_of h
  exact w_X12_restore_0 l C0 S h hP va_S.rf (lv_sub hl [0] rfl)
set_option maxRecDepth 100000 in
set_option maxHeartbeats 4000000 in
theorem w_X12_here_0 (l : Launch) {V : Int32} (C0 : XC D ct p s m args meth c cX12_here 1 (some .int) RX12) (S : St) {H : Heap} {locs : List Loc} {ls : Array Slot} (h : (b_X12_here_0 S).bind some = some V) (hP : MP D ct B Hb S H) (hS : va_S (AB B) s.heap H locs) (hl : lv_has ls 1 [(0, .ref (B + 136))]) : W p l e { frames := 0, cells := 0, slots := 0, locals := 0 } s m args below meth c H locs 0 0 (MQ below (qI D ct B Hb S V) args s 0 0 (AB B)) (F0 m 0 ls []) := by
  obtain ⟨hx, hb, hr, hml, hown, hts, hK, hlocks, hN⟩ := id C0
  unfold b_X12_here_0 at h
  refine lv_aload_n hx hb dX12_here_0 rfl (lv_at hl 0 rfl) ?_
  refine x_get C0 hP (lay_X12 B ct S) rfl inG12 51 (by decide) wd_1192 (fun _ h => h) rfl dX12_here_1 ?_
  refine lv_aload_n hx hb dX12_here_4 rfl (lv_at hl 0 rfl) ?_
  refine x_get C0 hP (lay_X12 B ct S) rfl inG12 26 (by decide) wd_1167 (fun _ h => h) rfl dX12_here_5 ?_
  refine lv_aload_n hx hb dX12_here_8 rfl (lv_at hl 0 rfl) ?_
  refine x_get C0 hP (lay_X12 B ct S) rfl inG12 50 (by decide) wd_1191 (fun _ h => h) rfl dX12_here_9 ?_
  obtain ⟨g1, h⟩ := ob_gd h
  refine x_iald C0 hP ((fun S => lay_157 B ct S) S) g1 dX12_here_12 ?_
  refine lv_icmp_ge (tgt := 37) hx hb dX12_here_13 (by decide) (fun z2 => ?_) (fun z2 => ?_)
  · have h := ob_t h z2
    refine lv_sipush (v := (-999)) hx hb dX12_here_37 (by decide) ?_
    exact r_I C0 hP hS h dX12_here_40
  · have h := ob_f h z2
    refine lv_aload_n hx hb dX12_here_16 rfl (lv_at hl 0 rfl) ?_
    refine x_get C0 hP (lay_X12 B ct S) rfl inG12 27 (by decide) wd_1168 (fun _ h => h) rfl dX12_here_17 ?_
    refine lv_bipush (v := 100) hx hb dX12_here_20 (by decide) ?_
    refine lv_aload_n hx hb dX12_here_22 rfl (lv_at hl 0 rfl) ?_
    refine x_get C0 hP (lay_X12 B ct S) rfl inG12 50 (by decide) wd_1191 (fun _ h => h) rfl dX12_here_23 ?_
    refine lv_imul hx hb dX12_here_26 ?_
    refine lv_aload_n hx hb dX12_here_27 rfl (lv_at hl 0 rfl) ?_
    refine x_get C0 hP (lay_X12 B ct S) rfl inG12 51 (by decide) wd_1192 (fun _ h => h) rfl dX12_here_28 ?_
    refine lv_iadd hx hb dX12_here_31 ?_
    obtain ⟨g3, h⟩ := ob_gd h
    refine x_lald C0 hP ((fun S => lay_158 B ct S) S) g3 dX12_here_32 ?_
    refine t_l2i hx hb dX12_here_33 rfl ?_
    refine lv_goto (tgt := 40) hx hb dX12_here_34 (by decide) ?_
    exact r_I C0 hP hS h dX12_here_40
set_option maxRecDepth 100000 in
set_option maxHeartbeats 4000000 in
theorem c_X12_here (l : Launch) {D : va_G} {ct : Nat → ClassId} {B : Nat} {Hb : Heap} {S : St} {V : Int32} (h : L_X12_here S = some V) : Met l yX12_here (Cond.code yX12_here cX12_here 1 (some .int) :: tG) { frames := 0, cells := 0, slots := 0, locals := 0 } (va_Pc [.ref (B + 136)] (MPK D ct B Hb S)) (qI D ct B Hb S V) 0 0 (AB B) := by
  refine mk_met (by decide +kernel) (Nat.le_of_ble_eq_true rfl) (fun p e s m args below meth c ls C0 hP hl _ => ?_)
  have h := ob_of h
  exact w_X12_here_0 l C0 S h hP va_S.rf (lv_sub hl [0] rfl)
set_option maxRecDepth 100000 in
set_option maxHeartbeats 4000000 in
theorem w_X12_readDigits_83 (l : Launch) {V : Int32 × St} (C0 : XC D ct p s m args meth c cX12_readDigits 4 (some .int) RX12) (n0 : Nat) (ih0 : ∀ (v1 : Int32) (v2 : Int32) (v3 : Int32) (S : St) (H : Heap) (locs : List Loc) (ls : Array Slot), (lp n0 (l_X12_readDigits_4) (v1, v2, v3, S)).bind some = some V → MP D ct B Hb S H → va_S (AB B) s.heap H locs → lv_has ls 4 [(0, .ref (B + 136)), (1, .int v1), (2, .int v2), (3, .int v3)] → W p l e { frames := 1, cells := 0, slots := 0, locals := 25 } s m args below meth c H locs 0 0 (MQ below (qIw D ct B Hb V) args s 0 0 (AB B)) (F0 m 4 ls [])) (v1 : Int32) (v2 : Int32) (v3 : Int32) (s0 : Int32) (s1 : Int32) (S : St) {H : Heap} {locs : List Loc} {ls : Array Slot} (h : (b_X12_readDigits_83 v1 v2 v3 s0 s1 S).bind (lpF n0 (l_X12_readDigits_4) some) = some V) (hP : MP D ct B Hb S H) (hS : va_S (AB B) s.heap H locs) (hl : lv_has ls 4 [(0, .ref (B + 136)), (1, .int v1), (2, .int v2), (3, .int v3)]) : W p l e { frames := 1, cells := 0, slots := 0, locals := 25 } s m args below meth c H locs 0 0 (MQ below (qIw D ct B Hb V) args s 0 0 (AB B)) (F0 m 83 ls [.int s0, .int s1, .ref (B + 136)]) := by
  obtain ⟨hx, hb, hr, hml, hown, hts, hK, hlocks, hN⟩ := id C0
  unfold b_X12_readDigits_83 at h
  refine lv_iadd hx hb dX12_readDigits_83 ?_
  obtain ⟨S1, eS1, h⟩ := ob_nm h
  refine x_put (S' := si S 136 51 (s1 + s0)) (FS := (fs12 B)) C0 hP hS (fun S => lay_X12 B ct S) rfl inG12 tyX12 tyX12_ok nmX12 51 (by decide) wd_1192 rfl rfl (fun a ha => lay_local (gi_si_n _ _ _ ha) rfl rfl rfl) (put_12_51 B _ _) rfl rfl (Nat.le_of_ble_eq_true rfl) dX12_readDigits_84 (fun H locs hP hS => ?_)
  rw [← eS1] at hP
  refine lv_iinc (v := v3 + 1) (lv' := [(3, .int (v3 + 1)), (0, .ref (B + 136)), (1, .int v1), (2, .int v2)]) hx hb dX12_readDigits_87 hl (k := 3) rfl rfl (by decide) rfl (fun ls hl => ?_)
  refine lv_goto (tgt := 4) hx hb dX12_readDigits_90 (by decide) ?_
  exact ih0 v1 v2 (v3 + 1) S1 _ _ _ h hP hS (lv_sub hl [1, 2, 3, 0] rfl)
set_option maxRecDepth 100000 in
set_option maxHeartbeats 4000000 in
theorem w_X12_readDigits_65 (l : Launch) {V : Int32 × St} (C0 : XC D ct p s m args meth c cX12_readDigits 4 (some .int) RX12) (n0 : Nat) (ih0 : ∀ (v1 : Int32) (v2 : Int32) (v3 : Int32) (S : St) (H : Heap) (locs : List Loc) (ls : Array Slot), (lp n0 (l_X12_readDigits_4) (v1, v2, v3, S)).bind some = some V → MP D ct B Hb S H → va_S (AB B) s.heap H locs → lv_has ls 4 [(0, .ref (B + 136)), (1, .int v1), (2, .int v2), (3, .int v3)] → W p l e { frames := 1, cells := 0, slots := 0, locals := 25 } s m args below meth c H locs 0 0 (MQ below (qIw D ct B Hb V) args s 0 0 (AB B)) (F0 m 4 ls [])) (v1 : Int32) (v3 : Int32) (s0 : Int32) (S : St) {H : Heap} {locs : List Loc} {ls : Array Slot} (h : (b_X12_readDigits_65 v1 v3 s0 S).bind (lpF n0 (l_X12_readDigits_4) some) = some V) (hP : MP D ct B Hb S H) (hS : va_S (AB B) s.heap H locs) (hl : lv_has ls 4 [(0, .ref (B + 136)), (1, .int v1), (3, .int v3)]) : W p l e { frames := 1, cells := 0, slots := 0, locals := 25 } s m args below meth c H locs 0 0 (MQ below (qIw D ct B Hb V) args s 0 0 (AB B)) (F0 m 65 ls [.int s0]) := by
  obtain ⟨hx, hb, hr, hml, hown, hts, hK, hlocks, hN⟩ := id C0
  unfold b_X12_readDigits_65 at h
  refine lv_istore_n (lv' := [(2, .int s0), (0, .ref (B + 136)), (1, .int v1), (3, .int v3)]) hx hb dX12_readDigits_65 rfl hl (by decide) rfl (fun ls hl => ?_)
  refine lv_aload_n hx hb dX12_readDigits_66 rfl (lv_at hl 1 rfl) ?_
  refine lv_dup hx hb dX12_readDigits_67 rfl ?_
  refine x_get C0 hP (lay_X12 B ct S) rfl inG12 51 (by decide) wd_1192 (fun _ h => h) rfl dX12_readDigits_68 ?_
  refine lv_aload_n hx hb dX12_readDigits_71 rfl (lv_at hl 1 rfl) ?_
  refine x_get C0 hP (lay_X12 B ct S) rfl inG12 52 (by decide) wd_1193 (fun _ h => h) rfl dX12_readDigits_72 ?_
  refine lv_if_eq (tgt := 82) hx hb dX12_readDigits_75 (by decide) (fun z1 => ?_) (fun z1 => ?_)
  · have h := ob_t h z1
    refine lv_iconst (v := 1) hx hb dX12_readDigits_82 (by decide) ?_
    exact w_X12_readDigits_83 l C0 n0 ih0 v1 s0 v3 1 (gi S 136 51) S h hP hS (lv_sub hl [1, 2, 0, 3] rfl)
  · have h := ob_f h z1
    refine lv_iconst (v := 0) hx hb dX12_readDigits_78 (by decide) ?_
    refine lv_goto (tgt := 83) hx hb dX12_readDigits_79 (by decide) ?_
    exact w_X12_readDigits_83 l C0 n0 ih0 v1 s0 v3 0 (gi S 136 51) S h hP hS (lv_sub hl [1, 2, 0, 3] rfl)
set_option maxRecDepth 100000 in
set_option maxHeartbeats 4000000 in
theorem w_X12_readDigits_39 (l : Launch) {V : Int32 × St} (C0 : XC D ct p s m args meth c cX12_readDigits 4 (some .int) RX12) (n0 : Nat) (ih0 : ∀ (v1 : Int32) (v2 : Int32) (v3 : Int32) (S : St) (H : Heap) (locs : List Loc) (ls : Array Slot), (lp n0 (l_X12_readDigits_4) (v1, v2, v3, S)).bind some = some V → MP D ct B Hb S H → va_S (AB B) s.heap H locs → lv_has ls 4 [(0, .ref (B + 136)), (1, .int v1), (2, .int v2), (3, .int v3)] → W p l e { frames := 1, cells := 0, slots := 0, locals := 25 } s m args below meth c H locs 0 0 (MQ below (qIw D ct B Hb V) args s 0 0 (AB B)) (F0 m 4 ls [])) (v1 : Int32) (v2 : Int32) (v3 : Int32) (s0 : Int32) (S : St) {H : Heap} {locs : List Loc} {ls : Array Slot} (h : (b_X12_readDigits_39 v1 v2 v3 s0 S).bind (lpF n0 (l_X12_readDigits_4) some) = some V) (hP : MP D ct B Hb S H) (hS : va_S (AB B) s.heap H locs) (hl : lv_has ls 4 [(0, .ref (B + 136)), (1, .int v1), (2, .int v2), (3, .int v3)]) : W p l e { frames := 1, cells := 0, slots := 0, locals := 25 } s m args below meth c H locs 0 0 (MQ below (qIw D ct B Hb V) args s 0 0 (AB B)) (F0 m 39 ls [.int s0, .ref (B + 136)]) := by
  obtain ⟨hx, hb, hr, hml, hown, hts, hK, hlocks, hN⟩ := id C0
  unfold b_X12_readDigits_39 at h
  obtain ⟨g2, h⟩ := ob_gd h
  obtain ⟨S1, eS1, h⟩ := ob_nm h
  refine x_put (S' := si S 136 52 s0) (FS := (fs12 B)) C0 hP hS (fun S => lay_X12 B ct S) rfl inG12 tyX12 tyX12_ok nmX12 52 (by decide) wd_1193 rfl rfl (fun a ha => lay_local (gi_si_n _ _ _ ha) rfl rfl rfl) (put_12_52 B _ _) (bool_n g2) (bool_f g2) (Nat.le_of_ble_eq_true rfl) dX12_readDigits_39 (fun H locs hP hS => ?_)
  rw [← eS1] at hP
  refine lv_aload_n hx hb dX12_readDigits_42 rfl (lv_at hl 0 rfl) ?_
  refine x_get C0 hP (lay_X12 B ct S1) rfl inG12 52 (by decide) wd_1193 (fun _ h => h) rfl dX12_readDigits_43 ?_
  refine lv_if_eq (tgt := 53) hx hb dX12_readDigits_46 (by decide) (fun z3 => ?_) (fun z3 => ?_)
  · have h := ob_t h z3
    refine lv_bipush (v := 10) hx hb dX12_readDigits_53 (by decide) ?_
    refine lv_iload_n hx hb dX12_readDigits_55 rfl (lv_at hl 2 rfl) ?_
    refine lv_imul hx hb dX12_readDigits_56 ?_
    refine lv_aload_n hx hb dX12_readDigits_57 rfl (lv_at hl 0 rfl) ?_
    obtain ⟨r4, hr4, h⟩ := ob_bd h
    refine n_I (kV (As := []) C0 (c_X12_here l hr4) ⟨wd_1378, wd_1375, wd_1377, wp_24, wd_6⟩ kd_X12_here ⟨Nat.le_of_ble_eq_true rfl, Nat.le_of_ble_eq_true rfl⟩ hP (lay_X12 B ct S1) rfl rfl hl.1 rfl (Nat.le_of_ble_eq_true rfl) dX12_readDigits_58 ⟨Nat.le_of_ble_eq_true rfl, Nat.le_of_ble_eq_true rfl⟩) hS (fun H locs hP hS => ?_)
    refine lv_iadd hx hb dX12_readDigits_61 ?_
    refine lv_bipush (v := 48) hx hb dX12_readDigits_62 (by decide) ?_
    refine lv_isub hx hb dX12_readDigits_64 ?_
    exact w_X12_readDigits_65 l C0 n0 ih0 v1 v3 (((10 * v2) + r4) - 48) S1 h hP hS (lv_sub hl [0, 1, 3] rfl)
  · have h := ob_f h z3
    refine lv_iconst (v := 0) hx hb dX12_readDigits_49 (by decide) ?_
    refine lv_goto (tgt := 65) hx hb dX12_readDigits_50 (by decide) ?_
    exact w_X12_readDigits_65 l C0 n0 ih0 v1 v3 0 S1 h hP hS (lv_sub hl [0, 1, 3] rfl)
set_option maxRecDepth 100000 in
set_option maxHeartbeats 4000000 in
theorem w_X12_readDigits_34 (l : Launch) {V : Int32 × St} (C0 : XC D ct p s m args meth c cX12_readDigits 4 (some .int) RX12) (n0 : Nat) (ih0 : ∀ (v1 : Int32) (v2 : Int32) (v3 : Int32) (S : St) (H : Heap) (locs : List Loc) (ls : Array Slot), (lp n0 (l_X12_readDigits_4) (v1, v2, v3, S)).bind some = some V → MP D ct B Hb S H → va_S (AB B) s.heap H locs → lv_has ls 4 [(0, .ref (B + 136)), (1, .int v1), (2, .int v2), (3, .int v3)] → W p l e { frames := 1, cells := 0, slots := 0, locals := 25 } s m args below meth c H locs 0 0 (MQ below (qIw D ct B Hb V) args s 0 0 (AB B)) (F0 m 4 ls [])) (v1 : Int32) (v2 : Int32) (v3 : Int32) (S : St) {H : Heap} {locs : List Loc} {ls : Array Slot} (h : (b_X12_readDigits_34 v1 v2 v3 S).bind (lpF n0 (l_X12_readDigits_4) some) = some V) (hP : MP D ct B Hb S H) (hS : va_S (AB B) s.heap H locs) (hl : lv_has ls 4 [(0, .ref (B + 136)), (1, .int v1), (2, .int v2), (3, .int v3)]) : W p l e { frames := 1, cells := 0, slots := 0, locals := 25 } s m args below meth c H locs 0 0 (MQ below (qIw D ct B Hb V) args s 0 0 (AB B)) (F0 m 34 ls [.ref (B + 136)]) := by
  obtain ⟨hx, hb, hr, hml, hown, hts, hK, hlocks, hN⟩ := id C0
  unfold b_X12_readDigits_34 at h
  refine lv_iconst (v := 1) hx hb dX12_readDigits_34 (by decide) ?_
  refine lv_goto (tgt := 39) hx hb dX12_readDigits_35 (by decide) ?_
  exact w_X12_readDigits_39 l C0 n0 ih0 v1 v2 v3 1 S h hP hS (lv_sub hl [0, 1, 2, 3] rfl)
set_option maxRecDepth 100000 in
set_option maxHeartbeats 4000000 in
theorem w_X12_readDigits_4 (l : Launch) {V : Int32 × St} (C0 : XC D ct p s m args meth c cX12_readDigits 4 (some .int) RX12) (n0 : Nat) (ih0 : ∀ (v1 : Int32) (v2 : Int32) (v3 : Int32) (S : St) (H : Heap) (locs : List Loc) (ls : Array Slot), (lp n0 (l_X12_readDigits_4) (v1, v2, v3, S)).bind some = some V → MP D ct B Hb S H → va_S (AB B) s.heap H locs → lv_has ls 4 [(0, .ref (B + 136)), (1, .int v1), (2, .int v2), (3, .int v3)] → W p l e { frames := 1, cells := 0, slots := 0, locals := 25 } s m args below meth c H locs 0 0 (MQ below (qIw D ct B Hb V) args s 0 0 (AB B)) (F0 m 4 ls [])) (v1 : Int32) (v2 : Int32) (v3 : Int32) (S : St) {H : Heap} {locs : List Loc} {ls : Array Slot} (h : (b_X12_readDigits_4 v1 v2 v3 S).bind (lpF n0 (l_X12_readDigits_4) some) = some V) (hP : MP D ct B Hb S H) (hS : va_S (AB B) s.heap H locs) (hl : lv_has ls 4 [(0, .ref (B + 136)), (1, .int v1), (2, .int v2), (3, .int v3)]) : W p l e { frames := 1, cells := 0, slots := 0, locals := 25 } s m args below meth c H locs 0 0 (MQ below (qIw D ct B Hb V) args s 0 0 (AB B)) (F0 m 4 ls []) := by
  obtain ⟨hx, hb, hr, hml, hown, hts, hK, hlocks, hN⟩ := id C0
  unfold b_X12_readDigits_4 at h
  refine lv_iload_n hx hb dX12_readDigits_4 rfl (lv_at hl 3 rfl) ?_
  refine lv_iload_n hx hb dX12_readDigits_5 rfl (lv_at hl 1 rfl) ?_
  refine lv_icmp_ge (tgt := 93) hx hb dX12_readDigits_6 (by decide) (fun z1 => ?_) (fun z1 => ?_)
  · have h := ob_t h z1
    refine lv_iload_n hx hb dX12_readDigits_93 rfl (lv_at hl 2 rfl) ?_
    exact r_Iw C0 hP hS h dX12_readDigits_94
  · have h := ob_f h z1
    refine lv_aload_n hx hb dX12_readDigits_9 rfl (lv_at hl 0 rfl) ?_
    refine lv_aload_n hx hb dX12_readDigits_10 rfl (lv_at hl 0 rfl) ?_
    refine x_get C0 hP (lay_X12 B ct S) rfl inG12 52 (by decide) wd_1193 (fun _ h => h) rfl dX12_readDigits_11 ?_
    refine lv_if_ne (tgt := 34) hx hb dX12_readDigits_14 (by decide) (fun z2 => ?_) (fun z2 => ?_)
    · have h := ob_f h z2
      exact w_X12_readDigits_34 l C0 n0 ih0 v1 v2 v3 S h hP hS (lv_sub hl [0, 1, 2, 3] rfl)
    · have h := ob_t h z2
      refine lv_aload_n hx hb dX12_readDigits_17 rfl (lv_at hl 0 rfl) ?_
      obtain ⟨r3, hr3, h⟩ := ob_bd h
      refine n_I (kV (As := []) C0 (c_X12_here l hr3) ⟨wd_1378, wd_1375, wd_1377, wp_24, wd_6⟩ kd_X12_here ⟨Nat.le_of_ble_eq_true rfl, Nat.le_of_ble_eq_true rfl⟩ hP (lay_X12 B ct S) rfl rfl hl.1 rfl (Nat.le_of_ble_eq_true rfl) dX12_readDigits_18 ⟨Nat.le_of_ble_eq_true rfl, Nat.le_of_ble_eq_true rfl⟩) hS (fun H locs hP hS => ?_)
      refine lv_i2l hx hb dX12_readDigits_21 rfl ?_
      refine lv_ldc2 (v := 48) hx hb hown (hts _ wd_1390) dX12_readDigits_22 ?_
      refine lv_ldc2 (v := 57) hx hb hown (hts _ wd_1391) dX12_readDigits_25 ?_
      obtain ⟨r4, hr4, h⟩ := ob_bd h
      refine n_I (kS (As := [.long r3.toInt64, .long 48, .long 57]) C0 (c_X12_in l r3.toInt64 48 57 hr4) ⟨wd_1370, wd_1368, wd_1369, wd_6⟩ kd_X12_in ⟨Nat.le_of_ble_eq_true rfl, Nat.le_of_ble_eq_true rfl⟩ hP rfl hl.1 rfl (Nat.le_of_ble_eq_true rfl) dX12_readDigits_28 ⟨Nat.le_of_ble_eq_true rfl, Nat.le_of_ble_eq_true rfl⟩) hS (fun H locs hP hS => ?_)
      refine lv_if_ne (tgt := 38) hx hb dX12_readDigits_31 (by decide) (fun z5 => ?_) (fun z5 => ?_)
      · have h := ob_f h z5
        refine lv_iconst (v := 0) hx hb dX12_readDigits_38 (by decide) ?_
        exact w_X12_readDigits_39 l C0 n0 ih0 v1 v2 v3 0 S h hP hS (lv_sub hl [0, 1, 2, 3] rfl)
      · have h := ob_t h z5
        exact w_X12_readDigits_34 l C0 n0 ih0 v1 v2 v3 S h hP hS (lv_sub hl [0, 1, 2, 3] rfl)
set_option maxRecDepth 100000 in
set_option maxHeartbeats 4000000 in
theorem wl_X12_readDigits_4 (l : Launch) {V : Int32 × St} (C0 : XC D ct p s m args meth c cX12_readDigits 4 (some .int) RX12)  : ∀ (n0 : Nat) (v1 : Int32) (v2 : Int32) (v3 : Int32) (S : St) {H : Heap} {locs : List Loc} {ls : Array Slot}, (lp n0 (l_X12_readDigits_4) (v1, v2, v3, S)).bind some = some V → MP D ct B Hb S H → va_S (AB B) s.heap H locs → lv_has ls 4 [(0, .ref (B + 136)), (1, .int v1), (2, .int v2), (3, .int v3)] → W p l e { frames := 1, cells := 0, slots := 0, locals := 25 } s m args below meth c H locs 0 0 (MQ below (qIw D ct B Hb V) args s 0 0 (AB B)) (F0 m 4 ls []) := by
  intro n0
  induction n0 with
  | zero =>
    intro v1 v2 v3 S H locs ls h hP hS hl
    exact (lp_0 h).elim
  | succ n0 ih0 =>
    intro v1 v2 v3 S H locs ls h hP hS hl
    have h := lp_s h
    exact w_X12_readDigits_4 l C0 n0 (fun v1 v2 v3 S H locs ls h hP hS hl => ih0 v1 v2 v3 S h hP hS hl) v1 v2 v3 S h hP hS hl
set_option maxRecDepth 100000 in
set_option maxHeartbeats 4000000 in
theorem w_X12_readDigits_0 (l : Launch) {V : Int32 × St} (C0 : XC D ct p s m args meth c cX12_readDigits 4 (some .int) RX12) (v1 : Int32) (S : St) {H : Heap} {locs : List Loc} {ls : Array Slot} (h : (b_X12_readDigits_0 v1 S).bind some = some V) (hP : MP D ct B Hb S H) (hS : va_S (AB B) s.heap H locs) (hl : lv_has ls 4 [(0, .ref (B + 136)), (1, .int v1)]) : W p l e { frames := 1, cells := 0, slots := 0, locals := 25 } s m args below meth c H locs 0 0 (MQ below (qIw D ct B Hb V) args s 0 0 (AB B)) (F0 m 0 ls []) := by
  obtain ⟨hx, hb, hr, hml, hown, hts, hK, hlocks, hN⟩ := id C0
  unfold b_X12_readDigits_0 at h
  refine lv_iconst (v := 0) hx hb dX12_readDigits_0 (by decide) ?_
  refine lv_istore_n (lv' := [(2, .int 0), (0, .ref (B + 136)), (1, .int v1)]) hx hb dX12_readDigits_1 rfl hl (by decide) rfl (fun ls hl => ?_)
  refine lv_iconst (v := 0) hx hb dX12_readDigits_2 (by decide) ?_
  refine lv_istore_n (lv' := [(3, .int 0), (2, .int 0), (0, .ref (B + 136)), (1, .int v1)]) hx hb dX12_readDigits_3 rfl hl (by decide) rfl (fun ls hl => ?_)
  exact wl_X12_readDigits_4 l C0 1000 v1 0 0 S h hP hS (lv_sub hl [2, 3, 1, 0] rfl)
set_option maxRecDepth 100000 in
set_option maxHeartbeats 4000000 in
theorem c_X12_readDigits (l : Launch) (a1 : Int32) {D : va_G} {ct : Nat → ClassId} {B : Nat} {Hb : Heap} {S : St} {V : Int32 × St} (h : L_X12_readDigits a1 S = some V) : Met l yX12_readDigits (Cond.code yX12_readDigits cX12_readDigits 4 (some .int) :: tG) { frames := 1, cells := 0, slots := 0, locals := 25 } (va_Pc [.ref (B + 136), .int a1] (MPK D ct B Hb S)) (qIw D ct B Hb V) 0 0 (AB B) := by
  refine mk_met (by decide +kernel) (Nat.le_of_ble_eq_true rfl) (fun p e s m args below meth c ls C0 hP hl _ => ?_)
  have h := ob_of h
  exact w_X12_readDigits_0 l C0 a1 S h hP va_S.rf (lv_sub hl [0, 1] rfl)
set_option maxRecDepth 100000 in
set_option maxHeartbeats 4000000 in
theorem w_X12_readSign_50 (l : Launch) {V : Int32 × St} (C0 : XC D ct p s m args meth c cX12_readSign 2 (some .int) RX12) (v1 : Int32) (s0 : Int32) (s1 : Int32) (S : St) {H : Heap} {locs : List Loc} {ls : Array Slot} (h : (b_X12_readSign_50 v1 s0 s1 S).bind some = some V) (hP : MP D ct B Hb S H) (hS : va_S (AB B) s.heap H locs) (hl : lv_has ls 2 [(1, .int v1)]) : W p l e { frames := 1, cells := 0, slots := 0, locals := 20 } s m args below meth c H locs 0 0 (MQ below (qIw D ct B Hb V) args s 0 0 (AB B)) (F0 m 50 ls [.int s0, .int s1, .ref (B + 136)]) := by
  obtain ⟨hx, hb, hr, hml, hown, hts, hK, hlocks, hN⟩ := id C0
  unfold b_X12_readSign_50 at h
  refine lv_iadd hx hb dX12_readSign_50 ?_
  obtain ⟨S1, eS1, h⟩ := ob_nm h
  refine x_put (S' := si S 136 51 (s1 + s0)) (FS := (fs12 B)) C0 hP hS (fun S => lay_X12 B ct S) rfl inG12 tyX12 tyX12_ok nmX12 51 (by decide) wd_1192 rfl rfl (fun a ha => lay_local (gi_si_n _ _ _ ha) rfl rfl rfl) (put_12_51 B _ _) rfl rfl (Nat.le_of_ble_eq_true rfl) dX12_readSign_51 (fun H locs hP hS => ?_)
  rw [← eS1] at hP
  refine lv_iload_n hx hb dX12_readSign_54 rfl (lv_at hl 0 rfl) ?_
  refine lv_bipush (v := 45) hx hb dX12_readSign_55 (by decide) ?_
  refine lv_icmp_ne (tgt := 64) hx hb dX12_readSign_57 (by decide) (fun z2 => ?_) (fun z2 => ?_)
  · have h := ob_f h z2
    refine lv_iconst (v := 1) hx hb dX12_readSign_64 (by decide) ?_
    exact r_Iw C0 hP hS h dX12_readSign_65
  · have h := ob_t h z2
    refine lv_iconst (v := (-1)) hx hb dX12_readSign_60 (by decide) ?_
    refine lv_goto (tgt := 65) hx hb dX12_readSign_61 (by decide) ?_
    exact r_Iw C0 hP hS h dX12_readSign_65
set_option maxRecDepth 100000 in
set_option maxHeartbeats 4000000 in
theorem w_X12_readSign_30 (l : Launch) {V : Int32 × St} (C0 : XC D ct p s m args meth c cX12_readSign 2 (some .int) RX12) (v1 : Int32) (s0 : Int32) (S : St) {H : Heap} {locs : List Loc} {ls : Array Slot} (h : (b_X12_readSign_30 v1 s0 S).bind some = some V) (hP : MP D ct B Hb S H) (hS : va_S (AB B) s.heap H locs) (hl : lv_has ls 2 [(0, .ref (B + 136)), (1, .int v1)]) : W p l e { frames := 1, cells := 0, slots := 0, locals := 20 } s m args below meth c H locs 0 0 (MQ below (qIw D ct B Hb V) args s 0 0 (AB B)) (F0 m 30 ls [.int s0, .ref (B + 136)]) := by
  obtain ⟨hx, hb, hr, hml, hown, hts, hK, hlocks, hN⟩ := id C0
  unfold b_X12_readSign_30 at h
  obtain ⟨g2, h⟩ := ob_gd h
  obtain ⟨S1, eS1, h⟩ := ob_nm h
  refine x_put (S' := si S 136 52 s0) (FS := (fs12 B)) C0 hP hS (fun S => lay_X12 B ct S) rfl inG12 tyX12 tyX12_ok nmX12 52 (by decide) wd_1193 rfl rfl (fun a ha => lay_local (gi_si_n _ _ _ ha) rfl rfl rfl) (put_12_52 B _ _) (bool_n g2) (bool_f g2) (Nat.le_of_ble_eq_true rfl) dX12_readSign_30 (fun H locs hP hS => ?_)
  rw [← eS1] at hP
  refine lv_aload_n hx hb dX12_readSign_33 rfl (lv_at hl 0 rfl) ?_
  refine lv_dup hx hb dX12_readSign_34 rfl ?_
  refine x_get C0 hP (lay_X12 B ct S1) rfl inG12 51 (by decide) wd_1192 (fun _ h => h) rfl dX12_readSign_35 ?_
  refine lv_aload_n hx hb dX12_readSign_38 rfl (lv_at hl 0 rfl) ?_
  refine x_get C0 hP (lay_X12 B ct S1) rfl inG12 52 (by decide) wd_1193 (fun _ h => h) rfl dX12_readSign_39 ?_
  refine lv_if_eq (tgt := 49) hx hb dX12_readSign_42 (by decide) (fun z3 => ?_) (fun z3 => ?_)
  · have h := ob_t h z3
    refine lv_iconst (v := 1) hx hb dX12_readSign_49 (by decide) ?_
    exact w_X12_readSign_50 l C0 v1 1 (gi S1 136 51) S1 h hP hS (lv_sub hl [1] rfl)
  · have h := ob_f h z3
    refine lv_iconst (v := 0) hx hb dX12_readSign_45 (by decide) ?_
    refine lv_goto (tgt := 50) hx hb dX12_readSign_46 (by decide) ?_
    exact w_X12_readSign_50 l C0 v1 0 (gi S1 136 51) S1 h hP hS (lv_sub hl [1] rfl)
set_option maxRecDepth 100000 in
set_option maxHeartbeats 4000000 in
theorem w_X12_readSign_25 (l : Launch) {V : Int32 × St} (C0 : XC D ct p s m args meth c cX12_readSign 2 (some .int) RX12) (v1 : Int32) (S : St) {H : Heap} {locs : List Loc} {ls : Array Slot} (h : (b_X12_readSign_25 v1 S).bind some = some V) (hP : MP D ct B Hb S H) (hS : va_S (AB B) s.heap H locs) (hl : lv_has ls 2 [(0, .ref (B + 136)), (1, .int v1)]) : W p l e { frames := 1, cells := 0, slots := 0, locals := 20 } s m args below meth c H locs 0 0 (MQ below (qIw D ct B Hb V) args s 0 0 (AB B)) (F0 m 25 ls [.ref (B + 136)]) := by
  obtain ⟨hx, hb, hr, hml, hown, hts, hK, hlocks, hN⟩ := id C0
  unfold b_X12_readSign_25 at h
  refine lv_iconst (v := 1) hx hb dX12_readSign_25 (by decide) ?_
  refine lv_goto (tgt := 30) hx hb dX12_readSign_26 (by decide) ?_
  exact w_X12_readSign_30 l C0 v1 1 S h hP hS (lv_sub hl [0, 1] rfl)
set_option maxRecDepth 100000 in
set_option maxHeartbeats 4000000 in
theorem w_X12_readSign_29 (l : Launch) {V : Int32 × St} (C0 : XC D ct p s m args meth c cX12_readSign 2 (some .int) RX12) (v1 : Int32) (S : St) {H : Heap} {locs : List Loc} {ls : Array Slot} (h : (b_X12_readSign_29 v1 S).bind some = some V) (hP : MP D ct B Hb S H) (hS : va_S (AB B) s.heap H locs) (hl : lv_has ls 2 [(0, .ref (B + 136)), (1, .int v1)]) : W p l e { frames := 1, cells := 0, slots := 0, locals := 20 } s m args below meth c H locs 0 0 (MQ below (qIw D ct B Hb V) args s 0 0 (AB B)) (F0 m 29 ls [.ref (B + 136)]) := by
  obtain ⟨hx, hb, hr, hml, hown, hts, hK, hlocks, hN⟩ := id C0
  unfold b_X12_readSign_29 at h
  refine lv_iconst (v := 0) hx hb dX12_readSign_29 (by decide) ?_
  exact w_X12_readSign_30 l C0 v1 0 S h hP hS (lv_sub hl [0, 1] rfl)
set_option maxRecDepth 100000 in
set_option maxHeartbeats 4000000 in
theorem w_X12_readSign_0 (l : Launch) {V : Int32 × St} (C0 : XC D ct p s m args meth c cX12_readSign 2 (some .int) RX12) (S : St) {H : Heap} {locs : List Loc} {ls : Array Slot} (h : (b_X12_readSign_0 S).bind some = some V) (hP : MP D ct B Hb S H) (hS : va_S (AB B) s.heap H locs) (hl : lv_has ls 2 [(0, .ref (B + 136))]) : W p l e { frames := 1, cells := 0, slots := 0, locals := 20 } s m args below meth c H locs 0 0 (MQ below (qIw D ct B Hb V) args s 0 0 (AB B)) (F0 m 0 ls []) := by
  obtain ⟨hx, hb, hr, hml, hown, hts, hK, hlocks, hN⟩ := id C0
  unfold b_X12_readSign_0 at h
  refine lv_aload_n hx hb dX12_readSign_0 rfl (lv_at hl 0 rfl) ?_
  obtain ⟨r1, hr1, h⟩ := ob_bd h
  refine n_I (kV (As := []) C0 (c_X12_here l hr1) ⟨wd_1378, wd_1375, wd_1377, wp_24, wd_6⟩ kd_X12_here ⟨Nat.le_of_ble_eq_true rfl, Nat.le_of_ble_eq_true rfl⟩ hP (lay_X12 B ct S) rfl rfl hl.1 rfl (Nat.le_of_ble_eq_true rfl) dX12_readSign_1 ⟨Nat.le_of_ble_eq_true rfl, Nat.le_of_ble_eq_true rfl⟩) hS (fun H locs hP hS => ?_)
  refine lv_istore_n (lv' := [(1, .int r1), (0, .ref (B + 136))]) hx hb dX12_readSign_4 rfl hl (by decide) rfl (fun ls hl => ?_)
  refine lv_aload_n hx hb dX12_readSign_5 rfl (lv_at hl 1 rfl) ?_
  refine lv_aload_n hx hb dX12_readSign_6 rfl (lv_at hl 1 rfl) ?_
  refine x_get C0 hP (lay_X12 B ct S) rfl inG12 52 (by decide) wd_1193 (fun _ h => h) rfl dX12_readSign_7 ?_
  refine lv_if_ne (tgt := 25) hx hb dX12_readSign_10 (by decide) (fun z2 => ?_) (fun z2 => ?_)
  · have h := ob_f h z2
    exact w_X12_readSign_25 l C0 r1 S h hP hS (lv_sub hl [1, 0] rfl)
  · have h := ob_t h z2
    refine lv_iload_n hx hb dX12_readSign_13 rfl (lv_at hl 0 rfl) ?_
    refine lv_bipush (v := 43) hx hb dX12_readSign_14 (by decide) ?_
    refine lv_icmp_eq (tgt := 29) hx hb dX12_readSign_16 (by decide) (fun z3 => ?_) (fun z3 => ?_)
    · have h := ob_t h z3
      exact w_X12_readSign_29 l C0 r1 S h hP hS (lv_sub hl [1, 0] rfl)
    · have h := ob_f h z3
      refine lv_iload_n hx hb dX12_readSign_19 rfl (lv_at hl 0 rfl) ?_
      refine lv_bipush (v := 45) hx hb dX12_readSign_20 (by decide) ?_
      refine lv_icmp_eq (tgt := 29) hx hb dX12_readSign_22 (by decide) (fun z4 => ?_) (fun z4 => ?_)
      · have h := ob_t h z4
        exact w_X12_readSign_29 l C0 r1 S h hP hS (lv_sub hl [1, 0] rfl)
      · have h := ob_f h z4
        exact w_X12_readSign_25 l C0 r1 S h hP hS (lv_sub hl [1, 0] rfl)
set_option maxRecDepth 100000 in
set_option maxHeartbeats 4000000 in
theorem c_X12_readSign (l : Launch) {D : va_G} {ct : Nat → ClassId} {B : Nat} {Hb : Heap} {S : St} {V : Int32 × St} (h : L_X12_readSign S = some V) : Met l yX12_readSign (Cond.code yX12_readSign cX12_readSign 2 (some .int) :: tG) { frames := 1, cells := 0, slots := 0, locals := 20 } (va_Pc [.ref (B + 136)] (MPK D ct B Hb S)) (qIw D ct B Hb V) 0 0 (AB B) := by
  refine mk_met (by decide +kernel) (Nat.le_of_ble_eq_true rfl) (fun p e s m args below meth c ls C0 hP hl _ => ?_)
  have h := ob_of h
  exact w_X12_readSign_0 l C0 S h hP va_S.rf (lv_sub hl [0] rfl)
set_option maxRecDepth 100000 in
set_option maxHeartbeats 4000000 in
theorem w_X12_isLetter_42 (l : Launch) {V : Int32} (C0 : XC D ct p s m args meth c cX12_isLetter 1 (some .boolean) RX12) (S : St) {H : Heap} {locs : List Loc} {ls : Array Slot} (h : (b_X12_isLetter_42 S).bind some = some V) (hP : MP D ct B Hb S H) (hS : va_S (AB B) s.heap H locs) (hl : lv_has ls 1 []) : W p l e { frames := 0, cells := 0, slots := 0, locals := 0 } s m args below meth c H locs 0 0 (MQ below (qI D ct B Hb S V) args s 0 0 (AB B)) (F0 m 42 ls []) := by
  obtain ⟨hx, hb, hr, hml, hown, hts, hK, hlocks, hN⟩ := id C0
  unfold b_X12_isLetter_42 at h
  refine lv_iconst (v := 1) hx hb dX12_isLetter_42 (by decide) ?_
  refine lv_goto (tgt := 47) hx hb dX12_isLetter_43 (by decide) ?_
  exact r_Z C0 hP hS bool_1 h dX12_isLetter_47
set_option maxRecDepth 100000 in
set_option maxHeartbeats 4000000 in
theorem w_X12_isLetter_0 (l : Launch) {V : Int32} (C0 : XC D ct p s m args meth c cX12_isLetter 1 (some .boolean) RX12) (v0 : Int32) (S : St) {H : Heap} {locs : List Loc} {ls : Array Slot} (h : (b_X12_isLetter_0 v0 S).bind some = some V) (hP : MP D ct B Hb S H) (hS : va_S (AB B) s.heap H locs) (hl : lv_has ls 1 [(0, .int v0)]) : W p l e { frames := 0, cells := 0, slots := 0, locals := 0 } s m args below meth c H locs 0 0 (MQ below (qI D ct B Hb S V) args s 0 0 (AB B)) (F0 m 0 ls []) := by
  obtain ⟨hx, hb, hr, hml, hown, hts, hK, hlocks, hN⟩ := id C0
  unfold b_X12_isLetter_0 at h
  refine lv_iload_n hx hb dX12_isLetter_0 rfl (lv_at hl 0 rfl) ?_
  refine lv_bipush (v := 102) hx hb dX12_isLetter_1 (by decide) ?_
  refine lv_icmp_eq (tgt := 42) hx hb dX12_isLetter_3 (by decide) (fun z1 => ?_) (fun z1 => ?_)
  · have h := ob_t h z1
    exact w_X12_isLetter_42 l C0 S h hP hS (lv_sub hl [] rfl)
  · have h := ob_f h z1
    refine lv_iload_n hx hb dX12_isLetter_6 rfl (lv_at hl 0 rfl) ?_
    refine lv_bipush (v := 112) hx hb dX12_isLetter_7 (by decide) ?_
    refine lv_icmp_eq (tgt := 42) hx hb dX12_isLetter_9 (by decide) (fun z2 => ?_) (fun z2 => ?_)
    · have h := ob_t h z2
      exact w_X12_isLetter_42 l C0 S h hP hS (lv_sub hl [] rfl)
    · have h := ob_f h z2
      refine lv_iload_n hx hb dX12_isLetter_12 rfl (lv_at hl 0 rfl) ?_
      refine lv_bipush (v := 107) hx hb dX12_isLetter_13 (by decide) ?_
      refine lv_icmp_eq (tgt := 42) hx hb dX12_isLetter_15 (by decide) (fun z3 => ?_) (fun z3 => ?_)
      · have h := ob_t h z3
        exact w_X12_isLetter_42 l C0 S h hP hS (lv_sub hl [] rfl)
      · have h := ob_f h z3
        refine lv_iload_n hx hb dX12_isLetter_18 rfl (lv_at hl 0 rfl) ?_
        refine lv_bipush (v := 116) hx hb dX12_isLetter_19 (by decide) ?_
        refine lv_icmp_eq (tgt := 42) hx hb dX12_isLetter_21 (by decide) (fun z4 => ?_) (fun z4 => ?_)
        · have h := ob_t h z4
          exact w_X12_isLetter_42 l C0 S h hP hS (lv_sub hl [] rfl)
        · have h := ob_f h z4
          refine lv_iload_n hx hb dX12_isLetter_24 rfl (lv_at hl 0 rfl) ?_
          refine lv_bipush (v := 111) hx hb dX12_isLetter_25 (by decide) ?_
          refine lv_icmp_eq (tgt := 42) hx hb dX12_isLetter_27 (by decide) (fun z5 => ?_) (fun z5 => ?_)
          · have h := ob_t h z5
            exact w_X12_isLetter_42 l C0 S h hP hS (lv_sub hl [] rfl)
          · have h := ob_f h z5
            refine lv_iload_n hx hb dX12_isLetter_30 rfl (lv_at hl 0 rfl) ?_
            refine lv_bipush (v := 100) hx hb dX12_isLetter_31 (by decide) ?_
            refine lv_icmp_eq (tgt := 42) hx hb dX12_isLetter_33 (by decide) (fun z6 => ?_) (fun z6 => ?_)
            · have h := ob_t h z6
              exact w_X12_isLetter_42 l C0 S h hP hS (lv_sub hl [] rfl)
            · have h := ob_f h z6
              refine lv_iload_n hx hb dX12_isLetter_36 rfl (lv_at hl 0 rfl) ?_
              refine lv_bipush (v := 114) hx hb dX12_isLetter_37 (by decide) ?_
              refine lv_icmp_ne (tgt := 46) hx hb dX12_isLetter_39 (by decide) (fun z7 => ?_) (fun z7 => ?_)
              · have h := ob_f h z7
                refine lv_iconst (v := 0) hx hb dX12_isLetter_46 (by decide) ?_
                exact r_Z C0 hP hS bool_0 h dX12_isLetter_47
              · have h := ob_t h z7
                exact w_X12_isLetter_42 l C0 S h hP hS (lv_sub hl [] rfl)
set_option maxRecDepth 100000 in
set_option maxHeartbeats 4000000 in
theorem c_X12_isLetter (l : Launch) (a0 : Int32) {D : va_G} {ct : Nat → ClassId} {B : Nat} {Hb : Heap} {S : St} {V : Int32} (h : L_X12_isLetter a0 S = some V) : Met l yX12_isLetter (Cond.code yX12_isLetter cX12_isLetter 1 (some .boolean) :: tG) { frames := 0, cells := 0, slots := 0, locals := 0 } (va_Pc [.int a0] (MPK D ct B Hb S)) (qI D ct B Hb S V) 0 0 (AB B) := by
  refine mk_met (by decide +kernel) (Nat.le_of_ble_eq_true rfl) (fun p e s m args below meth c ls C0 hP hl _ => ?_)
  have h := ob_of h
  exact w_X12_isLetter_0 l C0 a0 S h hP va_S.rf (lv_sub hl [0] rfl)
end WALKS
