theorem dX12_mayBuy_0 : decode cX12_mayBuy 0 = .ok (.aload_n 0, 1) := by decide +kernel
theorem dX12_mayBuy_1 : decode cX12_mayBuy 1 = .ok (.getfield 210, 3) := by decide +kernel
theorem dX12_mayBuy_4 : decode cX12_mayBuy 4 = .ok (.ifCond .ne 48, 3) := by decide +kernel
theorem dX12_mayBuy_7 : decode cX12_mayBuy 7 = .ok (.aload_n 0, 1) := by decide +kernel
theorem dX12_mayBuy_8 : decode cX12_mayBuy 8 = .ok (.iload_n 2, 1) := by decide +kernel
theorem dX12_mayBuy_9 : decode cX12_mayBuy 9 = .ok (.iload_n 3, 1) := by decide +kernel
theorem dX12_mayBuy_10 : decode cX12_mayBuy 10 = .ok (.invokevirtual 214, 3) := by decide +kernel
theorem dX12_mayBuy_13 : decode cX12_mayBuy 13 = .ok (.ifCond .eq 39, 3) := by decide +kernel
theorem dX12_mayBuy_16 : decode cX12_mayBuy 16 = .ok (.aload_n 0, 1) := by decide +kernel
theorem dX12_mayBuy_17 : decode cX12_mayBuy 17 = .ok (.getfield 121, 3) := by decide +kernel
theorem dX12_mayBuy_20 : decode cX12_mayBuy 20 = .ok (.iload_n 2, 1) := by decide +kernel
theorem dX12_mayBuy_21 : decode cX12_mayBuy 21 = .ok (.iaload, 1) := by decide +kernel
theorem dX12_mayBuy_22 : decode cX12_mayBuy 22 = .ok (.ifCond .ge 30, 3) := by decide +kernel
theorem dX12_mayBuy_25 : decode cX12_mayBuy 25 = .ok (.iload_n 2, 1) := by decide +kernel
theorem dX12_mayBuy_26 : decode cX12_mayBuy 26 = .ok (.iload_n 1, 1) := by decide +kernel
theorem dX12_mayBuy_27 : decode cX12_mayBuy 27 = .ok (.if_icmp .eq 25, 3) := by decide +kernel
theorem dX12_mayBuy_30 : decode cX12_mayBuy 30 = .ok (.aload_n 0, 1) := by decide +kernel
theorem dX12_mayBuy_31 : decode cX12_mayBuy 31 = .ok (.getfield 7, 3) := by decide +kernel
theorem dX12_mayBuy_34 : decode cX12_mayBuy 34 = .ok (.iconst 4, 1) := by decide +kernel
theorem dX12_mayBuy_35 : decode cX12_mayBuy 35 = .ok (.aload_n 0, 1) := by decide +kernel
theorem dX12_mayBuy_36 : decode cX12_mayBuy 36 = .ok (.iload_n 2, 1) := by decide +kernel
theorem dX12_mayBuy_37 : decode cX12_mayBuy 37 = .ok (.invokevirtual 218, 3) := by decide +kernel
theorem dX12_mayBuy_40 : decode cX12_mayBuy 40 = .ok (.imul, 1) := by decide +kernel
theorem dX12_mayBuy_41 : decode cX12_mayBuy 41 = .ok (.aload_n 0, 1) := by decide +kernel
theorem dX12_mayBuy_42 : decode cX12_mayBuy 42 = .ok (.getfield 56, 3) := by decide +kernel
theorem dX12_mayBuy_45 : decode cX12_mayBuy 45 = .ok (.iload_n 1, 1) := by decide +kernel
theorem dX12_mayBuy_46 : decode cX12_mayBuy 46 = .ok (.iaload, 1) := by decide +kernel
theorem dX12_mayBuy_47 : decode cX12_mayBuy 47 = .ok (.iadd, 1) := by decide +kernel
theorem dX12_mayBuy_48 : decode cX12_mayBuy 48 = .ok (.iaload, 1) := by decide +kernel
theorem dX12_mayBuy_49 : decode cX12_mayBuy 49 = .ok (.ifCond .ne 5, 3) := by decide +kernel
theorem dX12_mayBuy_52 : decode cX12_mayBuy 52 = .ok (.iconst 0, 1) := by decide +kernel
theorem dX12_mayBuy_53 : decode cX12_mayBuy 53 = .ok (.ireturn, 1) := by decide +kernel
theorem dX12_mayBuy_54 : decode cX12_mayBuy 54 = .ok (.aload_n 0, 1) := by decide +kernel
theorem dX12_mayBuy_55 : decode cX12_mayBuy 55 = .ok (.iload_n 2, 1) := by decide +kernel
theorem dX12_mayBuy_56 : decode cX12_mayBuy 56 = .ok (.iload_n 3, 1) := by decide +kernel
theorem dX12_mayBuy_57 : decode cX12_mayBuy 57 = .ok (.invokevirtual 204, 3) := by decide +kernel
theorem dX12_mayBuy_60 : decode cX12_mayBuy 60 = .ok (.istore 5, 2) := by decide +kernel
theorem dX12_mayBuy_62 : decode cX12_mayBuy 62 = .ok (.iload 5, 2) := by decide +kernel
theorem dX12_mayBuy_64 : decode cX12_mayBuy 64 = .ok (.ifCond .le 34, 3) := by decide +kernel
theorem dX12_mayBuy_67 : decode cX12_mayBuy 67 = .ok (.aload_n 0, 1) := by decide +kernel
theorem dX12_mayBuy_68 : decode cX12_mayBuy 68 = .ok (.iload_n 1, 1) := by decide +kernel
theorem dX12_mayBuy_69 : decode cX12_mayBuy 69 = .ok (.iload 5, 2) := by decide +kernel
theorem dX12_mayBuy_71 : decode cX12_mayBuy 71 = .ok (.iload 4, 2) := by decide +kernel
theorem dX12_mayBuy_73 : decode cX12_mayBuy 73 = .ok (.invokevirtual 221, 3) := by decide +kernel
theorem dX12_mayBuy_76 : decode cX12_mayBuy 76 = .ok (.ifCond .eq 22, 3) := by decide +kernel
theorem dX12_mayBuy_79 : decode cX12_mayBuy 79 = .ok (.aload_n 0, 1) := by decide +kernel
theorem dX12_mayBuy_80 : decode cX12_mayBuy 80 = .ok (.iload_n 2, 1) := by decide +kernel
theorem dX12_mayBuy_81 : decode cX12_mayBuy 81 = .ok (.iload_n 3, 1) := by decide +kernel
theorem dX12_mayBuy_82 : decode cX12_mayBuy 82 = .ok (.invokevirtual 225, 3) := by decide +kernel
theorem dX12_mayBuy_85 : decode cX12_mayBuy 85 = .ok (.aload_n 0, 1) := by decide +kernel
theorem dX12_mayBuy_86 : decode cX12_mayBuy 86 = .ok (.getfield 106, 3) := by decide +kernel
theorem dX12_mayBuy_89 : decode cX12_mayBuy 89 = .ok (.iload_n 1, 1) := by decide +kernel
theorem dX12_mayBuy_90 : decode cX12_mayBuy 90 = .ok (.iaload, 1) := by decide +kernel
theorem dX12_mayBuy_91 : decode cX12_mayBuy 91 = .ok (.if_icmp .gt 7, 3) := by decide +kernel
theorem dX12_mayBuy_94 : decode cX12_mayBuy 94 = .ok (.iconst 1, 1) := by decide +kernel
theorem dX12_mayBuy_95 : decode cX12_mayBuy 95 = .ok (.goto 4, 3) := by decide +kernel
theorem dX12_mayBuy_98 : decode cX12_mayBuy 98 = .ok (.iconst 0, 1) := by decide +kernel
theorem dX12_mayBuy_99 : decode cX12_mayBuy 99 = .ok (.ireturn, 1) := by decide +kernel
theorem dX12_choose_0 : decode cX12_choose 0 = .ok (.aload_n 0, 1) := by decide +kernel
theorem dX12_choose_1 : decode cX12_choose 1 = .ok (.getfield 97, 3) := by decide +kernel
theorem dX12_choose_4 : decode cX12_choose 4 = .ok (.iload_n 1, 1) := by decide +kernel
theorem dX12_choose_5 : decode cX12_choose 5 = .ok (.aload_n 0, 1) := by decide +kernel
theorem dX12_choose_6 : decode cX12_choose 6 = .ok (.iload_n 1, 1) := by decide +kernel
theorem dX12_choose_7 : decode cX12_choose 7 = .ok (.aload_n 0, 1) := by decide +kernel
theorem dX12_choose_8 : decode cX12_choose 8 = .ok (.getfield 62, 3) := by decide +kernel
theorem dX12_choose_11 : decode cX12_choose 11 = .ok (.iload_n 1, 1) := by decide +kernel
theorem dX12_choose_12 : decode cX12_choose 12 = .ok (.iaload, 1) := by decide +kernel
theorem dX12_choose_13 : decode cX12_choose 13 = .ok (.aload_n 0, 1) := by decide +kernel
theorem dX12_choose_14 : decode cX12_choose 14 = .ok (.aload_n 0, 1) := by decide +kernel
theorem dX12_choose_15 : decode cX12_choose 15 = .ok (.getfield 56, 3) := by decide +kernel
theorem dX12_choose_18 : decode cX12_choose 18 = .ok (.iload_n 1, 1) := by decide +kernel
theorem dX12_choose_19 : decode cX12_choose 19 = .ok (.iaload, 1) := by decide +kernel
theorem dX12_choose_20 : decode cX12_choose 20 = .ok (.iload_n 2, 1) := by decide +kernel
theorem dX12_choose_21 : decode cX12_choose 21 = .ok (.invokevirtual 190, 3) := by decide +kernel
theorem dX12_choose_24 : decode cX12_choose 24 = .ok (.invokevirtual 194, 3) := by decide +kernel
theorem dX12_choose_27 : decode cX12_choose 27 = .ok (.iastore, 1) := by decide +kernel
theorem dX12_choose_28 : decode cX12_choose 28 = .ok (.aload_n 0, 1) := by decide +kernel
theorem dX12_choose_29 : decode cX12_choose 29 = .ok (.iload_n 1, 1) := by decide +kernel
theorem dX12_choose_30 : decode cX12_choose 30 = .ok (.aload_n 0, 1) := by decide +kernel
theorem dX12_choose_31 : decode cX12_choose 31 = .ok (.getfield 97, 3) := by decide +kernel
theorem dX12_choose_34 : decode cX12_choose 34 = .ok (.iload_n 1, 1) := by decide +kernel
theorem dX12_choose_35 : decode cX12_choose 35 = .ok (.iaload, 1) := by decide +kernel
theorem dX12_choose_36 : decode cX12_choose 36 = .ok (.invokevirtual 201, 3) := by decide +kernel
theorem dX12_choose_39 : decode cX12_choose 39 = .ok (.istore_n 3, 1) := by decide +kernel
theorem dX12_choose_40 : decode cX12_choose 40 = .ok (.bipush (-9), 2) := by decide +kernel
theorem dX12_choose_42 : decode cX12_choose 42 = .ok (.istore 4, 2) := by decide +kernel
theorem dX12_choose_44 : decode cX12_choose 44 = .ok (.iconst 0, 1) := by decide +kernel
theorem dX12_choose_45 : decode cX12_choose 45 = .ok (.istore 5, 2) := by decide +kernel
theorem dX12_choose_47 : decode cX12_choose 47 = .ok (.iload 5, 2) := by decide +kernel
theorem dX12_choose_49 : decode cX12_choose 49 = .ok (.bipush 11, 2) := by decide +kernel
theorem dX12_choose_51 : decode cX12_choose 51 = .ok (.if_icmp .ge 95, 3) := by decide +kernel
theorem dX12_choose_54 : decode cX12_choose 54 = .ok (.aload_n 0, 1) := by decide +kernel
theorem dX12_choose_55 : decode cX12_choose 55 = .ok (.iload_n 1, 1) := by decide +kernel
theorem dX12_choose_56 : decode cX12_choose 56 = .ok (.iload 5, 2) := by decide +kernel
theorem dX12_choose_58 : decode cX12_choose 58 = .ok (.iload_n 2, 1) := by decide +kernel
theorem dX12_choose_59 : decode cX12_choose 59 = .ok (.iload_n 3, 1) := by decide +kernel
theorem dX12_choose_60 : decode cX12_choose 60 = .ok (.invokevirtual 228, 3) := by decide +kernel
theorem dX12_choose_63 : decode cX12_choose 63 = .ok (.ifCond .eq 77, 3) := by decide +kernel
theorem dX12_choose_66 : decode cX12_choose 66 = .ok (.iload 4, 2) := by decide +kernel
theorem dX12_choose_68 : decode cX12_choose 68 = .ok (.ifCond .ge 7, 3) := by decide +kernel
theorem dX12_choose_71 : decode cX12_choose 71 = .ok (.iconst 1, 1) := by decide +kernel
theorem dX12_choose_72 : decode cX12_choose 72 = .ok (.goto 18, 3) := by decide +kernel
theorem dX12_choose_75 : decode cX12_choose 75 = .ok (.aload_n 0, 1) := by decide +kernel
theorem dX12_choose_76 : decode cX12_choose 76 = .ok (.iload 5, 2) := by decide +kernel
theorem dX12_choose_78 : decode cX12_choose 78 = .ok (.iload_n 2, 1) := by decide +kernel
theorem dX12_choose_79 : decode cX12_choose 79 = .ok (.invokevirtual 204, 3) := by decide +kernel
theorem dX12_choose_82 : decode cX12_choose 82 = .ok (.aload_n 0, 1) := by decide +kernel
theorem dX12_choose_83 : decode cX12_choose 83 = .ok (.iload 4, 2) := by decide +kernel
theorem dX12_choose_85 : decode cX12_choose 85 = .ok (.iload_n 2, 1) := by decide +kernel
theorem dX12_choose_86 : decode cX12_choose 86 = .ok (.invokevirtual 204, 3) := by decide +kernel
theorem dX12_choose_89 : decode cX12_choose 89 = .ok (.isub, 1) := by decide +kernel
theorem dX12_choose_90 : decode cX12_choose 90 = .ok (.istore 6, 2) := by decide +kernel
theorem dX12_choose_92 : decode cX12_choose 92 = .ok (.iload 6, 2) := by decide +kernel
theorem dX12_choose_94 : decode cX12_choose 94 = .ok (.ifCond .gt 25, 3) := by decide +kernel
theorem dX12_choose_97 : decode cX12_choose 97 = .ok (.iload 6, 2) := by decide +kernel
theorem dX12_choose_99 : decode cX12_choose 99 = .ok (.ifCond .ne 24, 3) := by decide +kernel
theorem dX12_choose_102 : decode cX12_choose 102 = .ok (.aload_n 0, 1) := by decide +kernel
theorem dX12_choose_103 : decode cX12_choose 103 = .ok (.iload 5, 2) := by decide +kernel
theorem dX12_choose_105 : decode cX12_choose 105 = .ok (.iload_n 2, 1) := by decide +kernel
theorem dX12_choose_106 : decode cX12_choose 106 = .ok (.invokevirtual 225, 3) := by decide +kernel
theorem dX12_choose_109 : decode cX12_choose 109 = .ok (.aload_n 0, 1) := by decide +kernel
theorem dX12_choose_110 : decode cX12_choose 110 = .ok (.iload 4, 2) := by decide +kernel
theorem dX12_choose_112 : decode cX12_choose 112 = .ok (.iload_n 2, 1) := by decide +kernel
theorem dX12_choose_113 : decode cX12_choose 113 = .ok (.invokevirtual 225, 3) := by decide +kernel
theorem dX12_choose_116 : decode cX12_choose 116 = .ok (.if_icmp .ge 7, 3) := by decide +kernel
theorem dX12_choose_119 : decode cX12_choose 119 = .ok (.iconst 1, 1) := by decide +kernel
theorem dX12_choose_120 : decode cX12_choose 120 = .ok (.goto 4, 3) := by decide +kernel
theorem dX12_choose_123 : decode cX12_choose 123 = .ok (.iconst 0, 1) := by decide +kernel
theorem dX12_choose_124 : decode cX12_choose 124 = .ok (.istore 7, 2) := by decide +kernel
theorem dX12_choose_126 : decode cX12_choose 126 = .ok (.iload 7, 2) := by decide +kernel
theorem dX12_choose_128 : decode cX12_choose 128 = .ok (.ifCond .eq 8, 3) := by decide +kernel
theorem dX12_choose_131 : decode cX12_choose 131 = .ok (.iload 5, 2) := by decide +kernel
theorem dX12_choose_133 : decode cX12_choose 133 = .ok (.goto 5, 3) := by decide +kernel
theorem dX12_choose_136 : decode cX12_choose 136 = .ok (.iload 4, 2) := by decide +kernel
theorem dX12_choose_138 : decode cX12_choose 138 = .ok (.istore 4, 2) := by decide +kernel
theorem dX12_choose_140 : decode cX12_choose 140 = .ok (.iinc 5 1, 3) := by decide +kernel
theorem dX12_choose_143 : decode cX12_choose 143 = .ok (.goto (-96), 3) := by decide +kernel
theorem dX12_choose_146 : decode cX12_choose 146 = .ok (.aload_n 0, 1) := by decide +kernel
theorem dX12_choose_147 : decode cX12_choose 147 = .ok (.getfield 90, 3) := by decide +kernel
theorem dX12_choose_150 : decode cX12_choose 150 = .ok (.iload_n 1, 1) := by decide +kernel
theorem dX12_choose_151 : decode cX12_choose 151 = .ok (.iconst 1, 1) := by decide +kernel
theorem dX12_choose_152 : decode cX12_choose 152 = .ok (.bastore, 1) := by decide +kernel
theorem dX12_choose_153 : decode cX12_choose 153 = .ok (.aload_n 0, 1) := by decide +kernel
theorem dX12_choose_154 : decode cX12_choose 154 = .ok (.getfield 94, 3) := by decide +kernel
theorem dX12_choose_157 : decode cX12_choose 157 = .ok (.iload_n 1, 1) := by decide +kernel
theorem dX12_choose_158 : decode cX12_choose 158 = .ok (.aload_n 0, 1) := by decide +kernel
theorem dX12_choose_159 : decode cX12_choose 159 = .ok (.getfield 97, 3) := by decide +kernel
theorem dX12_choose_162 : decode cX12_choose 162 = .ok (.iload_n 1, 1) := by decide +kernel
theorem dX12_choose_163 : decode cX12_choose 163 = .ok (.iaload, 1) := by decide +kernel
theorem dX12_choose_164 : decode cX12_choose 164 = .ok (.invokestatic 198, 3) := by decide +kernel
theorem dX12_choose_167 : decode cX12_choose 167 = .ok (.iastore, 1) := by decide +kernel
theorem dX12_choose_168 : decode cX12_choose 168 = .ok (.iload 4, 2) := by decide +kernel
theorem dX12_choose_170 : decode cX12_choose 170 = .ok (.ifCond .lt 91, 3) := by decide +kernel
theorem dX12_choose_173 : decode cX12_choose 173 = .ok (.aload_n 0, 1) := by decide +kernel
theorem dX12_choose_174 : decode cX12_choose 174 = .ok (.getfield 103, 3) := by decide +kernel
theorem dX12_choose_177 : decode cX12_choose 177 = .ok (.iload_n 1, 1) := by decide +kernel
theorem dX12_choose_178 : decode cX12_choose 178 = .ok (.aload_n 0, 1) := by decide +kernel
theorem dX12_choose_179 : decode cX12_choose 179 = .ok (.iload 4, 2) := by decide +kernel
theorem dX12_choose_181 : decode cX12_choose 181 = .ok (.iload_n 2, 1) := by decide +kernel
theorem dX12_choose_182 : decode cX12_choose 182 = .ok (.invokevirtual 225, 3) := by decide +kernel
theorem dX12_choose_185 : decode cX12_choose 185 = .ok (.iastore, 1) := by decide +kernel
theorem dX12_choose_186 : decode cX12_choose 186 = .ok (.aload_n 0, 1) := by decide +kernel
theorem dX12_choose_187 : decode cX12_choose 187 = .ok (.getfield 106, 3) := by decide +kernel
theorem dX12_choose_190 : decode cX12_choose 190 = .ok (.iload_n 1, 1) := by decide +kernel
theorem dX12_choose_191 : decode cX12_choose 191 = .ok (.dup2, 1) := by decide +kernel
theorem dX12_choose_192 : decode cX12_choose 192 = .ok (.iaload, 1) := by decide +kernel
theorem dX12_choose_193 : decode cX12_choose 193 = .ok (.aload_n 0, 1) := by decide +kernel
theorem dX12_choose_194 : decode cX12_choose 194 = .ok (.getfield 103, 3) := by decide +kernel
theorem dX12_choose_197 : decode cX12_choose 197 = .ok (.iload_n 1, 1) := by decide +kernel
theorem dX12_choose_198 : decode cX12_choose 198 = .ok (.iaload, 1) := by decide +kernel
theorem dX12_choose_199 : decode cX12_choose 199 = .ok (.isub, 1) := by decide +kernel
theorem dX12_choose_200 : decode cX12_choose 200 = .ok (.iastore, 1) := by decide +kernel
theorem dX12_choose_201 : decode cX12_choose 201 = .ok (.iload 4, 2) := by decide +kernel
theorem dX12_choose_203 : decode cX12_choose 203 = .ok (.bipush 8, 2) := by decide +kernel
theorem dX12_choose_205 : decode cX12_choose 205 = .ok (.if_icmp .ge 19, 3) := by decide +kernel
theorem dX12_choose_208 : decode cX12_choose 208 = .ok (.aload_n 0, 1) := by decide +kernel
theorem dX12_choose_209 : decode cX12_choose 209 = .ok (.getfield 106, 3) := by decide +kernel
theorem dX12_choose_212 : decode cX12_choose 212 = .ok (.iload 4, 2) := by decide +kernel
theorem dX12_choose_214 : decode cX12_choose 214 = .ok (.dup2, 1) := by decide +kernel
theorem dX12_choose_215 : decode cX12_choose 215 = .ok (.iaload, 1) := by decide +kernel
theorem dX12_choose_216 : decode cX12_choose 216 = .ok (.aload_n 0, 1) := by decide +kernel
theorem dX12_choose_217 : decode cX12_choose 217 = .ok (.getfield 103, 3) := by decide +kernel
theorem dX12_choose_220 : decode cX12_choose 220 = .ok (.iload_n 1, 1) := by decide +kernel
theorem dX12_choose_221 : decode cX12_choose 221 = .ok (.iaload, 1) := by decide +kernel
theorem dX12_choose_222 : decode cX12_choose 222 = .ok (.iadd, 1) := by decide +kernel
theorem dX12_choose_223 : decode cX12_choose 223 = .ok (.iastore, 1) := by decide +kernel
theorem dX12_choose_224 : decode cX12_choose 224 = .ok (.aload_n 0, 1) := by decide +kernel
theorem dX12_choose_225 : decode cX12_choose 225 = .ok (.getfield 100, 3) := by decide +kernel
theorem dX12_choose_228 : decode cX12_choose 228 = .ok (.iload_n 1, 1) := by decide +kernel
theorem dX12_choose_229 : decode cX12_choose 229 = .ok (.iload 4, 2) := by decide +kernel
theorem dX12_choose_231 : decode cX12_choose 231 = .ok (.iastore, 1) := by decide +kernel
theorem dX12_choose_232 : decode cX12_choose 232 = .ok (.aload_n 0, 1) := by decide +kernel
theorem dX12_choose_233 : decode cX12_choose 233 = .ok (.getfield 121, 3) := by decide +kernel
theorem dX12_choose_236 : decode cX12_choose 236 = .ok (.iload 4, 2) := by decide +kernel
theorem dX12_choose_238 : decode cX12_choose 238 = .ok (.iload_n 1, 1) := by decide +kernel
theorem dX12_choose_239 : decode cX12_choose 239 = .ok (.iastore, 1) := by decide +kernel
theorem dX12_choose_240 : decode cX12_choose 240 = .ok (.aload_n 0, 1) := by decide +kernel
theorem dX12_choose_241 : decode cX12_choose 241 = .ok (.getfield 124, 3) := by decide +kernel
theorem dX12_choose_244 : decode cX12_choose 244 = .ok (.iload 4, 2) := by decide +kernel
theorem dX12_choose_246 : decode cX12_choose 246 = .ok (.iload_n 2, 1) := by decide +kernel
theorem dX12_choose_247 : decode cX12_choose 247 = .ok (.iastore, 1) := by decide +kernel
theorem dX12_choose_248 : decode cX12_choose 248 = .ok (.aload_n 0, 1) := by decide +kernel
theorem dX12_choose_249 : decode cX12_choose 249 = .ok (.getfield 94, 3) := by decide +kernel
theorem dX12_choose_252 : decode cX12_choose 252 = .ok (.iload_n 1, 1) := by decide +kernel
theorem dX12_choose_253 : decode cX12_choose 253 = .ok (.aload_n 0, 1) := by decide +kernel
theorem dX12_choose_254 : decode cX12_choose 254 = .ok (.getfield 118, 3) := by decide +kernel
theorem dX12_choose_257 : decode cX12_choose 257 = .ok (.iload 4, 2) := by decide +kernel
theorem dX12_choose_259 : decode cX12_choose 259 = .ok (.iaload, 1) := by decide +kernel
theorem dX12_choose_260 : decode cX12_choose 260 = .ok (.iastore, 1) := by decide +kernel
theorem dX12_choose_261 : decode cX12_choose 261 = .ok (.return_, 1) := by decide +kernel
theorem dX12_day_0 : decode cX12_day 0 = .ok (.iconst 0, 1) := by decide +kernel
theorem dX12_day_1 : decode cX12_day 1 = .ok (.istore_n 1, 1) := by decide +kernel
theorem dX12_day_2 : decode cX12_day 2 = .ok (.iload_n 1, 1) := by decide +kernel
theorem dX12_day_3 : decode cX12_day 3 = .ok (.bipush 11, 2) := by decide +kernel
theorem dX12_day_5 : decode cX12_day 5 = .ok (.if_icmp .ge 47, 3) := by decide +kernel
theorem dX12_day_8 : decode cX12_day 8 = .ok (.aload_n 0, 1) := by decide +kernel
theorem dX12_day_9 : decode cX12_day 9 = .ok (.getfield 112, 3) := by decide +kernel
theorem dX12_day_12 : decode cX12_day 12 = .ok (.iload_n 1, 1) := by decide +kernel
theorem dX12_day_13 : decode cX12_day 13 = .ok (.bipush (-9), 2) := by decide +kernel
theorem dX12_day_15 : decode cX12_day 15 = .ok (.iastore, 1) := by decide +kernel
theorem dX12_day_16 : decode cX12_day 16 = .ok (.aload_n 0, 1) := by decide +kernel
theorem dX12_day_17 : decode cX12_day 17 = .ok (.getfield 115, 3) := by decide +kernel
theorem dX12_day_20 : decode cX12_day 20 = .ok (.iload_n 1, 1) := by decide +kernel
theorem dX12_day_21 : decode cX12_day 21 = .ok (.iconst 0, 1) := by decide +kernel
theorem dX12_day_22 : decode cX12_day 22 = .ok (.iastore, 1) := by decide +kernel
theorem dX12_day_23 : decode cX12_day 23 = .ok (.aload_n 0, 1) := by decide +kernel
theorem dX12_day_24 : decode cX12_day 24 = .ok (.getfield 118, 3) := by decide +kernel
theorem dX12_day_27 : decode cX12_day 27 = .ok (.iload_n 1, 1) := by decide +kernel
theorem dX12_day_28 : decode cX12_day 28 = .ok (.iconst 0, 1) := by decide +kernel
theorem dX12_day_29 : decode cX12_day 29 = .ok (.iastore, 1) := by decide +kernel
theorem dX12_day_30 : decode cX12_day 30 = .ok (.aload_n 0, 1) := by decide +kernel
theorem dX12_day_31 : decode cX12_day 31 = .ok (.getfield 121, 3) := by decide +kernel
theorem dX12_day_34 : decode cX12_day 34 = .ok (.iload_n 1, 1) := by decide +kernel
theorem dX12_day_35 : decode cX12_day 35 = .ok (.bipush (-9), 2) := by decide +kernel
theorem dX12_day_37 : decode cX12_day 37 = .ok (.iastore, 1) := by decide +kernel
theorem dX12_day_38 : decode cX12_day 38 = .ok (.aload_n 0, 1) := by decide +kernel
theorem dX12_day_39 : decode cX12_day 39 = .ok (.getfield 124, 3) := by decide +kernel
theorem dX12_day_42 : decode cX12_day 42 = .ok (.iload_n 1, 1) := by decide +kernel
theorem dX12_day_43 : decode cX12_day 43 = .ok (.bipush 99, 2) := by decide +kernel
theorem dX12_day_45 : decode cX12_day 45 = .ok (.iastore, 1) := by decide +kernel
theorem dX12_day_46 : decode cX12_day 46 = .ok (.iinc 1 1, 3) := by decide +kernel
theorem dX12_day_49 : decode cX12_day 49 = .ok (.goto (-47), 3) := by decide +kernel
theorem dX12_day_52 : decode cX12_day 52 = .ok (.iconst 0, 1) := by decide +kernel
theorem dX12_day_53 : decode cX12_day 53 = .ok (.istore_n 1, 1) := by decide +kernel
theorem dX12_day_54 : decode cX12_day 54 = .ok (.iload_n 1, 1) := by decide +kernel
theorem dX12_day_55 : decode cX12_day 55 = .ok (.bipush 8, 2) := by decide +kernel
theorem dX12_day_57 : decode cX12_day 57 = .ok (.if_icmp .ge 64, 3) := by decide +kernel
theorem dX12_day_60 : decode cX12_day 60 = .ok (.aload_n 0, 1) := by decide +kernel
theorem dX12_day_61 : decode cX12_day 61 = .ok (.getfield 90, 3) := by decide +kernel
theorem dX12_day_64 : decode cX12_day 64 = .ok (.iload_n 1, 1) := by decide +kernel
theorem dX12_day_65 : decode cX12_day 65 = .ok (.iconst 0, 1) := by decide +kernel
theorem dX12_day_66 : decode cX12_day 66 = .ok (.bastore, 1) := by decide +kernel
theorem dX12_day_67 : decode cX12_day 67 = .ok (.aload_n 0, 1) := by decide +kernel
theorem dX12_day_68 : decode cX12_day 68 = .ok (.getfield 94, 3) := by decide +kernel
theorem dX12_day_71 : decode cX12_day 71 = .ok (.iload_n 1, 1) := by decide +kernel
theorem dX12_day_72 : decode cX12_day 72 = .ok (.iconst 0, 1) := by decide +kernel
theorem dX12_day_73 : decode cX12_day 73 = .ok (.iastore, 1) := by decide +kernel
theorem dX12_day_74 : decode cX12_day 74 = .ok (.aload_n 0, 1) := by decide +kernel
theorem dX12_day_75 : decode cX12_day 75 = .ok (.getfield 97, 3) := by decide +kernel
theorem dX12_day_78 : decode cX12_day 78 = .ok (.iload_n 1, 1) := by decide +kernel
theorem dX12_day_79 : decode cX12_day 79 = .ok (.iconst 0, 1) := by decide +kernel
theorem dX12_day_80 : decode cX12_day 80 = .ok (.iastore, 1) := by decide +kernel
theorem dX12_day_81 : decode cX12_day 81 = .ok (.aload_n 0, 1) := by decide +kernel
theorem dX12_day_82 : decode cX12_day 82 = .ok (.getfield 100, 3) := by decide +kernel
theorem dX12_day_85 : decode cX12_day 85 = .ok (.iload_n 1, 1) := by decide +kernel
theorem dX12_day_86 : decode cX12_day 86 = .ok (.bipush (-9), 2) := by decide +kernel
theorem dX12_day_88 : decode cX12_day 88 = .ok (.iastore, 1) := by decide +kernel
theorem dX12_day_89 : decode cX12_day 89 = .ok (.aload_n 0, 1) := by decide +kernel
theorem dX12_day_90 : decode cX12_day 90 = .ok (.getfield 103, 3) := by decide +kernel
theorem dX12_day_93 : decode cX12_day 93 = .ok (.iload_n 1, 1) := by decide +kernel
theorem dX12_day_94 : decode cX12_day 94 = .ok (.iconst 0, 1) := by decide +kernel
theorem dX12_day_95 : decode cX12_day 95 = .ok (.iastore, 1) := by decide +kernel
theorem dX12_day_96 : decode cX12_day 96 = .ok (.aload_n 0, 1) := by decide +kernel
theorem dX12_day_97 : decode cX12_day 97 = .ok (.getfield 106, 3) := by decide +kernel
theorem dX12_day_100 : decode cX12_day 100 = .ok (.iload_n 1, 1) := by decide +kernel
theorem dX12_day_101 : decode cX12_day 101 = .ok (.aload_n 0, 1) := by decide +kernel
theorem dX12_day_102 : decode cX12_day 102 = .ok (.getfield 65, 3) := by decide +kernel
theorem dX12_day_105 : decode cX12_day 105 = .ok (.iload_n 1, 1) := by decide +kernel
theorem dX12_day_106 : decode cX12_day 106 = .ok (.iaload, 1) := by decide +kernel
theorem dX12_day_107 : decode cX12_day 107 = .ok (.iastore, 1) := by decide +kernel
theorem dX12_day_108 : decode cX12_day 108 = .ok (.aload_n 0, 1) := by decide +kernel
theorem dX12_day_109 : decode cX12_day 109 = .ok (.getfield 109, 3) := by decide +kernel
theorem dX12_day_112 : decode cX12_day 112 = .ok (.iload_n 1, 1) := by decide +kernel
theorem dX12_day_113 : decode cX12_day 113 = .ok (.iconst 0, 1) := by decide +kernel
theorem dX12_day_114 : decode cX12_day 114 = .ok (.bastore, 1) := by decide +kernel
theorem dX12_day_115 : decode cX12_day 115 = .ok (.iinc 1 1, 3) := by decide +kernel
theorem dX12_day_118 : decode cX12_day 118 = .ok (.goto (-64), 3) := by decide +kernel
theorem dX12_day_121 : decode cX12_day 121 = .ok (.iconst 0, 1) := by decide +kernel
theorem dX12_day_122 : decode cX12_day 122 = .ok (.istore_n 1, 1) := by decide +kernel
theorem dX12_day_123 : decode cX12_day 123 = .ok (.iload_n 1, 1) := by decide +kernel
theorem dX12_day_124 : decode cX12_day 124 = .ok (.bipush 24, 2) := by decide +kernel
theorem dX12_day_126 : decode cX12_day 126 = .ok (.if_icmp .ge 161, 3) := by decide +kernel
theorem dX12_day_129 : decode cX12_day 129 = .ok (.iconst 0, 1) := by decide +kernel
theorem dX12_day_130 : decode cX12_day 130 = .ok (.istore_n 2, 1) := by decide +kernel
theorem dX12_day_131 : decode cX12_day 131 = .ok (.iload_n 2, 1) := by decide +kernel
theorem dX12_day_132 : decode cX12_day 132 = .ok (.aload_n 0, 1) := by decide +kernel
theorem dX12_day_133 : decode cX12_day 133 = .ok (.getfield 232, 3) := by decide +kernel
theorem dX12_day_136 : decode cX12_day 136 = .ok (.if_icmp .ge 59, 3) := by decide +kernel
theorem dX12_day_139 : decode cX12_day 139 = .ok (.aload_n 0, 1) := by decide +kernel
theorem dX12_day_140 : decode cX12_day 140 = .ok (.getfield 47, 3) := by decide +kernel
theorem dX12_day_143 : decode cX12_day 143 = .ok (.iload_n 2, 1) := by decide +kernel
theorem dX12_day_144 : decode cX12_day 144 = .ok (.iaload, 1) := by decide +kernel
theorem dX12_day_145 : decode cX12_day 145 = .ok (.iload_n 1, 1) := by decide +kernel
theorem dX12_day_146 : decode cX12_day 146 = .ok (.if_icmp .ne 43, 3) := by decide +kernel
theorem dX12_day_149 : decode cX12_day 149 = .ok (.aload_n 0, 1) := by decide +kernel
theorem dX12_day_150 : decode cX12_day 150 = .ok (.getfield 112, 3) := by decide +kernel
theorem dX12_day_153 : decode cX12_day 153 = .ok (.bipush 8, 2) := by decide +kernel
theorem dX12_day_155 : decode cX12_day 155 = .ok (.iload_n 2, 1) := by decide +kernel
theorem dX12_day_156 : decode cX12_day 156 = .ok (.iadd, 1) := by decide +kernel
theorem dX12_day_157 : decode cX12_day 157 = .ok (.iload_n 1, 1) := by decide +kernel
theorem dX12_day_158 : decode cX12_day 158 = .ok (.iastore, 1) := by decide +kernel
theorem dX12_day_159 : decode cX12_day 159 = .ok (.aload_n 0, 1) := by decide +kernel
theorem dX12_day_160 : decode cX12_day 160 = .ok (.getfield 115, 3) := by decide +kernel
theorem dX12_day_163 : decode cX12_day 163 = .ok (.bipush 8, 2) := by decide +kernel
theorem dX12_day_165 : decode cX12_day 165 = .ok (.iload_n 2, 1) := by decide +kernel
theorem dX12_day_166 : decode cX12_day 166 = .ok (.iadd, 1) := by decide +kernel
theorem dX12_day_167 : decode cX12_day 167 = .ok (.aload_n 0, 1) := by decide +kernel
theorem dX12_day_168 : decode cX12_day 168 = .ok (.getfield 41, 3) := by decide +kernel
theorem dX12_day_171 : decode cX12_day 171 = .ok (.iload_n 2, 1) := by decide +kernel
theorem dX12_day_172 : decode cX12_day 172 = .ok (.iaload, 1) := by decide +kernel
theorem dX12_day_173 : decode cX12_day 173 = .ok (.iastore, 1) := by decide +kernel
theorem dX12_day_174 : decode cX12_day 174 = .ok (.aload_n 0, 1) := by decide +kernel
theorem dX12_day_175 : decode cX12_day 175 = .ok (.getfield 118, 3) := by decide +kernel
theorem dX12_day_178 : decode cX12_day 178 = .ok (.bipush 8, 2) := by decide +kernel
theorem dX12_day_180 : decode cX12_day 180 = .ok (.iload_n 2, 1) := by decide +kernel
theorem dX12_day_181 : decode cX12_day 181 = .ok (.iadd, 1) := by decide +kernel
theorem dX12_day_182 : decode cX12_day 182 = .ok (.aload_n 0, 1) := by decide +kernel
theorem dX12_day_183 : decode cX12_day 183 = .ok (.getfield 38, 3) := by decide +kernel
theorem dX12_day_186 : decode cX12_day 186 = .ok (.iload_n 2, 1) := by decide +kernel
theorem dX12_day_187 : decode cX12_day 187 = .ok (.iaload, 1) := by decide +kernel
theorem dX12_day_188 : decode cX12_day 188 = .ok (.iastore, 1) := by decide +kernel
theorem dX12_day_189 : decode cX12_day 189 = .ok (.iinc 2 1, 3) := by decide +kernel
theorem dX12_day_192 : decode cX12_day 192 = .ok (.goto (-61), 3) := by decide +kernel
theorem dX12_day_195 : decode cX12_day 195 = .ok (.iconst 0, 1) := by decide +kernel
theorem dX12_day_196 : decode cX12_day 196 = .ok (.istore_n 2, 1) := by decide +kernel
theorem dX12_day_197 : decode cX12_day 197 = .ok (.iload_n 2, 1) := by decide +kernel
theorem dX12_day_198 : decode cX12_day 198 = .ok (.aload_n 0, 1) := by decide +kernel
theorem dX12_day_199 : decode cX12_day 199 = .ok (.getfield 171, 3) := by decide +kernel
theorem dX12_day_202 : decode cX12_day 202 = .ok (.if_icmp .ge 15, 3) := by decide +kernel
theorem dX12_day_205 : decode cX12_day 205 = .ok (.aload_n 0, 1) := by decide +kernel
theorem dX12_day_206 : decode cX12_day 206 = .ok (.iload_n 2, 1) := by decide +kernel
theorem dX12_day_207 : decode cX12_day 207 = .ok (.iload_n 1, 1) := by decide +kernel
theorem dX12_day_208 : decode cX12_day 208 = .ok (.invokevirtual 235, 3) := by decide +kernel
theorem dX12_day_211 : decode cX12_day 211 = .ok (.iinc 2 1, 3) := by decide +kernel
theorem dX12_day_214 : decode cX12_day 214 = .ok (.goto (-17), 3) := by decide +kernel
theorem dX12_day_217 : decode cX12_day 217 = .ok (.iconst 0, 1) := by decide +kernel
theorem dX12_day_218 : decode cX12_day 218 = .ok (.istore_n 2, 1) := by decide +kernel
theorem dX12_day_219 : decode cX12_day 219 = .ok (.iload_n 2, 1) := by decide +kernel
theorem dX12_day_220 : decode cX12_day 220 = .ok (.aload_n 0, 1) := by decide +kernel
theorem dX12_day_221 : decode cX12_day 221 = .ok (.getfield 171, 3) := by decide +kernel
theorem dX12_day_224 : decode cX12_day 224 = .ok (.if_icmp .ge 24, 3) := by decide +kernel
theorem dX12_day_227 : decode cX12_day 227 = .ok (.aload_n 0, 1) := by decide +kernel
theorem dX12_day_228 : decode cX12_day 228 = .ok (.iload_n 2, 1) := by decide +kernel
theorem dX12_day_229 : decode cX12_day 229 = .ok (.invokevirtual 187, 3) := by decide +kernel
theorem dX12_day_232 : decode cX12_day 232 = .ok (.iload_n 1, 1) := by decide +kernel
theorem dX12_day_233 : decode cX12_day 233 = .ok (.if_icmp .ne 9, 3) := by decide +kernel
theorem dX12_day_236 : decode cX12_day 236 = .ok (.aload_n 0, 1) := by decide +kernel
theorem dX12_day_237 : decode cX12_day 237 = .ok (.iload_n 2, 1) := by decide +kernel
theorem dX12_day_238 : decode cX12_day 238 = .ok (.iload_n 1, 1) := by decide +kernel
theorem dX12_day_239 : decode cX12_day 239 = .ok (.invokevirtual 239, 3) := by decide +kernel
theorem dX12_day_242 : decode cX12_day 242 = .ok (.iinc 2 1, 3) := by decide +kernel
theorem dX12_day_245 : decode cX12_day 245 = .ok (.goto (-26), 3) := by decide +kernel
theorem dX12_day_248 : decode cX12_day 248 = .ok (.iconst 0, 1) := by decide +kernel
theorem dX12_day_249 : decode cX12_day 249 = .ok (.istore_n 2, 1) := by decide +kernel
theorem dX12_day_250 : decode cX12_day 250 = .ok (.iload_n 2, 1) := by decide +kernel
theorem dX12_day_251 : decode cX12_day 251 = .ok (.aload_n 0, 1) := by decide +kernel
theorem dX12_day_252 : decode cX12_day 252 = .ok (.getfield 171, 3) := by decide +kernel
theorem dX12_day_255 : decode cX12_day 255 = .ok (.if_icmp .ge 26, 3) := by decide +kernel
theorem dX12_day_258 : decode cX12_day 258 = .ok (.aload_n 0, 1) := by decide +kernel
theorem dX12_day_259 : decode cX12_day 259 = .ok (.getfield 127, 3) := by decide +kernel
theorem dX12_day_262 : decode cX12_day 262 = .ok (.bipush 8, 2) := by decide +kernel
theorem dX12_day_264 : decode cX12_day 264 = .ok (.iload_n 1, 1) := by decide +kernel
theorem dX12_day_265 : decode cX12_day 265 = .ok (.imul, 1) := by decide +kernel
theorem dX12_day_266 : decode cX12_day 266 = .ok (.iload_n 2, 1) := by decide +kernel
theorem dX12_day_267 : decode cX12_day 267 = .ok (.iadd, 1) := by decide +kernel
theorem dX12_day_268 : decode cX12_day 268 = .ok (.aload_n 0, 1) := by decide +kernel
theorem dX12_day_269 : decode cX12_day 269 = .ok (.getfield 106, 3) := by decide +kernel
theorem dX12_day_272 : decode cX12_day 272 = .ok (.iload_n 2, 1) := by decide +kernel
theorem dX12_day_273 : decode cX12_day 273 = .ok (.iaload, 1) := by decide +kernel
theorem dX12_day_274 : decode cX12_day 274 = .ok (.iastore, 1) := by decide +kernel
theorem dX12_day_275 : decode cX12_day 275 = .ok (.iinc 2 1, 3) := by decide +kernel
theorem dX12_day_278 : decode cX12_day 278 = .ok (.goto (-28), 3) := by decide +kernel
theorem dX12_day_281 : decode cX12_day 281 = .ok (.iinc 1 1, 3) := by decide +kernel
theorem dX12_day_284 : decode cX12_day 284 = .ok (.goto (-161), 3) := by decide +kernel
theorem dX12_day_287 : decode cX12_day 287 = .ok (.return_, 1) := by decide +kernel
theorem dX12_told_0 : decode cX12_told 0 = .ok (.iload_n 0, 1) := by decide +kernel
theorem dX12_told_1 : decode cX12_told 1 = .ok (.ifCond .ge 7, 3) := by decide +kernel
theorem dX12_told_4 : decode cX12_told 4 = .ok (.iconst 2, 1) := by decide +kernel
theorem dX12_told_5 : decode cX12_told 5 = .ok (.goto 4, 3) := by decide +kernel
theorem dX12_told_8 : decode cX12_told 8 = .ok (.iload_n 0, 1) := by decide +kernel
theorem dX12_told_9 : decode cX12_told 9 = .ok (.ireturn, 1) := by decide +kernel
theorem dX12_carry_0 : decode cX12_carry 0 = .ok (.aload_n 0, 1) := by decide +kernel
theorem dX12_carry_1 : decode cX12_carry 1 = .ok (.getfield 242, 3) := by decide +kernel
theorem dX12_carry_4 : decode cX12_carry 4 = .ok (.ifCond .eq 13, 3) := by decide +kernel
theorem dX12_carry_7 : decode cX12_carry 7 = .ok (.aload_n 0, 1) := by decide +kernel
theorem dX12_carry_8 : decode cX12_carry 8 = .ok (.getfield 245, 3) := by decide +kernel
theorem dX12_carry_11 : decode cX12_carry 11 = .ok (.aload_n 0, 1) := by decide +kernel
theorem dX12_carry_12 : decode cX12_carry 12 = .ok (.getfield 248, 3) := by decide +kernel
theorem dX12_carry_15 : decode cX12_carry 15 = .ok (.iload_n 1, 1) := by decide +kernel
theorem dX12_carry_16 : decode cX12_carry 16 = .ok (.iastore, 1) := by decide +kernel
theorem dX12_carry_17 : decode cX12_carry 17 = .ok (.aload_n 0, 1) := by decide +kernel
theorem dX12_carry_18 : decode cX12_carry 18 = .ok (.dup, 1) := by decide +kernel
theorem dX12_carry_19 : decode cX12_carry 19 = .ok (.getfield 248, 3) := by decide +kernel
theorem dX12_carry_22 : decode cX12_carry 22 = .ok (.iconst 1, 1) := by decide +kernel
theorem dX12_carry_23 : decode cX12_carry 23 = .ok (.iadd, 1) := by decide +kernel
theorem dX12_carry_24 : decode cX12_carry 24 = .ok (.putfield 248, 3) := by decide +kernel
theorem dX12_carry_27 : decode cX12_carry 27 = .ok (.aload_n 0, 1) := by decide +kernel
theorem dX12_carry_28 : decode cX12_carry 28 = .ok (.getfield 245, 3) := by decide +kernel
theorem dX12_carry_31 : decode cX12_carry 31 = .ok (.aload_n 0, 1) := by decide +kernel
theorem dX12_carry_32 : decode cX12_carry 32 = .ok (.getfield 248, 3) := by decide +kernel
theorem dX12_carry_35 : decode cX12_carry 35 = .ok (.iconst 1, 1) := by decide +kernel
theorem dX12_carry_36 : decode cX12_carry 36 = .ok (.isub, 1) := by decide +kernel
theorem dX12_carry_37 : decode cX12_carry 37 = .ok (.iaload, 1) := by decide +kernel
theorem dX12_carry_38 : decode cX12_carry 38 = .ok (.ireturn, 1) := by decide +kernel
def b_X12_mayBuy_98 (S : St) : Option Int32 := some 0
def b_X12_mayBuy_0 (v1 : Int32) (v2 : Int32) (v3 : Int32) (v4 : Int32) (S : St) : Option Int32 := (if (gi S 136 30 : Int32) = 0 then (L_X12_isThere v2 v3 S).bind fun r2 => (if (r2 : Int32) = 0 then some 0 else gd (inb v2 11) ((if (0 : Int32) ≤ (gi S 169 v2.toNatClampNeg) then some 0 else (if (v2 : Int32) = v1 then some 0 else (L_X12_caseOf v2 S).bind fun r7 => gd (inb v1 8) (gd (inb ((4 * r7) + (gi S 149 v1.toNatClampNeg)) 16) ((if (gi S 137 ((4 * r7) + (gi S 149 v1.toNatClampNeg)).toNatClampNeg : Int32) = 0 then some 0 else (L_X12_leftOf v2 v3 S).bind fun r11 => (if (r11 : Int32) ≤ 0 then (b_X12_mayBuy_98 S) else (L_X12_buys v1 r11 v4 S).bind fun r13 => (if (r13 : Int32) = 0 then (b_X12_mayBuy_98 S) else (L_X12_askedFor v2 v3 S).bind fun r15 => gd (inb v1 8) ((if (gi S 164 v1.toNatClampNeg : Int32) < r15 then (b_X12_mayBuy_98 S) else some 1))))))))))) else some 0)
def L_X12_mayBuy (a1 : Int32) (a2 : Int32) (a3 : Int32) (a4 : Int32) (S : St) : Option Int32 := b_X12_mayBuy_0 a1 a2 a3 a4 S
def b_X12_choose_224 (v1 : Int32) (v2 : Int32) (v4 : Int32) (S : St) : Option St := gd (inb v1 8) (nm (si S 162 v1.toNatClampNeg v4) fun S2 => gd (inb v4 11) (nm (si S2 169 v4.toNatClampNeg v1) fun S4 => gd (inb v4 11) (nm (si S4 170 v4.toNatClampNeg v2) fun S6 => gd (inb v4 11) (gd (inb v1 8) (nm (si S6 160 v1.toNatClampNeg (gi S6 168 v4.toNatClampNeg)) fun S9 => some S9)))))
def b_X12_choose_146 (v1 : Int32) (v2 : Int32) (v4 : Int32) (S : St) : Option St := gd (inb v1 8) (nm (si S 159 v1.toNatClampNeg 1) fun S2 => gd (inb v1 8) ((L_X12_sideOf (gi S2 161 v1.toNatClampNeg) S2).bind fun r4 => gd (inb v1 8) (nm (si S2 160 v1.toNatClampNeg r4) fun S6 => (if (v4 : Int32) < 0 then some S6 else (L_X12_askedFor v4 v2 S6).bind fun r8 => gd (inb v1 8) (nm (si S6 163 v1.toNatClampNeg r8) fun S10 => gd (inb v1 8) (gd (inb v1 8) (gd (inb v1 8) (nm (si S10 164 v1.toNatClampNeg ((gi S10 164 v1.toNatClampNeg) - (gi S10 163 v1.toNatClampNeg))) fun S14 => (if (8 : Int32) ≤ v4 then (b_X12_choose_224 v1 v2 v4 S14) else gd (inb v4 8) (gd (inb v1 8) (gd (inb v4 8) (nm (si S14 164 v4.toNatClampNeg ((gi S14 164 v4.toNatClampNeg) + (gi S14 163 v1.toNatClampNeg))) fun S19 => (b_X12_choose_224 v1 v2 v4 S19)))))))))))))
def b_X12_choose_140 (v1 : Int32) (v2 : Int32) (v3 : Int32) (v4 : Int32) (v5 : Int32) (S : St) : Option ((Int32 × Int32 × Int32 × Int32 × Int32 × St) ⊕ St) := some (.inl (v1, v2, v3, v4, (v5 + 1), S))
def b_X12_choose_138 (v1 : Int32) (v2 : Int32) (v3 : Int32) (v5 : Int32) (s0 : Int32) (S : St) : Option ((Int32 × Int32 × Int32 × Int32 × Int32 × St) ⊕ St) := (b_X12_choose_140 v1 v2 v3 s0 v5 S)
def b_X12_choose_124 (v1 : Int32) (v2 : Int32) (v3 : Int32) (v4 : Int32) (v5 : Int32) (s0 : Int32) (S : St) : Option ((Int32 × Int32 × Int32 × Int32 × Int32 × St) ⊕ St) := (if (s0 : Int32) = 0 then (b_X12_choose_138 v1 v2 v3 v5 v4 S) else (b_X12_choose_138 v1 v2 v3 v5 v5 S))
def b_X12_choose_119 (v1 : Int32) (v2 : Int32) (v3 : Int32) (v4 : Int32) (v5 : Int32) (S : St) : Option ((Int32 × Int32 × Int32 × Int32 × Int32 × St) ⊕ St) := (b_X12_choose_124 v1 v2 v3 v4 v5 1 S)
def b_X12_choose_123 (v1 : Int32) (v2 : Int32) (v3 : Int32) (v4 : Int32) (v5 : Int32) (S : St) : Option ((Int32 × Int32 × Int32 × Int32 × Int32 × St) ⊕ St) := (b_X12_choose_124 v1 v2 v3 v4 v5 0 S)
def b_X12_choose_90 (v1 : Int32) (v2 : Int32) (v3 : Int32) (v4 : Int32) (v5 : Int32) (s0 : Int32) (S : St) : Option ((Int32 × Int32 × Int32 × Int32 × Int32 × St) ⊕ St) := (if (0 : Int32) < s0 then (b_X12_choose_119 v1 v2 v3 v4 v5 S) else (if (s0 : Int32) = 0 then (L_X12_askedFor v5 v2 S).bind fun r3 => (L_X12_askedFor v4 v2 S).bind fun r4 => (if (r4 : Int32) ≤ r3 then (b_X12_choose_123 v1 v2 v3 v4 v5 S) else (b_X12_choose_119 v1 v2 v3 v4 v5 S)) else (b_X12_choose_123 v1 v2 v3 v4 v5 S)))
def b_X12_choose_47 (v1 : Int32) (v2 : Int32) (v3 : Int32) (v4 : Int32) (v5 : Int32) (S : St) : Option ((Int32 × Int32 × Int32 × Int32 × Int32 × St) ⊕ St) := (if (11 : Int32) ≤ v5 then ((b_X12_choose_146 v1 v2 v4 S).map Sum.inr) else (L_X12_mayBuy v1 v5 v2 v3 S).bind fun r2 => (if (r2 : Int32) = 0 then (b_X12_choose_140 v1 v2 v3 v4 v5 S) else (if (0 : Int32) ≤ v4 then (L_X12_leftOf v5 v2 S).bind fun r5 => (L_X12_leftOf v4 v2 S).bind fun r6 => (b_X12_choose_90 v1 v2 v3 v4 v5 (r5 - r6) S) else (b_X12_choose_90 v1 v2 v3 v4 v5 1 S))))
def l_X12_choose_47 (x : (Int32 × Int32 × Int32 × Int32 × Int32 × St)) : Option ((Int32 × Int32 × Int32 × Int32 × Int32 × St) ⊕ St) := b_X12_choose_47 x.1 x.2.1 x.2.2.1 x.2.2.2.1 x.2.2.2.2.1 x.2.2.2.2.2
def b_X12_choose_0 (v1 : Int32) (v2 : Int32) (S : St) : Option St := gd (inb v1 8) (gd (inb v1 8) ((L_X12_factsBy (gi S 149 v1.toNatClampNeg) v2 S).bind fun r3 => (L_X12_sumOf v1 (gi S 151 v1.toNatClampNeg) r3 S).bind fun r4 => gd (inb v1 8) (nm (si S 161 v1.toNatClampNeg r4) fun S6 => gd (inb v1 8) ((L_X12_strengthOf v1 (gi S6 161 v1.toNatClampNeg) S6).bind fun r8 => (lp 1000 (l_X12_choose_47) (v1, v2, r8, ((-9)), 0, S6))))))
def L_X12_choose (a1 : Int32) (a2 : Int32) (S : St) : Option St := b_X12_choose_0 a1 a2 S
def b_X12_day_281 (v1 : Int32) (S : St) : Option ((Int32 × St) ⊕ St) := some (.inl ((v1 + 1), S))
def b_X12_day_250 (v1 : Int32) (v2 : Int32) (S : St) : Option ((Int32 × Int32 × St) ⊕ ((Int32 × St) ⊕ St)) := (if (gi S 136 15 : Int32) ≤ v2 then ((b_X12_day_281 v1 S).map Sum.inr) else gd (inb v2 8) (gd (inb ((8 * v1) + v2) 192) (nm (si S 171 ((8 * v1) + v2).toNatClampNeg (gi S 164 v2.toNatClampNeg)) fun S4 => some (.inl (v1, (v2 + 1), S4)))))
def l_X12_day_250 (x : (Int32 × Int32 × St)) : Option ((Int32 × Int32 × St) ⊕ ((Int32 × St) ⊕ St)) := b_X12_day_250 x.1 x.2.1 x.2.2
def b_X12_day_248 (v1 : Int32) (S : St) : Option ((Int32 × St) ⊕ St) := (lp 1000 (l_X12_day_250) (v1, 0, S))
def b_X12_day_242 (v1 : Int32) (v2 : Int32) (S : St) : Option ((Int32 × Int32 × St) ⊕ ((Int32 × St) ⊕ St)) := some (.inl (v1, (v2 + 1), S))
def b_X12_day_219 (v1 : Int32) (v2 : Int32) (S : St) : Option ((Int32 × Int32 × St) ⊕ ((Int32 × St) ⊕ St)) := (if (gi S 136 15 : Int32) ≤ v2 then ((b_X12_day_248 v1 S).map Sum.inr) else (L_X12_dueOf v2 S).bind fun r2 => (if (r2 : Int32) = v1 then (L_X12_choose v2 v1 S).bind fun r4 => (b_X12_day_242 v1 v2 r4) else (b_X12_day_242 v1 v2 S)))
def l_X12_day_219 (x : (Int32 × Int32 × St)) : Option ((Int32 × Int32 × St) ⊕ ((Int32 × St) ⊕ St)) := b_X12_day_219 x.1 x.2.1 x.2.2
def b_X12_day_217 (v1 : Int32) (S : St) : Option ((Int32 × St) ⊕ St) := (lp 1000 (l_X12_day_219) (v1, 0, S))
def b_X12_day_197 (v1 : Int32) (v2 : Int32) (S : St) : Option ((Int32 × Int32 × St) ⊕ ((Int32 × St) ⊕ St)) := (if (gi S 136 15 : Int32) ≤ v2 then ((b_X12_day_217 v1 S).map Sum.inr) else (L_X12_comeForSale v2 v1 S).bind fun r2 => some (.inl (v1, (v2 + 1), r2)))
def l_X12_day_197 (x : (Int32 × Int32 × St)) : Option ((Int32 × Int32 × St) ⊕ ((Int32 × St) ⊕ St)) := b_X12_day_197 x.1 x.2.1 x.2.2
def b_X12_day_195 (v1 : Int32) (S : St) : Option ((Int32 × St) ⊕ St) := (lp 1000 (l_X12_day_197) (v1, 0, S))
def b_X12_day_189 (v1 : Int32) (v2 : Int32) (S : St) : Option ((Int32 × Int32 × St) ⊕ ((Int32 × St) ⊕ St)) := some (.inl (v1, (v2 + 1), S))
def b_X12_day_131 (v1 : Int32) (v2 : Int32) (S : St) : Option ((Int32 × Int32 × St) ⊕ ((Int32 × St) ⊕ St)) := (if (gi S 136 9 : Int32) ≤ v2 then ((b_X12_day_195 v1 S).map Sum.inr) else gd (inb v2 4) ((if (gi S 146 v2.toNatClampNeg : Int32) = v1 then gd (inb (8 + v2) 11) (nm (si S 166 (8 + v2).toNatClampNeg v1) fun S5 => gd (inb v2 4) (gd (inb (8 + v2) 11) (nm (si S5 167 (8 + v2).toNatClampNeg (gi S5 144 v2.toNatClampNeg)) fun S8 => gd (inb v2 4) (gd (inb (8 + v2) 11) (nm (si S8 168 (8 + v2).toNatClampNeg (gi S8 143 v2.toNatClampNeg)) fun S11 => (b_X12_day_189 v1 v2 S11)))))) else (b_X12_day_189 v1 v2 S))))
def l_X12_day_131 (x : (Int32 × Int32 × St)) : Option ((Int32 × Int32 × St) ⊕ ((Int32 × St) ⊕ St)) := b_X12_day_131 x.1 x.2.1 x.2.2
def b_X12_day_123 (v1 : Int32) (S : St) : Option ((Int32 × St) ⊕ St) := (if (24 : Int32) ≤ v1 then some (.inr S) else (lp 1000 (l_X12_day_131) (v1, 0, S)))
def l_X12_day_123 (x : (Int32 × St)) : Option ((Int32 × St) ⊕ St) := b_X12_day_123 x.1 x.2
def b_X12_day_121 (S : St) : Option St := (lp 1000 (l_X12_day_123) (0, S))
def b_X12_day_54 (v1 : Int32) (S : St) : Option ((Int32 × St) ⊕ St) := (if (8 : Int32) ≤ v1 then ((b_X12_day_121 S).map Sum.inr) else gd (inb v1 8) (nm (si S 159 v1.toNatClampNeg 0) fun S3 => gd (inb v1 8) (nm (si S3 160 v1.toNatClampNeg 0) fun S5 => gd (inb v1 8) (nm (si S5 161 v1.toNatClampNeg 0) fun S7 => gd (inb v1 8) (nm (si S7 162 v1.toNatClampNeg ((-9))) fun S9 => gd (inb v1 8) (nm (si S9 163 v1.toNatClampNeg 0) fun S11 => gd (inb v1 8) (gd (inb v1 8) (nm (si S11 164 v1.toNatClampNeg (gi S11 152 v1.toNatClampNeg)) fun S14 => gd (inb v1 8) (nm (si S14 165 v1.toNatClampNeg 0) fun S16 => some (.inl ((v1 + 1), S16)))))))))))
def l_X12_day_54 (x : (Int32 × St)) : Option ((Int32 × St) ⊕ St) := b_X12_day_54 x.1 x.2
def b_X12_day_52 (S : St) : Option St := (lp 1000 (l_X12_day_54) (0, S))
def b_X12_day_2 (v1 : Int32) (S : St) : Option ((Int32 × St) ⊕ St) := (if (11 : Int32) ≤ v1 then ((b_X12_day_52 S).map Sum.inr) else gd (inb v1 11) (nm (si S 166 v1.toNatClampNeg ((-9))) fun S3 => gd (inb v1 11) (nm (si S3 167 v1.toNatClampNeg 0) fun S5 => gd (inb v1 11) (nm (si S5 168 v1.toNatClampNeg 0) fun S7 => gd (inb v1 11) (nm (si S7 169 v1.toNatClampNeg ((-9))) fun S9 => gd (inb v1 11) (nm (si S9 170 v1.toNatClampNeg 99) fun S11 => some (.inl ((v1 + 1), S11))))))))
def l_X12_day_2 (x : (Int32 × St)) : Option ((Int32 × St) ⊕ St) := b_X12_day_2 x.1 x.2
def b_X12_day_0 (S : St) : Option St := (lp 1000 (l_X12_day_2) (0, S))
def L_X12_day (S : St) : Option St := b_X12_day_0 S
def b_X12_told_0 (v0 : Int32) (S : St) : Option Int32 := (if (0 : Int32) ≤ v0 then some v0 else some 2)
def L_X12_told (a0 : Int32) (S : St) : Option Int32 := b_X12_told_0 a0 S
def b_X12_carry_17 (S : St) : Option (Int32 × St) := nm (si S 136 47 ((gi S 136 47) + 1)) fun S1 => (gr S1 136 49).bind fun u2 => gd (isKpB u2) (gd (inb ((gi S1 136 47) - 1) 120) (some (gi S1 u2 ((gi S1 136 47) - 1).toNatClampNeg, S1)))
def b_X12_carry_0 (v1 : Int32) (S : St) : Option (Int32 × St) := (if (gi S 136 48 : Int32) = 0 then (b_X12_carry_17 S) else (gr S 136 49).bind fun u2 => gd (isKpB u2) (gd (inb (gi S 136 47) 120) (nm (si S u2 (gi S 136 47).toNatClampNeg v1) fun S5 => (b_X12_carry_17 S5))))
def L_X12_carry (a1 : Int32) (S : St) : Option (Int32 × St) := b_X12_carry_0 a1 S
section WALKS
variable {p : Program} {e : Env} {s : State} {m : MethodId} {args : Array Value} {below : List Frame} {meth : Method} {c : Code} {D : va_G} {ct : Nat → ClassId} {B : Nat} {Hb : Heap}
set_option maxRecDepth 100000 in
set_option maxHeartbeats 4000000 in
theorem w_X12_mayBuy_98 (l : Launch) {V : Int32} (C0 : XC D ct p s m args meth c cX12_mayBuy 6 (some .boolean) RX12) (S : St) {H : Heap} {locs : List Loc} {ls : Array Slot} (h : (b_X12_mayBuy_98 S).bind some = some V) (hP : MP D ct B Hb S H) (hS : va_S (AB B) s.heap H locs) (hl : lv_has ls 6 []) : W p l e { frames := 4, cells := 0, slots := 0, locals := 86 } s m args below meth c H locs 0 0 (MQ below (qI D ct B Hb S V) args s 0 0 (AB B)) (F0 m 98 ls []) := by
  obtain ⟨hx, hb, hr, hml, hown, hts, hK, hlocks, hN⟩ := id C0
  unfold b_X12_mayBuy_98 at h
  refine lv_iconst (v := 0) hx hb dX12_mayBuy_98 (by decide) ?_
  exact r_Z C0 hP hS bool_0 h dX12_mayBuy_99
set_option maxRecDepth 100000 in
set_option maxHeartbeats 4000000 in
theorem w_X12_mayBuy_0 (l : Launch) {V : Int32} (C0 : XC D ct p s m args meth c cX12_mayBuy 6 (some .boolean) RX12) (v1 : Int32) (v2 : Int32) (v3 : Int32) (v4 : Int32) (S : St) {H : Heap} {locs : List Loc} {ls : Array Slot} (h : (b_X12_mayBuy_0 v1 v2 v3 v4 S).bind some = some V) (hP : MP D ct B Hb S H) (hS : va_S (AB B) s.heap H locs) (hl : lv_has ls 6 [(0, .ref (B + 136)), (1, .int v1), (2, .int v2), (3, .int v3), (4, .int v4)]) : W p l e { frames := 4, cells := 0, slots := 0, locals := 86 } s m args below meth c H locs 0 0 (MQ below (qI D ct B Hb S V) args s 0 0 (AB B)) (F0 m 0 ls []) := by
  obtain ⟨hx, hb, hr, hml, hown, hts, hK, hlocks, hN⟩ := id C0
  unfold b_X12_mayBuy_0 at h
  refine lv_aload_n hx hb dX12_mayBuy_0 rfl (lv_at hl 0 rfl) ?_
  refine x_get C0 hP (lay_X12 B ct S) rfl inG12 30 (by decide) wd_1171 (fun _ h => h) rfl dX12_mayBuy_1 ?_
  refine lv_if_ne (tgt := 52) hx hb dX12_mayBuy_4 (by decide) (fun z1 => ?_) (fun z1 => ?_)
  · have h := ob_f h z1
    refine lv_iconst (v := 0) hx hb dX12_mayBuy_52 (by decide) ?_
    exact r_Z C0 hP hS bool_0 h dX12_mayBuy_53
  · have h := ob_t h z1
    refine lv_aload_n hx hb dX12_mayBuy_7 rfl (lv_at hl 0 rfl) ?_
    refine lv_iload_n hx hb dX12_mayBuy_8 rfl (lv_at hl 2 rfl) ?_
    refine lv_iload_n hx hb dX12_mayBuy_9 rfl (lv_at hl 3 rfl) ?_
    obtain ⟨r2, hr2, h⟩ := ob_bd h
    refine n_I (kV (As := [.int v2, .int v3]) C0 (c_X12_isThere l v2 v3 hr2) ⟨wd_1562, wd_1559, wd_1561, wp_48, wd_6⟩ kd_X12_isThere ⟨Nat.le_of_ble_eq_true rfl, Nat.le_of_ble_eq_true rfl⟩ hP (lay_X12 B ct S) rfl rfl hl.1 rfl (Nat.le_of_ble_eq_true rfl) dX12_mayBuy_10 ⟨Nat.le_of_ble_eq_true rfl, Nat.le_of_ble_eq_true rfl⟩) hS (fun H locs hP hS => ?_)
    refine lv_if_eq (tgt := 52) hx hb dX12_mayBuy_13 (by decide) (fun z3 => ?_) (fun z3 => ?_)
    · have h := ob_t h z3
      refine lv_iconst (v := 0) hx hb dX12_mayBuy_52 (by decide) ?_
      exact r_Z C0 hP hS bool_0 h dX12_mayBuy_53
    · have h := ob_f h z3
      refine lv_aload_n hx hb dX12_mayBuy_16 rfl (lv_at hl 0 rfl) ?_
      refine x_get C0 hP (lay_X12 B ct S) rfl inG12 41 (by decide) wd_1182 (fun _ h => h) rfl dX12_mayBuy_17 ?_
      refine lv_iload_n hx hb dX12_mayBuy_20 rfl (lv_at hl 2 rfl) ?_
      obtain ⟨g4, h⟩ := ob_gd h
      refine x_iald C0 hP ((fun S => lay_169 B ct S) S) g4 dX12_mayBuy_21 ?_
      refine lv_if_ge (tgt := 52) hx hb dX12_mayBuy_22 (by decide) (fun z5 => ?_) (fun z5 => ?_)
      · have h := ob_t h z5
        refine lv_iconst (v := 0) hx hb dX12_mayBuy_52 (by decide) ?_
        exact r_Z C0 hP hS bool_0 h dX12_mayBuy_53
      · have h := ob_f h z5
        refine lv_iload_n hx hb dX12_mayBuy_25 rfl (lv_at hl 2 rfl) ?_
        refine lv_iload_n hx hb dX12_mayBuy_26 rfl (lv_at hl 1 rfl) ?_
        refine lv_icmp_eq (tgt := 52) hx hb dX12_mayBuy_27 (by decide) (fun z6 => ?_) (fun z6 => ?_)
        · have h := ob_t h z6
          refine lv_iconst (v := 0) hx hb dX12_mayBuy_52 (by decide) ?_
          exact r_Z C0 hP hS bool_0 h dX12_mayBuy_53
        · have h := ob_f h z6
          refine lv_aload_n hx hb dX12_mayBuy_30 rfl (lv_at hl 0 rfl) ?_
          refine x_get C0 hP (lay_X12 B ct S) rfl inG12 0 (by decide) wd_1141 (fun _ h => h) rfl dX12_mayBuy_31 ?_
          refine lv_iconst (v := 4) hx hb dX12_mayBuy_34 (by decide) ?_
          refine lv_aload_n hx hb dX12_mayBuy_35 rfl (lv_at hl 0 rfl) ?_
          refine lv_iload_n hx hb dX12_mayBuy_36 rfl (lv_at hl 2 rfl) ?_
          obtain ⟨r7, hr7, h⟩ := ob_bd h
          refine n_I (kV (As := [.int v2]) C0 (c_X12_caseOf l v2 hr7) ⟨wd_1566, wd_1563, wd_1565, wp_49, wd_6⟩ kd_X12_caseOf ⟨Nat.le_of_ble_eq_true rfl, Nat.le_of_ble_eq_true rfl⟩ hP (lay_X12 B ct S) rfl rfl hl.1 rfl (Nat.le_of_ble_eq_true rfl) dX12_mayBuy_37 ⟨Nat.le_of_ble_eq_true rfl, Nat.le_of_ble_eq_true rfl⟩) hS (fun H locs hP hS => ?_)
          refine lv_imul hx hb dX12_mayBuy_40 ?_
          refine lv_aload_n hx hb dX12_mayBuy_41 rfl (lv_at hl 0 rfl) ?_
          refine x_get C0 hP (lay_X12 B ct S) rfl inG12 18 (by decide) wd_1159 (fun _ h => h) rfl dX12_mayBuy_42 ?_
          refine lv_iload_n hx hb dX12_mayBuy_45 rfl (lv_at hl 1 rfl) ?_
          obtain ⟨g8, h⟩ := ob_gd h
          refine x_iald C0 hP ((fun S => lay_149 B ct S) S) g8 dX12_mayBuy_46 ?_
          refine lv_iadd hx hb dX12_mayBuy_47 ?_
          obtain ⟨g9, h⟩ := ob_gd h
          refine x_iald C0 hP ((fun S => lay_137 B ct S) S) g9 dX12_mayBuy_48 ?_
          refine lv_if_ne (tgt := 54) hx hb dX12_mayBuy_49 (by decide) (fun z10 => ?_) (fun z10 => ?_)
          · have h := ob_f h z10
            refine lv_aload_n hx hb dX12_mayBuy_54 rfl (lv_at hl 0 rfl) ?_
            refine lv_iload_n hx hb dX12_mayBuy_55 rfl (lv_at hl 2 rfl) ?_
            refine lv_iload_n hx hb dX12_mayBuy_56 rfl (lv_at hl 3 rfl) ?_
            obtain ⟨r11, hr11, h⟩ := ob_bd h
            refine n_I (kV (As := [.int v2, .int v3]) C0 (c_X12_leftOf l v2 v3 hr11) ⟨wd_1570, wd_1567, wd_1569, wp_50, wd_6⟩ kd_X12_leftOf ⟨Nat.le_of_ble_eq_true rfl, Nat.le_of_ble_eq_true rfl⟩ hP (lay_X12 B ct S) rfl rfl hl.1 rfl (Nat.le_of_ble_eq_true rfl) dX12_mayBuy_57 ⟨Nat.le_of_ble_eq_true rfl, Nat.le_of_ble_eq_true rfl⟩) hS (fun H locs hP hS => ?_)
            refine lv_istore (lv' := [(5, .int r11), (0, .ref (B + 136)), (1, .int v1), (2, .int v2), (3, .int v3), (4, .int v4)]) hx hb dX12_mayBuy_60 hl (by decide) rfl (fun ls hl => ?_)
            refine lv_iload hx hb dX12_mayBuy_62 (lv_at hl 0 rfl) ?_
            refine lv_if_le (tgt := 98) hx hb dX12_mayBuy_64 (by decide) (fun z12 => ?_) (fun z12 => ?_)
            · have h := ob_t h z12
              exact w_X12_mayBuy_98 l C0 S h hP hS (lv_sub hl [] rfl)
            · have h := ob_f h z12
              refine lv_aload_n hx hb dX12_mayBuy_67 rfl (lv_at hl 1 rfl) ?_
              refine lv_iload_n hx hb dX12_mayBuy_68 rfl (lv_at hl 2 rfl) ?_
              refine lv_iload hx hb dX12_mayBuy_69 (lv_at hl 0 rfl) ?_
              refine lv_iload hx hb dX12_mayBuy_71 (lv_at hl 5 rfl) ?_
              obtain ⟨r13, hr13, h⟩ := ob_bd h
              refine n_I (kV (As := [.int v1, .int r11, .int v4]) C0 (c_X12_buys l v1 r11 v4 hr13) ⟨wd_1578, wd_1575, wd_1577, wp_52, wd_6⟩ kd_X12_buys ⟨Nat.le_of_ble_eq_true rfl, Nat.le_of_ble_eq_true rfl⟩ hP (lay_X12 B ct S) rfl rfl hl.1 rfl (Nat.le_of_ble_eq_true rfl) dX12_mayBuy_73 ⟨Nat.le_of_ble_eq_true rfl, Nat.le_of_ble_eq_true rfl⟩) hS (fun H locs hP hS => ?_)
              refine lv_if_eq (tgt := 98) hx hb dX12_mayBuy_76 (by decide) (fun z14 => ?_) (fun z14 => ?_)
              · have h := ob_t h z14
                exact w_X12_mayBuy_98 l C0 S h hP hS (lv_sub hl [] rfl)
              · have h := ob_f h z14
                refine lv_aload_n hx hb dX12_mayBuy_79 rfl (lv_at hl 1 rfl) ?_
                refine lv_iload_n hx hb dX12_mayBuy_80 rfl (lv_at hl 3 rfl) ?_
                refine lv_iload_n hx hb dX12_mayBuy_81 rfl (lv_at hl 4 rfl) ?_
                obtain ⟨r15, hr15, h⟩ := ob_bd h
                refine n_I (kV (As := [.int v2, .int v3]) C0 (c_X12_askedFor l v2 v3 hr15) ⟨wd_1582, wd_1579, wd_1581, wp_53, wd_6⟩ kd_X12_askedFor ⟨Nat.le_of_ble_eq_true rfl, Nat.le_of_ble_eq_true rfl⟩ hP (lay_X12 B ct S) rfl rfl hl.1 rfl (Nat.le_of_ble_eq_true rfl) dX12_mayBuy_82 ⟨Nat.le_of_ble_eq_true rfl, Nat.le_of_ble_eq_true rfl⟩) hS (fun H locs hP hS => ?_)
                refine lv_aload_n hx hb dX12_mayBuy_85 rfl (lv_at hl 1 rfl) ?_
                refine x_get C0 hP (lay_X12 B ct S) rfl inG12 36 (by decide) wd_1177 (fun _ h => h) rfl dX12_mayBuy_86 ?_
                refine lv_iload_n hx hb dX12_mayBuy_89 rfl (lv_at hl 2 rfl) ?_
                obtain ⟨g16, h⟩ := ob_gd h
                refine x_iald C0 hP ((fun S => lay_164 B ct S) S) g16 dX12_mayBuy_90 ?_
                refine lv_icmp_gt (tgt := 98) hx hb dX12_mayBuy_91 (by decide) (fun z17 => ?_) (fun z17 => ?_)
                · have h := ob_t h z17
                  exact w_X12_mayBuy_98 l C0 S h hP hS (lv_sub hl [] rfl)
                · have h := ob_f h z17
                  refine lv_iconst (v := 1) hx hb dX12_mayBuy_94 (by decide) ?_
                  refine lv_goto (tgt := 99) hx hb dX12_mayBuy_95 (by decide) ?_
                  exact r_Z C0 hP hS bool_1 h dX12_mayBuy_99
          · have h := ob_t h z10
            refine lv_iconst (v := 0) hx hb dX12_mayBuy_52 (by decide) ?_
            exact r_Z C0 hP hS bool_0 h dX12_mayBuy_53
set_option maxRecDepth 100000 in
set_option maxHeartbeats 4000000 in
theorem c_X12_mayBuy (l : Launch) (a1 : Int32) (a2 : Int32) (a3 : Int32) (a4 : Int32) {D : va_G} {ct : Nat → ClassId} {B : Nat} {Hb : Heap} {S : St} {V : Int32} (h : L_X12_mayBuy a1 a2 a3 a4 S = some V) : Met l yX12_mayBuy (Cond.code yX12_mayBuy cX12_mayBuy 6 (some .boolean) :: tG) { frames := 4, cells := 0, slots := 0, locals := 86 } (va_Pc [.ref (B + 136), .int a1, .int a2, .int a3, .int a4] (MPK D ct B Hb S)) (qI D ct B Hb S V) 0 0 (AB B) := by
  refine mk_met (by decide +kernel) (Nat.le_of_ble_eq_true rfl) (fun p e s m args below meth c ls C0 hP hl _ => ?_)
  have h := ob_of h
  exact w_X12_mayBuy_0 l C0 a1 a2 a3 a4 S h hP va_S.rf (lv_sub hl [0, 1, 2, 3, 4] rfl)
set_option maxRecDepth 100000 in
set_option maxHeartbeats 4000000 in
theorem w_X12_choose_224 (l : Launch) {V : St} (C0 : XC D ct p s m args meth c cX12_choose 8 none RX12) (v1 : Int32) (v2 : Int32) (v4 : Int32) (S : St) {H : Heap} {locs : List Loc} {ls : Array Slot} (h : (b_X12_choose_224 v1 v2 v4 S).bind some = some V) (hP : MP D ct B Hb S H) (hS : va_S (AB B) s.heap H locs) (hl : lv_has ls 8 [(0, .ref (B + 136)), (1, .int v1), (2, .int v2), (4, .int v4)]) : W p l e { frames := 5, cells := 0, slots := 0, locals := 111 } s m args below meth c H locs 0 0 (MQ below (qVw D ct B Hb V) args s 0 0 (AB B)) (F0 m 224 ls []) := by
  obtain ⟨hx, hb, hr, hml, hown, hts, hK, hlocks, hN⟩ := id C0
  unfold b_X12_choose_224 at h
  refine lv_aload_n hx hb dX12_choose_224 rfl (lv_at hl 0 rfl) ?_
  refine x_get C0 hP (lay_X12 B ct S) rfl inG12 34 (by decide) wd_1175 (fun _ h => h) rfl dX12_choose_225 ?_
  refine lv_iload_n hx hb dX12_choose_228 rfl (lv_at hl 1 rfl) ?_
  refine lv_iload hx hb dX12_choose_229 (lv_at hl 3 rfl) ?_
  obtain ⟨g1, h⟩ := ob_gd h
  obtain ⟨S2, eS2, h⟩ := ob_nm h
  refine x_iast C0 hP hS (fun S => lay_162 B ct S) g1 dX12_choose_231 (fun H locs hP hS => ?_)
  rw [← eS2] at hP
  refine lv_aload_n hx hb dX12_choose_232 rfl (lv_at hl 0 rfl) ?_
  refine x_get C0 hP (lay_X12 B ct S2) rfl inG12 41 (by decide) wd_1182 (fun _ h => h) rfl dX12_choose_233 ?_
  refine lv_iload hx hb dX12_choose_236 (lv_at hl 3 rfl) ?_
  refine lv_iload_n hx hb dX12_choose_238 rfl (lv_at hl 1 rfl) ?_
  obtain ⟨g3, h⟩ := ob_gd h
  obtain ⟨S4, eS4, h⟩ := ob_nm h
  refine x_iast C0 hP hS (fun S => lay_169 B ct S) g3 dX12_choose_239 (fun H locs hP hS => ?_)
  rw [← eS4] at hP
  refine lv_aload_n hx hb dX12_choose_240 rfl (lv_at hl 0 rfl) ?_
  refine x_get C0 hP (lay_X12 B ct S4) rfl inG12 42 (by decide) wd_1183 (fun _ h => h) rfl dX12_choose_241 ?_
  refine lv_iload hx hb dX12_choose_244 (lv_at hl 3 rfl) ?_
  refine lv_iload_n hx hb dX12_choose_246 rfl (lv_at hl 2 rfl) ?_
  obtain ⟨g5, h⟩ := ob_gd h
  obtain ⟨S6, eS6, h⟩ := ob_nm h
  refine x_iast C0 hP hS (fun S => lay_170 B ct S) g5 dX12_choose_247 (fun H locs hP hS => ?_)
  rw [← eS6] at hP
  refine lv_aload_n hx hb dX12_choose_248 rfl (lv_at hl 0 rfl) ?_
  refine x_get C0 hP (lay_X12 B ct S6) rfl inG12 32 (by decide) wd_1173 (fun _ h => h) rfl dX12_choose_249 ?_
  refine lv_iload_n hx hb dX12_choose_252 rfl (lv_at hl 1 rfl) ?_
  refine lv_aload_n hx hb dX12_choose_253 rfl (lv_at hl 0 rfl) ?_
  refine x_get C0 hP (lay_X12 B ct S6) rfl inG12 40 (by decide) wd_1181 (fun _ h => h) rfl dX12_choose_254 ?_
  refine lv_iload hx hb dX12_choose_257 (lv_at hl 3 rfl) ?_
  obtain ⟨g7, h⟩ := ob_gd h
  refine x_iald C0 hP ((fun S => lay_168 B ct S) S6) g7 dX12_choose_259 ?_
  obtain ⟨g8, h⟩ := ob_gd h
  obtain ⟨S9, eS9, h⟩ := ob_nm h
  refine x_iast C0 hP hS (fun S => lay_160 B ct S) g8 dX12_choose_260 (fun H locs hP hS => ?_)
  rw [← eS9] at hP
  exact r_Vw C0 hP hS h dX12_choose_261
set_option maxRecDepth 100000 in
set_option maxHeartbeats 4000000 in
theorem w_X12_choose_146 (l : Launch) {V : St} (C0 : XC D ct p s m args meth c cX12_choose 8 none RX12) (v1 : Int32) (v2 : Int32) (v4 : Int32) (S : St) {H : Heap} {locs : List Loc} {ls : Array Slot} (h : (b_X12_choose_146 v1 v2 v4 S).bind some = some V) (hP : MP D ct B Hb S H) (hS : va_S (AB B) s.heap H locs) (hl : lv_has ls 8 [(0, .ref (B + 136)), (1, .int v1), (2, .int v2), (4, .int v4)]) : W p l e { frames := 5, cells := 0, slots := 0, locals := 111 } s m args below meth c H locs 0 0 (MQ below (qVw D ct B Hb V) args s 0 0 (AB B)) (F0 m 146 ls []) := by
  obtain ⟨hx, hb, hr, hml, hown, hts, hK, hlocks, hN⟩ := id C0
  unfold b_X12_choose_146 at h
  refine lv_aload_n hx hb dX12_choose_146 rfl (lv_at hl 0 rfl) ?_
  refine x_get C0 hP (lay_X12 B ct S) rfl inG12 31 (by decide) wd_1172 (fun _ h => h) rfl dX12_choose_147 ?_
  refine lv_iload_n hx hb dX12_choose_150 rfl (lv_at hl 1 rfl) ?_
  refine lv_iconst (v := 1) hx hb dX12_choose_151 (by decide) ?_
  obtain ⟨g1, h⟩ := ob_gd h
  obtain ⟨S2, eS2, h⟩ := ob_nm h
  refine x_zast C0 hP hS (fun S => lay_159 B ct S) bool_1 g1 dX12_choose_152 (fun H locs hP hS => ?_)
  rw [← eS2] at hP
  refine lv_aload_n hx hb dX12_choose_153 rfl (lv_at hl 0 rfl) ?_
  refine x_get C0 hP (lay_X12 B ct S2) rfl inG12 32 (by decide) wd_1173 (fun _ h => h) rfl dX12_choose_154 ?_
  refine lv_iload_n hx hb dX12_choose_157 rfl (lv_at hl 1 rfl) ?_
  refine lv_aload_n hx hb dX12_choose_158 rfl (lv_at hl 0 rfl) ?_
  refine x_get C0 hP (lay_X12 B ct S2) rfl inG12 33 (by decide) wd_1174 (fun _ h => h) rfl dX12_choose_159 ?_
  refine lv_iload_n hx hb dX12_choose_162 rfl (lv_at hl 1 rfl) ?_
  obtain ⟨g3, h⟩ := ob_gd h
  refine x_iald C0 hP ((fun S => lay_161 B ct S) S2) g3 dX12_choose_163 ?_
  obtain ⟨r4, hr4, h⟩ := ob_bd h
  refine n_I (kS (As := [.int (gi S2 161 v1.toNatClampNeg)]) C0 (c_X12_sideOf l (gi S2 161 v1.toNatClampNeg) hr4) ⟨wd_1550, wd_1548, wd_1549, wd_6⟩ kd_X12_sideOf ⟨Nat.le_of_ble_eq_true rfl, Nat.le_of_ble_eq_true rfl⟩ hP rfl hl.1 rfl (Nat.le_of_ble_eq_true rfl) dX12_choose_164 ⟨Nat.le_of_ble_eq_true rfl, Nat.le_of_ble_eq_true rfl⟩) hS (fun H locs hP hS => ?_)
  obtain ⟨g5, h⟩ := ob_gd h
  obtain ⟨S6, eS6, h⟩ := ob_nm h
  refine x_iast C0 hP hS (fun S => lay_160 B ct S) g5 dX12_choose_167 (fun H locs hP hS => ?_)
  rw [← eS6] at hP
  refine lv_iload hx hb dX12_choose_168 (lv_at hl 3 rfl) ?_
  refine lv_if_lt (tgt := 261) hx hb dX12_choose_170 (by decide) (fun z7 => ?_) (fun z7 => ?_)
  · have h := ob_t h z7
    exact r_Vw C0 hP hS h dX12_choose_261
  · have h := ob_f h z7
    refine lv_aload_n hx hb dX12_choose_173 rfl (lv_at hl 0 rfl) ?_
    refine x_get C0 hP (lay_X12 B ct S6) rfl inG12 35 (by decide) wd_1176 (fun _ h => h) rfl dX12_choose_174 ?_
    refine lv_iload_n hx hb dX12_choose_177 rfl (lv_at hl 1 rfl) ?_
    refine lv_aload_n hx hb dX12_choose_178 rfl (lv_at hl 0 rfl) ?_
    refine lv_iload hx hb dX12_choose_179 (lv_at hl 3 rfl) ?_
    refine lv_iload_n hx hb dX12_choose_181 rfl (lv_at hl 2 rfl) ?_
    obtain ⟨r8, hr8, h⟩ := ob_bd h
    refine n_I (kV (As := [.int v4, .int v2]) C0 (c_X12_askedFor l v4 v2 hr8) ⟨wd_1582, wd_1579, wd_1581, wp_53, wd_6⟩ kd_X12_askedFor ⟨Nat.le_of_ble_eq_true rfl, Nat.le_of_ble_eq_true rfl⟩ hP (lay_X12 B ct S6) rfl rfl hl.1 rfl (Nat.le_of_ble_eq_true rfl) dX12_choose_182 ⟨Nat.le_of_ble_eq_true rfl, Nat.le_of_ble_eq_true rfl⟩) hS (fun H locs hP hS => ?_)
    obtain ⟨g9, h⟩ := ob_gd h
    obtain ⟨S10, eS10, h⟩ := ob_nm h
    refine x_iast C0 hP hS (fun S => lay_163 B ct S) g9 dX12_choose_185 (fun H locs hP hS => ?_)
    rw [← eS10] at hP
    refine lv_aload_n hx hb dX12_choose_186 rfl (lv_at hl 0 rfl) ?_
    refine x_get C0 hP (lay_X12 B ct S10) rfl inG12 36 (by decide) wd_1177 (fun _ h => h) rfl dX12_choose_187 ?_
    refine lv_iload_n hx hb dX12_choose_190 rfl (lv_at hl 1 rfl) ?_
    refine lv_dup2_11 hx hb dX12_choose_191 rfl rfl ?_
    obtain ⟨g11, h⟩ := ob_gd h
    refine x_iald C0 hP ((fun S => lay_164 B ct S) S10) g11 dX12_choose_192 ?_
    refine lv_aload_n hx hb dX12_choose_193 rfl (lv_at hl 0 rfl) ?_
    refine x_get C0 hP (lay_X12 B ct S10) rfl inG12 35 (by decide) wd_1176 (fun _ h => h) rfl dX12_choose_194 ?_
    refine lv_iload_n hx hb dX12_choose_197 rfl (lv_at hl 1 rfl) ?_
    obtain ⟨g12, h⟩ := ob_gd h
    refine x_iald C0 hP ((fun S => lay_163 B ct S) S10) g12 dX12_choose_198 ?_
    refine lv_isub hx hb dX12_choose_199 ?_
    obtain ⟨g13, h⟩ := ob_gd h
    obtain ⟨S14, eS14, h⟩ := ob_nm h
    refine x_iast C0 hP hS (fun S => lay_164 B ct S) g13 dX12_choose_200 (fun H locs hP hS => ?_)
    rw [← eS14] at hP
    refine lv_iload hx hb dX12_choose_201 (lv_at hl 3 rfl) ?_
    refine lv_bipush (v := 8) hx hb dX12_choose_203 (by decide) ?_
    refine lv_icmp_ge (tgt := 224) hx hb dX12_choose_205 (by decide) (fun z15 => ?_) (fun z15 => ?_)
    · have h := ob_t h z15
      exact w_X12_choose_224 l C0 v1 v2 v4 S14 h hP hS (lv_sub hl [0, 1, 2, 3] rfl)
    · have h := ob_f h z15
      refine lv_aload_n hx hb dX12_choose_208 rfl (lv_at hl 0 rfl) ?_
      refine x_get C0 hP (lay_X12 B ct S14) rfl inG12 36 (by decide) wd_1177 (fun _ h => h) rfl dX12_choose_209 ?_
      refine lv_iload hx hb dX12_choose_212 (lv_at hl 3 rfl) ?_
      refine lv_dup2_11 hx hb dX12_choose_214 rfl rfl ?_
      obtain ⟨g16, h⟩ := ob_gd h
      refine x_iald C0 hP ((fun S => lay_164 B ct S) S14) g16 dX12_choose_215 ?_
      refine lv_aload_n hx hb dX12_choose_216 rfl (lv_at hl 0 rfl) ?_
      refine x_get C0 hP (lay_X12 B ct S14) rfl inG12 35 (by decide) wd_1176 (fun _ h => h) rfl dX12_choose_217 ?_
      refine lv_iload_n hx hb dX12_choose_220 rfl (lv_at hl 1 rfl) ?_
      obtain ⟨g17, h⟩ := ob_gd h
      refine x_iald C0 hP ((fun S => lay_163 B ct S) S14) g17 dX12_choose_221 ?_
      refine lv_iadd hx hb dX12_choose_222 ?_
      obtain ⟨g18, h⟩ := ob_gd h
      obtain ⟨S19, eS19, h⟩ := ob_nm h
      refine x_iast C0 hP hS (fun S => lay_164 B ct S) g18 dX12_choose_223 (fun H locs hP hS => ?_)
      rw [← eS19] at hP
      exact w_X12_choose_224 l C0 v1 v2 v4 S19 h hP hS (lv_sub hl [0, 1, 2, 3] rfl)
set_option maxRecDepth 100000 in
set_option maxHeartbeats 4000000 in
theorem w_X12_choose_140 (l : Launch) {V : St} (C0 : XC D ct p s m args meth c cX12_choose 8 none RX12) (n0 : Nat) (ih0 : ∀ (v1 : Int32) (v2 : Int32) (v3 : Int32) (v4 : Int32) (v5 : Int32) (S : St) (H : Heap) (locs : List Loc) (ls : Array Slot), (lp n0 (l_X12_choose_47) (v1, v2, v3, v4, v5, S)).bind some = some V → MP D ct B Hb S H → va_S (AB B) s.heap H locs → lv_has ls 8 [(0, .ref (B + 136)), (1, .int v1), (2, .int v2), (3, .int v3), (4, .int v4), (5, .int v5)] → W p l e { frames := 5, cells := 0, slots := 0, locals := 111 } s m args below meth c H locs 0 0 (MQ below (qVw D ct B Hb V) args s 0 0 (AB B)) (F0 m 47 ls [])) (v1 : Int32) (v2 : Int32) (v3 : Int32) (v4 : Int32) (v5 : Int32) (S : St) {H : Heap} {locs : List Loc} {ls : Array Slot} (h : (b_X12_choose_140 v1 v2 v3 v4 v5 S).bind (lpF n0 (l_X12_choose_47) some) = some V) (hP : MP D ct B Hb S H) (hS : va_S (AB B) s.heap H locs) (hl : lv_has ls 8 [(0, .ref (B + 136)), (1, .int v1), (2, .int v2), (3, .int v3), (4, .int v4), (5, .int v5)]) : W p l e { frames := 5, cells := 0, slots := 0, locals := 111 } s m args below meth c H locs 0 0 (MQ below (qVw D ct B Hb V) args s 0 0 (AB B)) (F0 m 140 ls []) := by
  obtain ⟨hx, hb, hr, hml, hown, hts, hK, hlocks, hN⟩ := id C0
  unfold b_X12_choose_140 at h
  refine lv_iinc (v := v5 + 1) (lv' := [(5, .int (v5 + 1)), (0, .ref (B + 136)), (1, .int v1), (2, .int v2), (3, .int v3), (4, .int v4)]) hx hb dX12_choose_140 hl (k := 5) rfl rfl (by decide) rfl (fun ls hl => ?_)
  refine lv_goto (tgt := 47) hx hb dX12_choose_143 (by decide) ?_
  exact ih0 v1 v2 v3 v4 (v5 + 1) S _ _ _ h hP hS (lv_sub hl [1, 2, 3, 4, 5, 0] rfl)
set_option maxRecDepth 100000 in
set_option maxHeartbeats 4000000 in
theorem w_X12_choose_138 (l : Launch) {V : St} (C0 : XC D ct p s m args meth c cX12_choose 8 none RX12) (n0 : Nat) (ih0 : ∀ (v1 : Int32) (v2 : Int32) (v3 : Int32) (v4 : Int32) (v5 : Int32) (S : St) (H : Heap) (locs : List Loc) (ls : Array Slot), (lp n0 (l_X12_choose_47) (v1, v2, v3, v4, v5, S)).bind some = some V → MP D ct B Hb S H → va_S (AB B) s.heap H locs → lv_has ls 8 [(0, .ref (B + 136)), (1, .int v1), (2, .int v2), (3, .int v3), (4, .int v4), (5, .int v5)] → W p l e { frames := 5, cells := 0, slots := 0, locals := 111 } s m args below meth c H locs 0 0 (MQ below (qVw D ct B Hb V) args s 0 0 (AB B)) (F0 m 47 ls [])) (v1 : Int32) (v2 : Int32) (v3 : Int32) (v5 : Int32) (s0 : Int32) (S : St) {H : Heap} {locs : List Loc} {ls : Array Slot} (h : (b_X12_choose_138 v1 v2 v3 v5 s0 S).bind (lpF n0 (l_X12_choose_47) some) = some V) (hP : MP D ct B Hb S H) (hS : va_S (AB B) s.heap H locs) (hl : lv_has ls 8 [(0, .ref (B + 136)), (1, .int v1), (2, .int v2), (3, .int v3), (5, .int v5)]) : W p l e { frames := 5, cells := 0, slots := 0, locals := 111 } s m args below meth c H locs 0 0 (MQ below (qVw D ct B Hb V) args s 0 0 (AB B)) (F0 m 138 ls [.int s0]) := by
  obtain ⟨hx, hb, hr, hml, hown, hts, hK, hlocks, hN⟩ := id C0
  unfold b_X12_choose_138 at h
  refine lv_istore (lv' := [(4, .int s0), (0, .ref (B + 136)), (1, .int v1), (2, .int v2), (3, .int v3), (5, .int v5)]) hx hb dX12_choose_138 hl (by decide) rfl (fun ls hl => ?_)
  exact w_X12_choose_140 l C0 n0 ih0 v1 v2 v3 s0 v5 S h hP hS (lv_sub hl [1, 2, 3, 4, 0, 5] rfl)
set_option maxRecDepth 100000 in
set_option maxHeartbeats 4000000 in
theorem w_X12_choose_124 (l : Launch) {V : St} (C0 : XC D ct p s m args meth c cX12_choose 8 none RX12) (n0 : Nat) (ih0 : ∀ (v1 : Int32) (v2 : Int32) (v3 : Int32) (v4 : Int32) (v5 : Int32) (S : St) (H : Heap) (locs : List Loc) (ls : Array Slot), (lp n0 (l_X12_choose_47) (v1, v2, v3, v4, v5, S)).bind some = some V → MP D ct B Hb S H → va_S (AB B) s.heap H locs → lv_has ls 8 [(0, .ref (B + 136)), (1, .int v1), (2, .int v2), (3, .int v3), (4, .int v4), (5, .int v5)] → W p l e { frames := 5, cells := 0, slots := 0, locals := 111 } s m args below meth c H locs 0 0 (MQ below (qVw D ct B Hb V) args s 0 0 (AB B)) (F0 m 47 ls [])) (v1 : Int32) (v2 : Int32) (v3 : Int32) (v4 : Int32) (v5 : Int32) (s0 : Int32) (S : St) {H : Heap} {locs : List Loc} {ls : Array Slot} (h : (b_X12_choose_124 v1 v2 v3 v4 v5 s0 S).bind (lpF n0 (l_X12_choose_47) some) = some V) (hP : MP D ct B Hb S H) (hS : va_S (AB B) s.heap H locs) (hl : lv_has ls 8 [(0, .ref (B + 136)), (1, .int v1), (2, .int v2), (3, .int v3), (4, .int v4), (5, .int v5)]) : W p l e { frames := 5, cells := 0, slots := 0, locals := 111 } s m args below meth c H locs 0 0 (MQ below (qVw D ct B Hb V) args s 0 0 (AB B)) (F0 m 124 ls [.int s0]) := by
  obtain ⟨hx, hb, hr, hml, hown, hts, hK, hlocks, hN⟩ := id C0
  unfold b_X12_choose_124 at h
  refine lv_istore (lv' := [(7, .int s0), (0, .ref (B + 136)), (1, .int v1), (2, .int v2), (3, .int v3), (4, .int v4), (5, .int v5)]) hx hb dX12_choose_124 hl (by decide) rfl (fun ls hl => ?_)
  refine lv_iload hx hb dX12_choose_126 (lv_at hl 0 rfl) ?_
  refine lv_if_eq (tgt := 136) hx hb dX12_choose_128 (by decide) (fun z1 => ?_) (fun z1 => ?_)
  · have h := ob_t h z1
    refine lv_iload hx hb dX12_choose_136 (lv_at hl 5 rfl) ?_
    exact w_X12_choose_138 l C0 n0 ih0 v1 v2 v3 v5 v4 S h hP hS (lv_sub hl [1, 2, 3, 4, 6] rfl)
  · have h := ob_f h z1
    refine lv_iload hx hb dX12_choose_131 (lv_at hl 6 rfl) ?_
    refine lv_goto (tgt := 138) hx hb dX12_choose_133 (by decide) ?_
    exact w_X12_choose_138 l C0 n0 ih0 v1 v2 v3 v5 v5 S h hP hS (lv_sub hl [1, 2, 3, 4, 6] rfl)
set_option maxRecDepth 100000 in
set_option maxHeartbeats 4000000 in
theorem w_X12_choose_119 (l : Launch) {V : St} (C0 : XC D ct p s m args meth c cX12_choose 8 none RX12) (n0 : Nat) (ih0 : ∀ (v1 : Int32) (v2 : Int32) (v3 : Int32) (v4 : Int32) (v5 : Int32) (S : St) (H : Heap) (locs : List Loc) (ls : Array Slot), (lp n0 (l_X12_choose_47) (v1, v2, v3, v4, v5, S)).bind some = some V → MP D ct B Hb S H → va_S (AB B) s.heap H locs → lv_has ls 8 [(0, .ref (B + 136)), (1, .int v1), (2, .int v2), (3, .int v3), (4, .int v4), (5, .int v5)] → W p l e { frames := 5, cells := 0, slots := 0, locals := 111 } s m args below meth c H locs 0 0 (MQ below (qVw D ct B Hb V) args s 0 0 (AB B)) (F0 m 47 ls [])) (v1 : Int32) (v2 : Int32) (v3 : Int32) (v4 : Int32) (v5 : Int32) (S : St) {H : Heap} {locs : List Loc} {ls : Array Slot} (h : (b_X12_choose_119 v1 v2 v3 v4 v5 S).bind (lpF n0 (l_X12_choose_47) some) = some V) (hP : MP D ct B Hb S H) (hS : va_S (AB B) s.heap H locs) (hl : lv_has ls 8 [(0, .ref (B + 136)), (1, .int v1), (2, .int v2), (3, .int v3), (4, .int v4), (5, .int v5)]) : W p l e { frames := 5, cells := 0, slots := 0, locals := 111 } s m args below meth c H locs 0 0 (MQ below (qVw D ct B Hb V) args s 0 0 (AB B)) (F0 m 119 ls []) := by
  obtain ⟨hx, hb, hr, hml, hown, hts, hK, hlocks, hN⟩ := id C0
  unfold b_X12_choose_119 at h
  refine lv_iconst (v := 1) hx hb dX12_choose_119 (by decide) ?_
  refine lv_goto (tgt := 124) hx hb dX12_choose_120 (by decide) ?_
  exact w_X12_choose_124 l C0 n0 ih0 v1 v2 v3 v4 v5 1 S h hP hS (lv_sub hl [0, 1, 2, 3, 4, 5] rfl)
set_option maxRecDepth 100000 in
set_option maxHeartbeats 4000000 in
theorem w_X12_choose_123 (l : Launch) {V : St} (C0 : XC D ct p s m args meth c cX12_choose 8 none RX12) (n0 : Nat) (ih0 : ∀ (v1 : Int32) (v2 : Int32) (v3 : Int32) (v4 : Int32) (v5 : Int32) (S : St) (H : Heap) (locs : List Loc) (ls : Array Slot), (lp n0 (l_X12_choose_47) (v1, v2, v3, v4, v5, S)).bind some = some V → MP D ct B Hb S H → va_S (AB B) s.heap H locs → lv_has ls 8 [(0, .ref (B + 136)), (1, .int v1), (2, .int v2), (3, .int v3), (4, .int v4), (5, .int v5)] → W p l e { frames := 5, cells := 0, slots := 0, locals := 111 } s m args below meth c H locs 0 0 (MQ below (qVw D ct B Hb V) args s 0 0 (AB B)) (F0 m 47 ls [])) (v1 : Int32) (v2 : Int32) (v3 : Int32) (v4 : Int32) (v5 : Int32) (S : St) {H : Heap} {locs : List Loc} {ls : Array Slot} (h : (b_X12_choose_123 v1 v2 v3 v4 v5 S).bind (lpF n0 (l_X12_choose_47) some) = some V) (hP : MP D ct B Hb S H) (hS : va_S (AB B) s.heap H locs) (hl : lv_has ls 8 [(0, .ref (B + 136)), (1, .int v1), (2, .int v2), (3, .int v3), (4, .int v4), (5, .int v5)]) : W p l e { frames := 5, cells := 0, slots := 0, locals := 111 } s m args below meth c H locs 0 0 (MQ below (qVw D ct B Hb V) args s 0 0 (AB B)) (F0 m 123 ls []) := by
  obtain ⟨hx, hb, hr, hml, hown, hts, hK, hlocks, hN⟩ := id C0
  unfold b_X12_choose_123 at h
  refine lv_iconst (v := 0) hx hb dX12_choose_123 (by decide) ?_
  exact w_X12_choose_124 l C0 n0 ih0 v1 v2 v3 v4 v5 0 S h hP hS (lv_sub hl [0, 1, 2, 3, 4, 5] rfl)
set_option maxRecDepth 100000 in
set_option maxHeartbeats 4000000 in
theorem w_X12_choose_90 (l : Launch) {V : St} (C0 : XC D ct p s m args meth c cX12_choose 8 none RX12) (n0 : Nat) (ih0 : ∀ (v1 : Int32) (v2 : Int32) (v3 : Int32) (v4 : Int32) (v5 : Int32) (S : St) (H : Heap) (locs : List Loc) (ls : Array Slot), (lp n0 (l_X12_choose_47) (v1, v2, v3, v4, v5, S)).bind some = some V → MP D ct B Hb S H → va_S (AB B) s.heap H locs → lv_has ls 8 [(0, .ref (B + 136)), (1, .int v1), (2, .int v2), (3, .int v3), (4, .int v4), (5, .int v5)] → W p l e { frames := 5, cells := 0, slots := 0, locals := 111 } s m args below meth c H locs 0 0 (MQ below (qVw D ct B Hb V) args s 0 0 (AB B)) (F0 m 47 ls [])) (v1 : Int32) (v2 : Int32) (v3 : Int32) (v4 : Int32) (v5 : Int32) (s0 : Int32) (S : St) {H : Heap} {locs : List Loc} {ls : Array Slot} (h : (b_X12_choose_90 v1 v2 v3 v4 v5 s0 S).bind (lpF n0 (l_X12_choose_47) some) = some V) (hP : MP D ct B Hb S H) (hS : va_S (AB B) s.heap H locs) (hl : lv_has ls 8 [(0, .ref (B + 136)), (1, .int v1), (2, .int v2), (3, .int v3), (4, .int v4), (5, .int v5)]) : W p l e { frames := 5, cells := 0, slots := 0, locals := 111 } s m args below meth c H locs 0 0 (MQ below (qVw D ct B Hb V) args s 0 0 (AB B)) (F0 m 90 ls [.int s0]) := by
  obtain ⟨hx, hb, hr, hml, hown, hts, hK, hlocks, hN⟩ := id C0
  unfold b_X12_choose_90 at h
  refine lv_istore (lv' := [(6, .int s0), (0, .ref (B + 136)), (1, .int v1), (2, .int v2), (3, .int v3), (4, .int v4), (5, .int v5)]) hx hb dX12_choose_90 hl (by decide) rfl (fun ls hl => ?_)
  refine lv_iload hx hb dX12_choose_92 (lv_at hl 0 rfl) ?_
  refine lv_if_gt (tgt := 119) hx hb dX12_choose_94 (by decide) (fun z1 => ?_) (fun z1 => ?_)
  · have h := ob_t h z1
    exact w_X12_choose_119 l C0 n0 ih0 v1 v2 v3 v4 v5 S h hP hS (lv_sub hl [1, 2, 3, 4, 5, 6] rfl)
  · have h := ob_f h z1
    refine lv_iload hx hb dX12_choose_97 (lv_at hl 0 rfl) ?_
    refine lv_if_ne (tgt := 123) hx hb dX12_choose_99 (by decide) (fun z2 => ?_) (fun z2 => ?_)
    · have h := ob_f h z2
      exact w_X12_choose_123 l C0 n0 ih0 v1 v2 v3 v4 v5 S h hP hS (lv_sub hl [1, 2, 3, 4, 5, 6] rfl)
    · have h := ob_t h z2
      refine lv_aload_n hx hb dX12_choose_102 rfl (lv_at hl 1 rfl) ?_
      refine lv_iload hx hb dX12_choose_103 (lv_at hl 6 rfl) ?_
      refine lv_iload_n hx hb dX12_choose_105 rfl (lv_at hl 3 rfl) ?_
      obtain ⟨r3, hr3, h⟩ := ob_bd h
      refine n_I (kV (As := [.int v5, .int v2]) C0 (c_X12_askedFor l v5 v2 hr3) ⟨wd_1582, wd_1579, wd_1581, wp_53, wd_6⟩ kd_X12_askedFor ⟨Nat.le_of_ble_eq_true rfl, Nat.le_of_ble_eq_true rfl⟩ hP (lay_X12 B ct S) rfl rfl hl.1 rfl (Nat.le_of_ble_eq_true rfl) dX12_choose_106 ⟨Nat.le_of_ble_eq_true rfl, Nat.le_of_ble_eq_true rfl⟩) hS (fun H locs hP hS => ?_)
      refine lv_aload_n hx hb dX12_choose_109 rfl (lv_at hl 1 rfl) ?_
      refine lv_iload hx hb dX12_choose_110 (lv_at hl 5 rfl) ?_
      refine lv_iload_n hx hb dX12_choose_112 rfl (lv_at hl 3 rfl) ?_
      obtain ⟨r4, hr4, h⟩ := ob_bd h
      refine n_I (kV (As := [.int v4, .int v2]) C0 (c_X12_askedFor l v4 v2 hr4) ⟨wd_1582, wd_1579, wd_1581, wp_53, wd_6⟩ kd_X12_askedFor ⟨Nat.le_of_ble_eq_true rfl, Nat.le_of_ble_eq_true rfl⟩ hP (lay_X12 B ct S) rfl rfl hl.1 rfl (Nat.le_of_ble_eq_true rfl) dX12_choose_113 ⟨Nat.le_of_ble_eq_true rfl, Nat.le_of_ble_eq_true rfl⟩) hS (fun H locs hP hS => ?_)
      refine lv_icmp_ge (tgt := 123) hx hb dX12_choose_116 (by decide) (fun z5 => ?_) (fun z5 => ?_)
      · have h := ob_t h z5
        exact w_X12_choose_123 l C0 n0 ih0 v1 v2 v3 v4 v5 S h hP hS (lv_sub hl [1, 2, 3, 4, 5, 6] rfl)
      · have h := ob_f h z5
        exact w_X12_choose_119 l C0 n0 ih0 v1 v2 v3 v4 v5 S h hP hS (lv_sub hl [1, 2, 3, 4, 5, 6] rfl)
set_option maxRecDepth 100000 in
set_option maxHeartbeats 4000000 in
theorem w_X12_choose_47 (l : Launch) {V : St} (C0 : XC D ct p s m args meth c cX12_choose 8 none RX12) (n0 : Nat) (ih0 : ∀ (v1 : Int32) (v2 : Int32) (v3 : Int32) (v4 : Int32) (v5 : Int32) (S : St) (H : Heap) (locs : List Loc) (ls : Array Slot), (lp n0 (l_X12_choose_47) (v1, v2, v3, v4, v5, S)).bind some = some V → MP D ct B Hb S H → va_S (AB B) s.heap H locs → lv_has ls 8 [(0, .ref (B + 136)), (1, .int v1), (2, .int v2), (3, .int v3), (4, .int v4), (5, .int v5)] → W p l e { frames := 5, cells := 0, slots := 0, locals := 111 } s m args below meth c H locs 0 0 (MQ below (qVw D ct B Hb V) args s 0 0 (AB B)) (F0 m 47 ls [])) (v1 : Int32) (v2 : Int32) (v3 : Int32) (v4 : Int32) (v5 : Int32) (S : St) {H : Heap} {locs : List Loc} {ls : Array Slot} (h : (b_X12_choose_47 v1 v2 v3 v4 v5 S).bind (lpF n0 (l_X12_choose_47) some) = some V) (hP : MP D ct B Hb S H) (hS : va_S (AB B) s.heap H locs) (hl : lv_has ls 8 [(0, .ref (B + 136)), (1, .int v1), (2, .int v2), (3, .int v3), (4, .int v4), (5, .int v5)]) : W p l e { frames := 5, cells := 0, slots := 0, locals := 111 } s m args below meth c H locs 0 0 (MQ below (qVw D ct B Hb V) args s 0 0 (AB B)) (F0 m 47 ls []) := by
  obtain ⟨hx, hb, hr, hml, hown, hts, hK, hlocks, hN⟩ := id C0
  unfold b_X12_choose_47 at h
  refine lv_iload hx hb dX12_choose_47 (lv_at hl 5 rfl) ?_
  refine lv_bipush (v := 11) hx hb dX12_choose_49 (by decide) ?_
  refine lv_icmp_ge (tgt := 146) hx hb dX12_choose_51 (by decide) (fun z1 => ?_) (fun z1 => ?_)
  · have h := ob_t h z1
    have h := ob_mp h
    exact w_X12_choose_146 l C0 v1 v2 v4 S h hP hS (lv_sub hl [0, 1, 2, 4] rfl)
  · have h := ob_f h z1
    refine lv_aload_n hx hb dX12_choose_54 rfl (lv_at hl 0 rfl) ?_
    refine lv_iload_n hx hb dX12_choose_55 rfl (lv_at hl 1 rfl) ?_
    refine lv_iload hx hb dX12_choose_56 (lv_at hl 5 rfl) ?_
    refine lv_iload_n hx hb dX12_choose_58 rfl (lv_at hl 2 rfl) ?_
    refine lv_iload_n hx hb dX12_choose_59 rfl (lv_at hl 3 rfl) ?_
    obtain ⟨r2, hr2, h⟩ := ob_bd h
    refine n_I (kV (As := [.int v1, .int v5, .int v2, .int v3]) C0 (c_X12_mayBuy l v1 v5 v2 v3 hr2) ⟨wd_1558, wd_1555, wd_1557, wp_47, wd_6⟩ kd_X12_mayBuy ⟨Nat.le_of_ble_eq_true rfl, Nat.le_of_ble_eq_true rfl⟩ hP (lay_X12 B ct S) rfl rfl hl.1 rfl (Nat.le_of_ble_eq_true rfl) dX12_choose_60 ⟨Nat.le_of_ble_eq_true rfl, Nat.le_of_ble_eq_true rfl⟩) hS (fun H locs hP hS => ?_)
    refine lv_if_eq (tgt := 140) hx hb dX12_choose_63 (by decide) (fun z3 => ?_) (fun z3 => ?_)
    · have h := ob_t h z3
      exact w_X12_choose_140 l C0 n0 ih0 v1 v2 v3 v4 v5 S h hP hS (lv_sub hl [0, 1, 2, 3, 4, 5] rfl)
    · have h := ob_f h z3
      refine lv_iload hx hb dX12_choose_66 (lv_at hl 4 rfl) ?_
      refine lv_if_ge (tgt := 75) hx hb dX12_choose_68 (by decide) (fun z4 => ?_) (fun z4 => ?_)
      · have h := ob_t h z4
        refine lv_aload_n hx hb dX12_choose_75 rfl (lv_at hl 0 rfl) ?_
        refine lv_iload hx hb dX12_choose_76 (lv_at hl 5 rfl) ?_
        refine lv_iload_n hx hb dX12_choose_78 rfl (lv_at hl 2 rfl) ?_
        obtain ⟨r5, hr5, h⟩ := ob_bd h
        refine n_I (kV (As := [.int v5, .int v2]) C0 (c_X12_leftOf l v5 v2 hr5) ⟨wd_1570, wd_1567, wd_1569, wp_50, wd_6⟩ kd_X12_leftOf ⟨Nat.le_of_ble_eq_true rfl, Nat.le_of_ble_eq_true rfl⟩ hP (lay_X12 B ct S) rfl rfl hl.1 rfl (Nat.le_of_ble_eq_true rfl) dX12_choose_79 ⟨Nat.le_of_ble_eq_true rfl, Nat.le_of_ble_eq_true rfl⟩) hS (fun H locs hP hS => ?_)
        refine lv_aload_n hx hb dX12_choose_82 rfl (lv_at hl 0 rfl) ?_
        refine lv_iload hx hb dX12_choose_83 (lv_at hl 4 rfl) ?_
        refine lv_iload_n hx hb dX12_choose_85 rfl (lv_at hl 2 rfl) ?_
        obtain ⟨r6, hr6, h⟩ := ob_bd h
        refine n_I (kV (As := [.int v4, .int v2]) C0 (c_X12_leftOf l v4 v2 hr6) ⟨wd_1570, wd_1567, wd_1569, wp_50, wd_6⟩ kd_X12_leftOf ⟨Nat.le_of_ble_eq_true rfl, Nat.le_of_ble_eq_true rfl⟩ hP (lay_X12 B ct S) rfl rfl hl.1 rfl (Nat.le_of_ble_eq_true rfl) dX12_choose_86 ⟨Nat.le_of_ble_eq_true rfl, Nat.le_of_ble_eq_true rfl⟩) hS (fun H locs hP hS => ?_)
        refine lv_isub hx hb dX12_choose_89 ?_
        exact w_X12_choose_90 l C0 n0 ih0 v1 v2 v3 v4 v5 (r5 - r6) S h hP hS (lv_sub hl [0, 1, 2, 3, 4, 5] rfl)
      · have h := ob_f h z4
        refine lv_iconst (v := 1) hx hb dX12_choose_71 (by decide) ?_
        refine lv_goto (tgt := 90) hx hb dX12_choose_72 (by decide) ?_
        exact w_X12_choose_90 l C0 n0 ih0 v1 v2 v3 v4 v5 1 S h hP hS (lv_sub hl [0, 1, 2, 3, 4, 5] rfl)
set_option maxRecDepth 100000 in
set_option maxHeartbeats 4000000 in
theorem wl_X12_choose_47 (l : Launch) {V : St} (C0 : XC D ct p s m args meth c cX12_choose 8 none RX12)  : ∀ (n0 : Nat) (v1 : Int32) (v2 : Int32) (v3 : Int32) (v4 : Int32) (v5 : Int32) (S : St) {H : Heap} {locs : List Loc} {ls : Array Slot}, (lp n0 (l_X12_choose_47) (v1, v2, v3, v4, v5, S)).bind some = some V → MP D ct B Hb S H → va_S (AB B) s.heap H locs → lv_has ls 8 [(0, .ref (B + 136)), (1, .int v1), (2, .int v2), (3, .int v3), (4, .int v4), (5, .int v5)] → W p l e { frames := 5, cells := 0, slots := 0, locals := 111 } s m args below meth c H locs 0 0 (MQ below (qVw D ct B Hb V) args s 0 0 (AB B)) (F0 m 47 ls []) := by
  intro n0
  induction n0 with
  | zero =>
    intro v1 v2 v3 v4 v5 S H locs ls h hP hS hl
    exact (lp_0 h).elim
  | succ n0 ih0 =>
    intro v1 v2 v3 v4 v5 S H locs ls h hP hS hl
    have h := lp_s h
    exact w_X12_choose_47 l C0 n0 (fun v1 v2 v3 v4 v5 S H locs ls h hP hS hl => ih0 v1 v2 v3 v4 v5 S h hP hS hl) v1 v2 v3 v4 v5 S h hP hS hl
set_option maxRecDepth 100000 in
set_option maxHeartbeats 4000000 in
theorem w_X12_choose_0 (l : Launch) {V : St} (C0 : XC D ct p s m args meth c cX12_choose 8 none RX12) (v1 : Int32) (v2 : Int32) (S : St) {H : Heap} {locs : List Loc} {ls : Array Slot} (h : (b_X12_choose_0 v1 v2 S).bind some = some V) (hP : MP D ct B Hb S H) (hS : va_S (AB B) s.heap H locs) (hl : lv_has ls 8 [(0, .ref (B + 136)), (1, .int v1), (2, .int v2)]) : W p l e { frames := 5, cells := 0, slots := 0, locals := 111 } s m args below meth c H locs 0 0 (MQ below (qVw D ct B Hb V) args s 0 0 (AB B)) (F0 m 0 ls []) := by
  obtain ⟨hx, hb, hr, hml, hown, hts, hK, hlocks, hN⟩ := id C0
  unfold b_X12_choose_0 at h
  refine lv_aload_n hx hb dX12_choose_0 rfl (lv_at hl 0 rfl) ?_
  refine x_get C0 hP (lay_X12 B ct S) rfl inG12 33 (by decide) wd_1174 (fun _ h => h) rfl dX12_choose_1 ?_
  refine lv_iload_n hx hb dX12_choose_4 rfl (lv_at hl 1 rfl) ?_
  refine lv_aload_n hx hb dX12_choose_5 rfl (lv_at hl 0 rfl) ?_
  refine lv_iload_n hx hb dX12_choose_6 rfl (lv_at hl 1 rfl) ?_
  refine lv_aload_n hx hb dX12_choose_7 rfl (lv_at hl 0 rfl) ?_
  refine x_get C0 hP (lay_X12 B ct S) rfl inG12 20 (by decide) wd_1161 (fun _ h => h) rfl dX12_choose_8 ?_
  refine lv_iload_n hx hb dX12_choose_11 rfl (lv_at hl 1 rfl) ?_
  obtain ⟨g1, h⟩ := ob_gd h
  refine x_iald C0 hP ((fun S => lay_151 B ct S) S) g1 dX12_choose_12 ?_
  refine lv_aload_n hx hb dX12_choose_13 rfl (lv_at hl 0 rfl) ?_
  refine lv_aload_n hx hb dX12_choose_14 rfl (lv_at hl 0 rfl) ?_
  refine x_get C0 hP (lay_X12 B ct S) rfl inG12 18 (by decide) wd_1159 (fun _ h => h) rfl dX12_choose_15 ?_
  refine lv_iload_n hx hb dX12_choose_18 rfl (lv_at hl 1 rfl) ?_
  obtain ⟨g2, h⟩ := ob_gd h
  refine x_iald C0 hP ((fun S => lay_149 B ct S) S) g2 dX12_choose_19 ?_
  refine lv_iload_n hx hb dX12_choose_20 rfl (lv_at hl 2 rfl) ?_
  obtain ⟨r3, hr3, h⟩ := ob_bd h
  refine n_I (kV (As := [.int (gi S 149 v1.toNatClampNeg), .int v2]) C0 (c_X12_factsBy l (gi S 149 v1.toNatClampNeg) v2 hr3) ⟨wd_1547, wd_1544, wd_1546, wp_45, wd_6⟩ kd_X12_factsBy ⟨Nat.le_of_ble_eq_true rfl, Nat.le_of_ble_eq_true rfl⟩ hP (lay_X12 B ct S) rfl rfl hl.1 rfl (Nat.le_of_ble_eq_true rfl) dX12_choose_21 ⟨Nat.le_of_ble_eq_true rfl, Nat.le_of_ble_eq_true rfl⟩) hS (fun H locs hP hS => ?_)
  obtain ⟨r4, hr4, h⟩ := ob_bd h
  refine n_I (kV (As := [.int v1, .int (gi S 151 v1.toNatClampNeg), .int r3]) C0 (c_X12_sumOf l v1 (gi S 151 v1.toNatClampNeg) r3 hr4) ⟨wd_1464, wd_1461, wd_1463, wp_39, wd_6⟩ kd_X12_sumOf ⟨Nat.le_of_ble_eq_true rfl, Nat.le_of_ble_eq_true rfl⟩ hP (lay_X12 B ct S) rfl rfl hl.1 rfl (Nat.le_of_ble_eq_true rfl) dX12_choose_24 ⟨Nat.le_of_ble_eq_true rfl, Nat.le_of_ble_eq_true rfl⟩) hS (fun H locs hP hS => ?_)
  obtain ⟨g5, h⟩ := ob_gd h
  obtain ⟨S6, eS6, h⟩ := ob_nm h
  refine x_iast C0 hP hS (fun S => lay_161 B ct S) g5 dX12_choose_27 (fun H locs hP hS => ?_)
  rw [← eS6] at hP
  refine lv_aload_n hx hb dX12_choose_28 rfl (lv_at hl 0 rfl) ?_
  refine lv_iload_n hx hb dX12_choose_29 rfl (lv_at hl 1 rfl) ?_
  refine lv_aload_n hx hb dX12_choose_30 rfl (lv_at hl 0 rfl) ?_
  refine x_get C0 hP (lay_X12 B ct S6) rfl inG12 33 (by decide) wd_1174 (fun _ h => h) rfl dX12_choose_31 ?_
  refine lv_iload_n hx hb dX12_choose_34 rfl (lv_at hl 1 rfl) ?_
  obtain ⟨g7, h⟩ := ob_gd h
  refine x_iald C0 hP ((fun S => lay_161 B ct S) S6) g7 dX12_choose_35 ?_
  obtain ⟨r8, hr8, h⟩ := ob_bd h
  refine n_I (kV (As := [.int v1, .int (gi S6 161 v1.toNatClampNeg)]) C0 (c_X12_strengthOf l v1 (gi S6 161 v1.toNatClampNeg) hr8) ⟨wd_1475, wd_1472, wd_1474, wp_40, wd_6⟩ kd_X12_strengthOf ⟨Nat.le_of_ble_eq_true rfl, Nat.le_of_ble_eq_true rfl⟩ hP (lay_X12 B ct S6) rfl rfl hl.1 rfl (Nat.le_of_ble_eq_true rfl) dX12_choose_36 ⟨Nat.le_of_ble_eq_true rfl, Nat.le_of_ble_eq_true rfl⟩) hS (fun H locs hP hS => ?_)
  refine lv_istore_n (lv' := [(3, .int r8), (0, .ref (B + 136)), (1, .int v1), (2, .int v2)]) hx hb dX12_choose_39 rfl hl (by decide) rfl (fun ls hl => ?_)
  refine lv_bipush (v := (-9)) hx hb dX12_choose_40 (by decide) ?_
  refine lv_istore (lv' := [(4, .int ((-9))), (3, .int r8), (0, .ref (B + 136)), (1, .int v1), (2, .int v2)]) hx hb dX12_choose_42 hl (by decide) rfl (fun ls hl => ?_)
  refine lv_iconst (v := 0) hx hb dX12_choose_44 (by decide) ?_
  refine lv_istore (lv' := [(5, .int 0), (4, .int ((-9))), (3, .int r8), (0, .ref (B + 136)), (1, .int v1), (2, .int v2)]) hx hb dX12_choose_45 hl (by decide) rfl (fun ls hl => ?_)
  exact wl_X12_choose_47 l C0 1000 v1 v2 r8 ((-9)) 0 S6 h hP hS (lv_sub hl [3, 4, 5, 2, 1, 0] rfl)
set_option maxRecDepth 100000 in
set_option maxHeartbeats 4000000 in
theorem c_X12_choose (l : Launch) (a1 : Int32) (a2 : Int32) {D : va_G} {ct : Nat → ClassId} {B : Nat} {Hb : Heap} {S : St} {V : St} (h : L_X12_choose a1 a2 S = some V) : Met l yX12_choose (Cond.code yX12_choose cX12_choose 8 none :: tG) { frames := 5, cells := 0, slots := 0, locals := 111 } (va_Pc [.ref (B + 136), .int a1, .int a2] (MPK D ct B Hb S)) (qVw D ct B Hb V) 0 0 (AB B) := by
  refine mk_met (by decide +kernel) (Nat.le_of_ble_eq_true rfl) (fun p e s m args below meth c ls C0 hP hl _ => ?_)
  have h := ob_of h
  exact w_X12_choose_0 l C0 a1 a2 S h hP va_S.rf (lv_sub hl [0, 1, 2] rfl)
set_option maxRecDepth 100000 in
set_option maxHeartbeats 4000000 in
theorem w_X12_day_281 (l : Launch) {V : St} (C0 : XC D ct p s m args meth c cX12_day 3 none RX12) (n0 : Nat) (ih0 : ∀ (v1 : Int32) (S : St) (H : Heap) (locs : List Loc) (ls : Array Slot), (lp n0 (l_X12_day_123) (v1, S)).bind some = some V → MP D ct B Hb S H → va_S (AB B) s.heap H locs → lv_has ls 3 [(0, .ref (B + 136)), (1, .int v1)] → W p l e { frames := 6, cells := 0, slots := 0, locals := 138 } s m args below meth c H locs 0 0 (MQ below (qVw D ct B Hb V) args s 0 0 (AB B)) (F0 m 123 ls [])) (v1 : Int32) (S : St) {H : Heap} {locs : List Loc} {ls : Array Slot} (h : (b_X12_day_281 v1 S).bind (lpF n0 (l_X12_day_123) some) = some V) (hP : MP D ct B Hb S H) (hS : va_S (AB B) s.heap H locs) (hl : lv_has ls 3 [(0, .ref (B + 136)), (1, .int v1)]) : W p l e { frames := 6, cells := 0, slots := 0, locals := 138 } s m args below meth c H locs 0 0 (MQ below (qVw D ct B Hb V) args s 0 0 (AB B)) (F0 m 281 ls []) := by
  obtain ⟨hx, hb, hr, hml, hown, hts, hK, hlocks, hN⟩ := id C0
  unfold b_X12_day_281 at h
  refine lv_iinc (v := v1 + 1) (lv' := [(1, .int (v1 + 1)), (0, .ref (B + 136))]) hx hb dX12_day_281 hl (k := 1) rfl rfl (by decide) rfl (fun ls hl => ?_)
  refine lv_goto (tgt := 123) hx hb dX12_day_284 (by decide) ?_
  exact ih0 (v1 + 1) S _ _ _ h hP hS (lv_sub hl [1, 0] rfl)
set_option maxRecDepth 100000 in
set_option maxHeartbeats 4000000 in
theorem w_X12_day_250 (l : Launch) {V : St} (C0 : XC D ct p s m args meth c cX12_day 3 none RX12) (n0 : Nat) (ih0 : ∀ (v1 : Int32) (S : St) (H : Heap) (locs : List Loc) (ls : Array Slot), (lp n0 (l_X12_day_123) (v1, S)).bind some = some V → MP D ct B Hb S H → va_S (AB B) s.heap H locs → lv_has ls 3 [(0, .ref (B + 136)), (1, .int v1)] → W p l e { frames := 6, cells := 0, slots := 0, locals := 138 } s m args below meth c H locs 0 0 (MQ below (qVw D ct B Hb V) args s 0 0 (AB B)) (F0 m 123 ls [])) (n1 : Nat) (ih1 : ∀ (v1 : Int32) (v2 : Int32) (S : St) (H : Heap) (locs : List Loc) (ls : Array Slot), (lp n1 (l_X12_day_250) (v1, v2, S)).bind (lpF n0 (l_X12_day_123) some) = some V → MP D ct B Hb S H → va_S (AB B) s.heap H locs → lv_has ls 3 [(0, .ref (B + 136)), (1, .int v1), (2, .int v2)] → W p l e { frames := 6, cells := 0, slots := 0, locals := 138 } s m args below meth c H locs 0 0 (MQ below (qVw D ct B Hb V) args s 0 0 (AB B)) (F0 m 250 ls [])) (v1 : Int32) (v2 : Int32) (S : St) {H : Heap} {locs : List Loc} {ls : Array Slot} (h : (b_X12_day_250 v1 v2 S).bind (lpF n1 (l_X12_day_250) (lpF n0 (l_X12_day_123) some)) = some V) (hP : MP D ct B Hb S H) (hS : va_S (AB B) s.heap H locs) (hl : lv_has ls 3 [(0, .ref (B + 136)), (1, .int v1), (2, .int v2)]) : W p l e { frames := 6, cells := 0, slots := 0, locals := 138 } s m args below meth c H locs 0 0 (MQ below (qVw D ct B Hb V) args s 0 0 (AB B)) (F0 m 250 ls []) := by
  obtain ⟨hx, hb, hr, hml, hown, hts, hK, hlocks, hN⟩ := id C0
  unfold b_X12_day_250 at h
  refine lv_iload_n hx hb dX12_day_250 rfl (lv_at hl 2 rfl) ?_
  refine lv_aload_n hx hb dX12_day_251 rfl (lv_at hl 0 rfl) ?_
  refine x_get C0 hP (lay_X12 B ct S) rfl inG12 15 (by decide) wd_1156 (fun _ h => h) rfl dX12_day_252 ?_
  refine lv_icmp_ge (tgt := 281) hx hb dX12_day_255 (by decide) (fun z1 => ?_) (fun z1 => ?_)
  · have h := ob_t h z1
    have h := ob_mp h
    exact w_X12_day_281 l C0 n0 ih0 v1 S h hP hS (lv_sub hl [0, 1] rfl)
  · have h := ob_f h z1
    refine lv_aload_n hx hb dX12_day_258 rfl (lv_at hl 0 rfl) ?_
    refine x_get C0 hP (lay_X12 B ct S) rfl inG12 43 (by decide) wd_1184 (fun _ h => h) rfl dX12_day_259 ?_
    refine lv_bipush (v := 8) hx hb dX12_day_262 (by decide) ?_
    refine lv_iload_n hx hb dX12_day_264 rfl (lv_at hl 1 rfl) ?_
    refine lv_imul hx hb dX12_day_265 ?_
    refine lv_iload_n hx hb dX12_day_266 rfl (lv_at hl 2 rfl) ?_
    refine lv_iadd hx hb dX12_day_267 ?_
    refine lv_aload_n hx hb dX12_day_268 rfl (lv_at hl 0 rfl) ?_
    refine x_get C0 hP (lay_X12 B ct S) rfl inG12 36 (by decide) wd_1177 (fun _ h => h) rfl dX12_day_269 ?_
    refine lv_iload_n hx hb dX12_day_272 rfl (lv_at hl 2 rfl) ?_
    obtain ⟨g2, h⟩ := ob_gd h
    refine x_iald C0 hP ((fun S => lay_164 B ct S) S) g2 dX12_day_273 ?_
    obtain ⟨g3, h⟩ := ob_gd h
    obtain ⟨S4, eS4, h⟩ := ob_nm h
    refine x_iast C0 hP hS (fun S => lay_171 B ct S) g3 dX12_day_274 (fun H locs hP hS => ?_)
    rw [← eS4] at hP
    refine lv_iinc (v := v2 + 1) (lv' := [(2, .int (v2 + 1)), (0, .ref (B + 136)), (1, .int v1)]) hx hb dX12_day_275 hl (k := 2) rfl rfl (by decide) rfl (fun ls hl => ?_)
    refine lv_goto (tgt := 250) hx hb dX12_day_278 (by decide) ?_
    exact ih1 v1 (v2 + 1) S4 _ _ _ h hP hS (lv_sub hl [1, 2, 0] rfl)
set_option maxRecDepth 100000 in
set_option maxHeartbeats 4000000 in
theorem wl_X12_day_250 (l : Launch) {V : St} (C0 : XC D ct p s m args meth c cX12_day 3 none RX12) (n0 : Nat) (ih0 : ∀ (v1 : Int32) (S : St) (H : Heap) (locs : List Loc) (ls : Array Slot), (lp n0 (l_X12_day_123) (v1, S)).bind some = some V → MP D ct B Hb S H → va_S (AB B) s.heap H locs → lv_has ls 3 [(0, .ref (B + 136)), (1, .int v1)] → W p l e { frames := 6, cells := 0, slots := 0, locals := 138 } s m args below meth c H locs 0 0 (MQ below (qVw D ct B Hb V) args s 0 0 (AB B)) (F0 m 123 ls []))  : ∀ (n1 : Nat) (v1 : Int32) (v2 : Int32) (S : St) {H : Heap} {locs : List Loc} {ls : Array Slot}, (lp n1 (l_X12_day_250) (v1, v2, S)).bind (lpF n0 (l_X12_day_123) some) = some V → MP D ct B Hb S H → va_S (AB B) s.heap H locs → lv_has ls 3 [(0, .ref (B + 136)), (1, .int v1), (2, .int v2)] → W p l e { frames := 6, cells := 0, slots := 0, locals := 138 } s m args below meth c H locs 0 0 (MQ below (qVw D ct B Hb V) args s 0 0 (AB B)) (F0 m 250 ls []) := by
  intro n1
  induction n1 with
  | zero =>
    intro v1 v2 S H locs ls h hP hS hl
    exact (lp_0 h).elim
  | succ n1 ih1 =>
    intro v1 v2 S H locs ls h hP hS hl
    have h := lp_s h
    exact w_X12_day_250 l C0 n0 ih0 n1 (fun v1 v2 S H locs ls h hP hS hl => ih1 v1 v2 S h hP hS hl) v1 v2 S h hP hS hl
set_option maxRecDepth 100000 in
set_option maxHeartbeats 4000000 in
theorem w_X12_day_248 (l : Launch) {V : St} (C0 : XC D ct p s m args meth c cX12_day 3 none RX12) (n0 : Nat) (ih0 : ∀ (v1 : Int32) (S : St) (H : Heap) (locs : List Loc) (ls : Array Slot), (lp n0 (l_X12_day_123) (v1, S)).bind some = some V → MP D ct B Hb S H → va_S (AB B) s.heap H locs → lv_has ls 3 [(0, .ref (B + 136)), (1, .int v1)] → W p l e { frames := 6, cells := 0, slots := 0, locals := 138 } s m args below meth c H locs 0 0 (MQ below (qVw D ct B Hb V) args s 0 0 (AB B)) (F0 m 123 ls [])) (v1 : Int32) (S : St) {H : Heap} {locs : List Loc} {ls : Array Slot} (h : (b_X12_day_248 v1 S).bind (lpF n0 (l_X12_day_123) some) = some V) (hP : MP D ct B Hb S H) (hS : va_S (AB B) s.heap H locs) (hl : lv_has ls 3 [(0, .ref (B + 136)), (1, .int v1)]) : W p l e { frames := 6, cells := 0, slots := 0, locals := 138 } s m args below meth c H locs 0 0 (MQ below (qVw D ct B Hb V) args s 0 0 (AB B)) (F0 m 248 ls []) := by
  obtain ⟨hx, hb, hr, hml, hown, hts, hK, hlocks, hN⟩ := id C0
  unfold b_X12_day_248 at h
  refine lv_iconst (v := 0) hx hb dX12_day_248 (by decide) ?_
  refine lv_istore_n (lv' := [(2, .int 0), (0, .ref (B + 136)), (1, .int v1)]) hx hb dX12_day_249 rfl hl (by decide) rfl (fun ls hl => ?_)
  exact wl_X12_day_250 l C0 n0 ih0 1000 v1 0 S h hP hS (lv_sub hl [1, 2, 0] rfl)
set_option maxRecDepth 100000 in
set_option maxHeartbeats 4000000 in
theorem w_X12_day_242 (l : Launch) {V : St} (C0 : XC D ct p s m args meth c cX12_day 3 none RX12) (n0 : Nat) (ih0 : ∀ (v1 : Int32) (S : St) (H : Heap) (locs : List Loc) (ls : Array Slot), (lp n0 (l_X12_day_123) (v1, S)).bind some = some V → MP D ct B Hb S H → va_S (AB B) s.heap H locs → lv_has ls 3 [(0, .ref (B + 136)), (1, .int v1)] → W p l e { frames := 6, cells := 0, slots := 0, locals := 138 } s m args below meth c H locs 0 0 (MQ below (qVw D ct B Hb V) args s 0 0 (AB B)) (F0 m 123 ls [])) (n1 : Nat) (ih1 : ∀ (v1 : Int32) (v2 : Int32) (S : St) (H : Heap) (locs : List Loc) (ls : Array Slot), (lp n1 (l_X12_day_219) (v1, v2, S)).bind (lpF n0 (l_X12_day_123) some) = some V → MP D ct B Hb S H → va_S (AB B) s.heap H locs → lv_has ls 3 [(0, .ref (B + 136)), (1, .int v1), (2, .int v2)] → W p l e { frames := 6, cells := 0, slots := 0, locals := 138 } s m args below meth c H locs 0 0 (MQ below (qVw D ct B Hb V) args s 0 0 (AB B)) (F0 m 219 ls [])) (v1 : Int32) (v2 : Int32) (S : St) {H : Heap} {locs : List Loc} {ls : Array Slot} (h : (b_X12_day_242 v1 v2 S).bind (lpF n1 (l_X12_day_219) (lpF n0 (l_X12_day_123) some)) = some V) (hP : MP D ct B Hb S H) (hS : va_S (AB B) s.heap H locs) (hl : lv_has ls 3 [(0, .ref (B + 136)), (1, .int v1), (2, .int v2)]) : W p l e { frames := 6, cells := 0, slots := 0, locals := 138 } s m args below meth c H locs 0 0 (MQ below (qVw D ct B Hb V) args s 0 0 (AB B)) (F0 m 242 ls []) := by
  obtain ⟨hx, hb, hr, hml, hown, hts, hK, hlocks, hN⟩ := id C0
  unfold b_X12_day_242 at h
  refine lv_iinc (v := v2 + 1) (lv' := [(2, .int (v2 + 1)), (0, .ref (B + 136)), (1, .int v1)]) hx hb dX12_day_242 hl (k := 2) rfl rfl (by decide) rfl (fun ls hl => ?_)
  refine lv_goto (tgt := 219) hx hb dX12_day_245 (by decide) ?_
  exact ih1 v1 (v2 + 1) S _ _ _ h hP hS (lv_sub hl [1, 2, 0] rfl)
set_option maxRecDepth 100000 in
set_option maxHeartbeats 4000000 in
theorem w_X12_day_219 (l : Launch) {V : St} (C0 : XC D ct p s m args meth c cX12_day 3 none RX12) (n0 : Nat) (ih0 : ∀ (v1 : Int32) (S : St) (H : Heap) (locs : List Loc) (ls : Array Slot), (lp n0 (l_X12_day_123) (v1, S)).bind some = some V → MP D ct B Hb S H → va_S (AB B) s.heap H locs → lv_has ls 3 [(0, .ref (B + 136)), (1, .int v1)] → W p l e { frames := 6, cells := 0, slots := 0, locals := 138 } s m args below meth c H locs 0 0 (MQ below (qVw D ct B Hb V) args s 0 0 (AB B)) (F0 m 123 ls [])) (n1 : Nat) (ih1 : ∀ (v1 : Int32) (v2 : Int32) (S : St) (H : Heap) (locs : List Loc) (ls : Array Slot), (lp n1 (l_X12_day_219) (v1, v2, S)).bind (lpF n0 (l_X12_day_123) some) = some V → MP D ct B Hb S H → va_S (AB B) s.heap H locs → lv_has ls 3 [(0, .ref (B + 136)), (1, .int v1), (2, .int v2)] → W p l e { frames := 6, cells := 0, slots := 0, locals := 138 } s m args below meth c H locs 0 0 (MQ below (qVw D ct B Hb V) args s 0 0 (AB B)) (F0 m 219 ls [])) (v1 : Int32) (v2 : Int32) (S : St) {H : Heap} {locs : List Loc} {ls : Array Slot} (h : (b_X12_day_219 v1 v2 S).bind (lpF n1 (l_X12_day_219) (lpF n0 (l_X12_day_123) some)) = some V) (hP : MP D ct B Hb S H) (hS : va_S (AB B) s.heap H locs) (hl : lv_has ls 3 [(0, .ref (B + 136)), (1, .int v1), (2, .int v2)]) : W p l e { frames := 6, cells := 0, slots := 0, locals := 138 } s m args below meth c H locs 0 0 (MQ below (qVw D ct B Hb V) args s 0 0 (AB B)) (F0 m 219 ls []) := by
  obtain ⟨hx, hb, hr, hml, hown, hts, hK, hlocks, hN⟩ := id C0
  unfold b_X12_day_219 at h
  refine lv_iload_n hx hb dX12_day_219 rfl (lv_at hl 2 rfl) ?_
  refine lv_aload_n hx hb dX12_day_220 rfl (lv_at hl 0 rfl) ?_
  refine x_get C0 hP (lay_X12 B ct S) rfl inG12 15 (by decide) wd_1156 (fun _ h => h) rfl dX12_day_221 ?_
  refine lv_icmp_ge (tgt := 248) hx hb dX12_day_224 (by decide) (fun z1 => ?_) (fun z1 => ?_)
  · have h := ob_t h z1
    have h := ob_mp h
    exact w_X12_day_248 l C0 n0 ih0 v1 S h hP hS (lv_sub hl [0, 1] rfl)
  · have h := ob_f h z1
    refine lv_aload_n hx hb dX12_day_227 rfl (lv_at hl 0 rfl) ?_
    refine lv_iload_n hx hb dX12_day_228 rfl (lv_at hl 2 rfl) ?_
    obtain ⟨r2, hr2, h⟩ := ob_bd h
    refine n_I (kV (As := [.int v2]) C0 (c_X12_dueOf l v2 hr2) ⟨wd_1452, wd_1449, wd_1451, wp_38, wd_6⟩ kd_X12_dueOf ⟨Nat.le_of_ble_eq_true rfl, Nat.le_of_ble_eq_true rfl⟩ hP (lay_X12 B ct S) rfl rfl hl.1 rfl (Nat.le_of_ble_eq_true rfl) dX12_day_229 ⟨Nat.le_of_ble_eq_true rfl, Nat.le_of_ble_eq_true rfl⟩) hS (fun H locs hP hS => ?_)
    refine lv_iload_n hx hb dX12_day_232 rfl (lv_at hl 1 rfl) ?_
    refine lv_icmp_ne (tgt := 242) hx hb dX12_day_233 (by decide) (fun z3 => ?_) (fun z3 => ?_)
    · have h := ob_f h z3
      exact w_X12_day_242 l C0 n0 ih0 n1 ih1 v1 v2 S h hP hS (lv_sub hl [0, 1, 2] rfl)
    · have h := ob_t h z3
      refine lv_aload_n hx hb dX12_day_236 rfl (lv_at hl 0 rfl) ?_
      refine lv_iload_n hx hb dX12_day_237 rfl (lv_at hl 2 rfl) ?_
      refine lv_iload_n hx hb dX12_day_238 rfl (lv_at hl 1 rfl) ?_
      obtain ⟨r4, hr4, h⟩ := ob_bd h
      refine n_Vw (kV (As := [.int v2, .int v1]) C0 (c_X12_choose l v2 v1 hr4) ⟨wd_1554, wd_1551, wd_1553, wp_46, wd_6⟩ kd_X12_choose ⟨Nat.le_of_ble_eq_true rfl, Nat.le_of_ble_eq_true rfl⟩ hP (lay_X12 B ct S) rfl rfl hl.1 rfl (Nat.le_of_ble_eq_true rfl) dX12_day_239 ⟨Nat.le_of_ble_eq_true rfl, Nat.le_of_ble_eq_true rfl⟩) hS (fun H locs hP hS => ?_)
      exact w_X12_day_242 l C0 n0 ih0 n1 ih1 v1 v2 r4 h hP hS (lv_sub hl [0, 1, 2] rfl)
set_option maxRecDepth 100000 in
set_option maxHeartbeats 4000000 in
theorem wl_X12_day_219 (l : Launch) {V : St} (C0 : XC D ct p s m args meth c cX12_day 3 none RX12) (n0 : Nat) (ih0 : ∀ (v1 : Int32) (S : St) (H : Heap) (locs : List Loc) (ls : Array Slot), (lp n0 (l_X12_day_123) (v1, S)).bind some = some V → MP D ct B Hb S H → va_S (AB B) s.heap H locs → lv_has ls 3 [(0, .ref (B + 136)), (1, .int v1)] → W p l e { frames := 6, cells := 0, slots := 0, locals := 138 } s m args below meth c H locs 0 0 (MQ below (qVw D ct B Hb V) args s 0 0 (AB B)) (F0 m 123 ls []))  : ∀ (n1 : Nat) (v1 : Int32) (v2 : Int32) (S : St) {H : Heap} {locs : List Loc} {ls : Array Slot}, (lp n1 (l_X12_day_219) (v1, v2, S)).bind (lpF n0 (l_X12_day_123) some) = some V → MP D ct B Hb S H → va_S (AB B) s.heap H locs → lv_has ls 3 [(0, .ref (B + 136)), (1, .int v1), (2, .int v2)] → W p l e { frames := 6, cells := 0, slots := 0, locals := 138 } s m args below meth c H locs 0 0 (MQ below (qVw D ct B Hb V) args s 0 0 (AB B)) (F0 m 219 ls []) := by
  intro n1
  induction n1 with
  | zero =>
    intro v1 v2 S H locs ls h hP hS hl
    exact (lp_0 h).elim
  | succ n1 ih1 =>
    intro v1 v2 S H locs ls h hP hS hl
    have h := lp_s h
    exact w_X12_day_219 l C0 n0 ih0 n1 (fun v1 v2 S H locs ls h hP hS hl => ih1 v1 v2 S h hP hS hl) v1 v2 S h hP hS hl
set_option maxRecDepth 100000 in
set_option maxHeartbeats 4000000 in
theorem w_X12_day_217 (l : Launch) {V : St} (C0 : XC D ct p s m args meth c cX12_day 3 none RX12) (n0 : Nat) (ih0 : ∀ (v1 : Int32) (S : St) (H : Heap) (locs : List Loc) (ls : Array Slot), (lp n0 (l_X12_day_123) (v1, S)).bind some = some V → MP D ct B Hb S H → va_S (AB B) s.heap H locs → lv_has ls 3 [(0, .ref (B + 136)), (1, .int v1)] → W p l e { frames := 6, cells := 0, slots := 0, locals := 138 } s m args below meth c H locs 0 0 (MQ below (qVw D ct B Hb V) args s 0 0 (AB B)) (F0 m 123 ls [])) (v1 : Int32) (S : St) {H : Heap} {locs : List Loc} {ls : Array Slot} (h : (b_X12_day_217 v1 S).bind (lpF n0 (l_X12_day_123) some) = some V) (hP : MP D ct B Hb S H) (hS : va_S (AB B) s.heap H locs) (hl : lv_has ls 3 [(0, .ref (B + 136)), (1, .int v1)]) : W p l e { frames := 6, cells := 0, slots := 0, locals := 138 } s m args below meth c H locs 0 0 (MQ below (qVw D ct B Hb V) args s 0 0 (AB B)) (F0 m 217 ls []) := by
  obtain ⟨hx, hb, hr, hml, hown, hts, hK, hlocks, hN⟩ := id C0
  unfold b_X12_day_217 at h
  refine lv_iconst (v := 0) hx hb dX12_day_217 (by decide) ?_
  refine lv_istore_n (lv' := [(2, .int 0), (0, .ref (B + 136)), (1, .int v1)]) hx hb dX12_day_218 rfl hl (by decide) rfl (fun ls hl => ?_)
  exact wl_X12_day_219 l C0 n0 ih0 1000 v1 0 S h hP hS (lv_sub hl [1, 2, 0] rfl)
set_option maxRecDepth 100000 in
set_option maxHeartbeats 4000000 in
theorem w_X12_day_197 (l : Launch) {V : St} (C0 : XC D ct p s m args meth c cX12_day 3 none RX12) (n0 : Nat) (ih0 : ∀ (v1 : Int32) (S : St) (H : Heap) (locs : List Loc) (ls : Array Slot), (lp n0 (l_X12_day_123) (v1, S)).bind some = some V → MP D ct B Hb S H → va_S (AB B) s.heap H locs → lv_has ls 3 [(0, .ref (B + 136)), (1, .int v1)] → W p l e { frames := 6, cells := 0, slots := 0, locals := 138 } s m args below meth c H locs 0 0 (MQ below (qVw D ct B Hb V) args s 0 0 (AB B)) (F0 m 123 ls [])) (n1 : Nat) (ih1 : ∀ (v1 : Int32) (v2 : Int32) (S : St) (H : Heap) (locs : List Loc) (ls : Array Slot), (lp n1 (l_X12_day_197) (v1, v2, S)).bind (lpF n0 (l_X12_day_123) some) = some V → MP D ct B Hb S H → va_S (AB B) s.heap H locs → lv_has ls 3 [(0, .ref (B + 136)), (1, .int v1), (2, .int v2)] → W p l e { frames := 6, cells := 0, slots := 0, locals := 138 } s m args below meth c H locs 0 0 (MQ below (qVw D ct B Hb V) args s 0 0 (AB B)) (F0 m 197 ls [])) (v1 : Int32) (v2 : Int32) (S : St) {H : Heap} {locs : List Loc} {ls : Array Slot} (h : (b_X12_day_197 v1 v2 S).bind (lpF n1 (l_X12_day_197) (lpF n0 (l_X12_day_123) some)) = some V) (hP : MP D ct B Hb S H) (hS : va_S (AB B) s.heap H locs) (hl : lv_has ls 3 [(0, .ref (B + 136)), (1, .int v1), (2, .int v2)]) : W p l e { frames := 6, cells := 0, slots := 0, locals := 138 } s m args below meth c H locs 0 0 (MQ below (qVw D ct B Hb V) args s 0 0 (AB B)) (F0 m 197 ls []) := by
  obtain ⟨hx, hb, hr, hml, hown, hts, hK, hlocks, hN⟩ := id C0
  unfold b_X12_day_197 at h
  refine lv_iload_n hx hb dX12_day_197 rfl (lv_at hl 2 rfl) ?_
  refine lv_aload_n hx hb dX12_day_198 rfl (lv_at hl 0 rfl) ?_
  refine x_get C0 hP (lay_X12 B ct S) rfl inG12 15 (by decide) wd_1156 (fun _ h => h) rfl dX12_day_199 ?_
  refine lv_icmp_ge (tgt := 217) hx hb dX12_day_202 (by decide) (fun z1 => ?_) (fun z1 => ?_)
  · have h := ob_t h z1
    have h := ob_mp h
    exact w_X12_day_217 l C0 n0 ih0 v1 S h hP hS (lv_sub hl [0, 1] rfl)
  · have h := ob_f h z1
    refine lv_aload_n hx hb dX12_day_205 rfl (lv_at hl 0 rfl) ?_
    refine lv_iload_n hx hb dX12_day_206 rfl (lv_at hl 2 rfl) ?_
    refine lv_iload_n hx hb dX12_day_207 rfl (lv_at hl 1 rfl) ?_
    obtain ⟨r2, hr2, h⟩ := ob_bd h
    refine n_Vw (kV (As := [.int v2, .int v1]) C0 (c_X12_comeForSale l v2 v1 hr2) ⟨wd_1543, wd_1540, wd_1542, wp_44, wd_6⟩ kd_X12_comeForSale ⟨Nat.le_of_ble_eq_true rfl, Nat.le_of_ble_eq_true rfl⟩ hP (lay_X12 B ct S) rfl rfl hl.1 rfl (Nat.le_of_ble_eq_true rfl) dX12_day_208 ⟨Nat.le_of_ble_eq_true rfl, Nat.le_of_ble_eq_true rfl⟩) hS (fun H locs hP hS => ?_)
    refine lv_iinc (v := v2 + 1) (lv' := [(2, .int (v2 + 1)), (0, .ref (B + 136)), (1, .int v1)]) hx hb dX12_day_211 hl (k := 2) rfl rfl (by decide) rfl (fun ls hl => ?_)
    refine lv_goto (tgt := 197) hx hb dX12_day_214 (by decide) ?_
    exact ih1 v1 (v2 + 1) r2 _ _ _ h hP hS (lv_sub hl [1, 2, 0] rfl)
set_option maxRecDepth 100000 in
set_option maxHeartbeats 4000000 in
theorem wl_X12_day_197 (l : Launch) {V : St} (C0 : XC D ct p s m args meth c cX12_day 3 none RX12) (n0 : Nat) (ih0 : ∀ (v1 : Int32) (S : St) (H : Heap) (locs : List Loc) (ls : Array Slot), (lp n0 (l_X12_day_123) (v1, S)).bind some = some V → MP D ct B Hb S H → va_S (AB B) s.heap H locs → lv_has ls 3 [(0, .ref (B + 136)), (1, .int v1)] → W p l e { frames := 6, cells := 0, slots := 0, locals := 138 } s m args below meth c H locs 0 0 (MQ below (qVw D ct B Hb V) args s 0 0 (AB B)) (F0 m 123 ls []))  : ∀ (n1 : Nat) (v1 : Int32) (v2 : Int32) (S : St) {H : Heap} {locs : List Loc} {ls : Array Slot}, (lp n1 (l_X12_day_197) (v1, v2, S)).bind (lpF n0 (l_X12_day_123) some) = some V → MP D ct B Hb S H → va_S (AB B) s.heap H locs → lv_has ls 3 [(0, .ref (B + 136)), (1, .int v1), (2, .int v2)] → W p l e { frames := 6, cells := 0, slots := 0, locals := 138 } s m args below meth c H locs 0 0 (MQ below (qVw D ct B Hb V) args s 0 0 (AB B)) (F0 m 197 ls []) := by
  intro n1
  induction n1 with
  | zero =>
    intro v1 v2 S H locs ls h hP hS hl
    exact (lp_0 h).elim
  | succ n1 ih1 =>
    intro v1 v2 S H locs ls h hP hS hl
    have h := lp_s h
    exact w_X12_day_197 l C0 n0 ih0 n1 (fun v1 v2 S H locs ls h hP hS hl => ih1 v1 v2 S h hP hS hl) v1 v2 S h hP hS hl
set_option maxRecDepth 100000 in
set_option maxHeartbeats 4000000 in
theorem w_X12_day_195 (l : Launch) {V : St} (C0 : XC D ct p s m args meth c cX12_day 3 none RX12) (n0 : Nat) (ih0 : ∀ (v1 : Int32) (S : St) (H : Heap) (locs : List Loc) (ls : Array Slot), (lp n0 (l_X12_day_123) (v1, S)).bind some = some V → MP D ct B Hb S H → va_S (AB B) s.heap H locs → lv_has ls 3 [(0, .ref (B + 136)), (1, .int v1)] → W p l e { frames := 6, cells := 0, slots := 0, locals := 138 } s m args below meth c H locs 0 0 (MQ below (qVw D ct B Hb V) args s 0 0 (AB B)) (F0 m 123 ls [])) (v1 : Int32) (S : St) {H : Heap} {locs : List Loc} {ls : Array Slot} (h : (b_X12_day_195 v1 S).bind (lpF n0 (l_X12_day_123) some) = some V) (hP : MP D ct B Hb S H) (hS : va_S (AB B) s.heap H locs) (hl : lv_has ls 3 [(0, .ref (B + 136)), (1, .int v1)]) : W p l e { frames := 6, cells := 0, slots := 0, locals := 138 } s m args below meth c H locs 0 0 (MQ below (qVw D ct B Hb V) args s 0 0 (AB B)) (F0 m 195 ls []) := by
  obtain ⟨hx, hb, hr, hml, hown, hts, hK, hlocks, hN⟩ := id C0
  unfold b_X12_day_195 at h
  refine lv_iconst (v := 0) hx hb dX12_day_195 (by decide) ?_
  refine lv_istore_n (lv' := [(2, .int 0), (0, .ref (B + 136)), (1, .int v1)]) hx hb dX12_day_196 rfl hl (by decide) rfl (fun ls hl => ?_)
  exact wl_X12_day_197 l C0 n0 ih0 1000 v1 0 S h hP hS (lv_sub hl [1, 2, 0] rfl)
set_option maxRecDepth 100000 in
set_option maxHeartbeats 4000000 in
theorem w_X12_day_189 (l : Launch) {V : St} (C0 : XC D ct p s m args meth c cX12_day 3 none RX12) (n0 : Nat) (ih0 : ∀ (v1 : Int32) (S : St) (H : Heap) (locs : List Loc) (ls : Array Slot), (lp n0 (l_X12_day_123) (v1, S)).bind some = some V → MP D ct B Hb S H → va_S (AB B) s.heap H locs → lv_has ls 3 [(0, .ref (B + 136)), (1, .int v1)] → W p l e { frames := 6, cells := 0, slots := 0, locals := 138 } s m args below meth c H locs 0 0 (MQ below (qVw D ct B Hb V) args s 0 0 (AB B)) (F0 m 123 ls [])) (n1 : Nat) (ih1 : ∀ (v1 : Int32) (v2 : Int32) (S : St) (H : Heap) (locs : List Loc) (ls : Array Slot), (lp n1 (l_X12_day_131) (v1, v2, S)).bind (lpF n0 (l_X12_day_123) some) = some V → MP D ct B Hb S H → va_S (AB B) s.heap H locs → lv_has ls 3 [(0, .ref (B + 136)), (1, .int v1), (2, .int v2)] → W p l e { frames := 6, cells := 0, slots := 0, locals := 138 } s m args below meth c H locs 0 0 (MQ below (qVw D ct B Hb V) args s 0 0 (AB B)) (F0 m 131 ls [])) (v1 : Int32) (v2 : Int32) (S : St) {H : Heap} {locs : List Loc} {ls : Array Slot} (h : (b_X12_day_189 v1 v2 S).bind (lpF n1 (l_X12_day_131) (lpF n0 (l_X12_day_123) some)) = some V) (hP : MP D ct B Hb S H) (hS : va_S (AB B) s.heap H locs) (hl : lv_has ls 3 [(0, .ref (B + 136)), (1, .int v1), (2, .int v2)]) : W p l e { frames := 6, cells := 0, slots := 0, locals := 138 } s m args below meth c H locs 0 0 (MQ below (qVw D ct B Hb V) args s 0 0 (AB B)) (F0 m 189 ls []) := by
  obtain ⟨hx, hb, hr, hml, hown, hts, hK, hlocks, hN⟩ := id C0
  unfold b_X12_day_189 at h
  refine lv_iinc (v := v2 + 1) (lv' := [(2, .int (v2 + 1)), (0, .ref (B + 136)), (1, .int v1)]) hx hb dX12_day_189 hl (k := 2) rfl rfl (by decide) rfl (fun ls hl => ?_)
  refine lv_goto (tgt := 131) hx hb dX12_day_192 (by decide) ?_
  exact ih1 v1 (v2 + 1) S _ _ _ h hP hS (lv_sub hl [1, 2, 0] rfl)
set_option maxRecDepth 100000 in
set_option maxHeartbeats 4000000 in
theorem w_X12_day_131 (l : Launch) {V : St} (C0 : XC D ct p s m args meth c cX12_day 3 none RX12) (n0 : Nat) (ih0 : ∀ (v1 : Int32) (S : St) (H : Heap) (locs : List Loc) (ls : Array Slot), (lp n0 (l_X12_day_123) (v1, S)).bind some = some V → MP D ct B Hb S H → va_S (AB B) s.heap H locs → lv_has ls 3 [(0, .ref (B + 136)), (1, .int v1)] → W p l e { frames := 6, cells := 0, slots := 0, locals := 138 } s m args below meth c H locs 0 0 (MQ below (qVw D ct B Hb V) args s 0 0 (AB B)) (F0 m 123 ls [])) (n1 : Nat) (ih1 : ∀ (v1 : Int32) (v2 : Int32) (S : St) (H : Heap) (locs : List Loc) (ls : Array Slot), (lp n1 (l_X12_day_131) (v1, v2, S)).bind (lpF n0 (l_X12_day_123) some) = some V → MP D ct B Hb S H → va_S (AB B) s.heap H locs → lv_has ls 3 [(0, .ref (B + 136)), (1, .int v1), (2, .int v2)] → W p l e { frames := 6, cells := 0, slots := 0, locals := 138 } s m args below meth c H locs 0 0 (MQ below (qVw D ct B Hb V) args s 0 0 (AB B)) (F0 m 131 ls [])) (v1 : Int32) (v2 : Int32) (S : St) {H : Heap} {locs : List Loc} {ls : Array Slot} (h : (b_X12_day_131 v1 v2 S).bind (lpF n1 (l_X12_day_131) (lpF n0 (l_X12_day_123) some)) = some V) (hP : MP D ct B Hb S H) (hS : va_S (AB B) s.heap H locs) (hl : lv_has ls 3 [(0, .ref (B + 136)), (1, .int v1), (2, .int v2)]) : W p l e { frames := 6, cells := 0, slots := 0, locals := 138 } s m args below meth c H locs 0 0 (MQ below (qVw D ct B Hb V) args s 0 0 (AB B)) (F0 m 131 ls []) := by
  obtain ⟨hx, hb, hr, hml, hown, hts, hK, hlocks, hN⟩ := id C0
  unfold b_X12_day_131 at h
  refine lv_iload_n hx hb dX12_day_131 rfl (lv_at hl 2 rfl) ?_
  refine lv_aload_n hx hb dX12_day_132 rfl (lv_at hl 0 rfl) ?_
  refine x_get C0 hP (lay_X12 B ct S) rfl inG12 9 (by decide) wd_1150 (fun _ h => h) rfl dX12_day_133 ?_
  refine lv_icmp_ge (tgt := 195) hx hb dX12_day_136 (by decide) (fun z1 => ?_) (fun z1 => ?_)
  · have h := ob_t h z1
    have h := ob_mp h
    exact w_X12_day_195 l C0 n0 ih0 v1 S h hP hS (lv_sub hl [0, 1] rfl)
  · have h := ob_f h z1
    refine lv_aload_n hx hb dX12_day_139 rfl (lv_at hl 0 rfl) ?_
    refine x_get C0 hP (lay_X12 B ct S) rfl inG12 14 (by decide) wd_1155 (fun _ h => h) rfl dX12_day_140 ?_
    refine lv_iload_n hx hb dX12_day_143 rfl (lv_at hl 2 rfl) ?_
    obtain ⟨g2, h⟩ := ob_gd h
    refine x_iald C0 hP ((fun S => lay_146 B ct S) S) g2 dX12_day_144 ?_
    refine lv_iload_n hx hb dX12_day_145 rfl (lv_at hl 1 rfl) ?_
    refine lv_icmp_ne (tgt := 189) hx hb dX12_day_146 (by decide) (fun z3 => ?_) (fun z3 => ?_)
    · have h := ob_f h z3
      exact w_X12_day_189 l C0 n0 ih0 n1 ih1 v1 v2 S h hP hS (lv_sub hl [0, 1, 2] rfl)
    · have h := ob_t h z3
      refine lv_aload_n hx hb dX12_day_149 rfl (lv_at hl 0 rfl) ?_
      refine x_get C0 hP (lay_X12 B ct S) rfl inG12 38 (by decide) wd_1179 (fun _ h => h) rfl dX12_day_150 ?_
      refine lv_bipush (v := 8) hx hb dX12_day_153 (by decide) ?_
      refine lv_iload_n hx hb dX12_day_155 rfl (lv_at hl 2 rfl) ?_
      refine lv_iadd hx hb dX12_day_156 ?_
      refine lv_iload_n hx hb dX12_day_157 rfl (lv_at hl 1 rfl) ?_
      obtain ⟨g4, h⟩ := ob_gd h
      obtain ⟨S5, eS5, h⟩ := ob_nm h
      refine x_iast C0 hP hS (fun S => lay_166 B ct S) g4 dX12_day_158 (fun H locs hP hS => ?_)
      rw [← eS5] at hP
      refine lv_aload_n hx hb dX12_day_159 rfl (lv_at hl 0 rfl) ?_
      refine x_get C0 hP (lay_X12 B ct S5) rfl inG12 39 (by decide) wd_1180 (fun _ h => h) rfl dX12_day_160 ?_
      refine lv_bipush (v := 8) hx hb dX12_day_163 (by decide) ?_
      refine lv_iload_n hx hb dX12_day_165 rfl (lv_at hl 2 rfl) ?_
      refine lv_iadd hx hb dX12_day_166 ?_
      refine lv_aload_n hx hb dX12_day_167 rfl (lv_at hl 0 rfl) ?_
      refine x_get C0 hP (lay_X12 B ct S5) rfl inG12 12 (by decide) wd_1153 (fun _ h => h) rfl dX12_day_168 ?_
      refine lv_iload_n hx hb dX12_day_171 rfl (lv_at hl 2 rfl) ?_
      obtain ⟨g6, h⟩ := ob_gd h
      refine x_iald C0 hP ((fun S => lay_144 B ct S) S5) g6 dX12_day_172 ?_
      obtain ⟨g7, h⟩ := ob_gd h
      obtain ⟨S8, eS8, h⟩ := ob_nm h
      refine x_iast C0 hP hS (fun S => lay_167 B ct S) g7 dX12_day_173 (fun H locs hP hS => ?_)
      rw [← eS8] at hP
      refine lv_aload_n hx hb dX12_day_174 rfl (lv_at hl 0 rfl) ?_
      refine x_get C0 hP (lay_X12 B ct S8) rfl inG12 40 (by decide) wd_1181 (fun _ h => h) rfl dX12_day_175 ?_
      refine lv_bipush (v := 8) hx hb dX12_day_178 (by decide) ?_
      refine lv_iload_n hx hb dX12_day_180 rfl (lv_at hl 2 rfl) ?_
      refine lv_iadd hx hb dX12_day_181 ?_
      refine lv_aload_n hx hb dX12_day_182 rfl (lv_at hl 0 rfl) ?_
      refine x_get C0 hP (lay_X12 B ct S8) rfl inG12 11 (by decide) wd_1152 (fun _ h => h) rfl dX12_day_183 ?_
      refine lv_iload_n hx hb dX12_day_186 rfl (lv_at hl 2 rfl) ?_
      obtain ⟨g9, h⟩ := ob_gd h
      refine x_iald C0 hP ((fun S => lay_143 B ct S) S8) g9 dX12_day_187 ?_
      obtain ⟨g10, h⟩ := ob_gd h
      obtain ⟨S11, eS11, h⟩ := ob_nm h
      refine x_iast C0 hP hS (fun S => lay_168 B ct S) g10 dX12_day_188 (fun H locs hP hS => ?_)
      rw [← eS11] at hP
      exact w_X12_day_189 l C0 n0 ih0 n1 ih1 v1 v2 S11 h hP hS (lv_sub hl [0, 1, 2] rfl)
set_option maxRecDepth 100000 in
set_option maxHeartbeats 4000000 in
theorem wl_X12_day_131 (l : Launch) {V : St} (C0 : XC D ct p s m args meth c cX12_day 3 none RX12) (n0 : Nat) (ih0 : ∀ (v1 : Int32) (S : St) (H : Heap) (locs : List Loc) (ls : Array Slot), (lp n0 (l_X12_day_123) (v1, S)).bind some = some V → MP D ct B Hb S H → va_S (AB B) s.heap H locs → lv_has ls 3 [(0, .ref (B + 136)), (1, .int v1)] → W p l e { frames := 6, cells := 0, slots := 0, locals := 138 } s m args below meth c H locs 0 0 (MQ below (qVw D ct B Hb V) args s 0 0 (AB B)) (F0 m 123 ls []))  : ∀ (n1 : Nat) (v1 : Int32) (v2 : Int32) (S : St) {H : Heap} {locs : List Loc} {ls : Array Slot}, (lp n1 (l_X12_day_131) (v1, v2, S)).bind (lpF n0 (l_X12_day_123) some) = some V → MP D ct B Hb S H → va_S (AB B) s.heap H locs → lv_has ls 3 [(0, .ref (B + 136)), (1, .int v1), (2, .int v2)] → W p l e { frames := 6, cells := 0, slots := 0, locals := 138 } s m args below meth c H locs 0 0 (MQ below (qVw D ct B Hb V) args s 0 0 (AB B)) (F0 m 131 ls []) := by
  intro n1
  induction n1 with
  | zero =>
    intro v1 v2 S H locs ls h hP hS hl
    exact (lp_0 h).elim
  | succ n1 ih1 =>
    intro v1 v2 S H locs ls h hP hS hl
    have h := lp_s h
    exact w_X12_day_131 l C0 n0 ih0 n1 (fun v1 v2 S H locs ls h hP hS hl => ih1 v1 v2 S h hP hS hl) v1 v2 S h hP hS hl
set_option maxRecDepth 100000 in
set_option maxHeartbeats 4000000 in
theorem w_X12_day_123 (l : Launch) {V : St} (C0 : XC D ct p s m args meth c cX12_day 3 none RX12) (n0 : Nat) (ih0 : ∀ (v1 : Int32) (S : St) (H : Heap) (locs : List Loc) (ls : Array Slot), (lp n0 (l_X12_day_123) (v1, S)).bind some = some V → MP D ct B Hb S H → va_S (AB B) s.heap H locs → lv_has ls 3 [(0, .ref (B + 136)), (1, .int v1)] → W p l e { frames := 6, cells := 0, slots := 0, locals := 138 } s m args below meth c H locs 0 0 (MQ below (qVw D ct B Hb V) args s 0 0 (AB B)) (F0 m 123 ls [])) (v1 : Int32) (S : St) {H : Heap} {locs : List Loc} {ls : Array Slot} (h : (b_X12_day_123 v1 S).bind (lpF n0 (l_X12_day_123) some) = some V) (hP : MP D ct B Hb S H) (hS : va_S (AB B) s.heap H locs) (hl : lv_has ls 3 [(0, .ref (B + 136)), (1, .int v1)]) : W p l e { frames := 6, cells := 0, slots := 0, locals := 138 } s m args below meth c H locs 0 0 (MQ below (qVw D ct B Hb V) args s 0 0 (AB B)) (F0 m 123 ls []) := by
  obtain ⟨hx, hb, hr, hml, hown, hts, hK, hlocks, hN⟩ := id C0
  unfold b_X12_day_123 at h
  refine lv_iload_n hx hb dX12_day_123 rfl (lv_at hl 1 rfl) ?_
  refine lv_bipush (v := 24) hx hb dX12_day_124 (by decide) ?_
  refine lv_icmp_ge (tgt := 287) hx hb dX12_day_126 (by decide) (fun z1 => ?_) (fun z1 => ?_)
  · have h := ob_t h z1
    exact r_Vw C0 hP hS h dX12_day_287
  · have h := ob_f h z1
    refine lv_iconst (v := 0) hx hb dX12_day_129 (by decide) ?_
    refine lv_istore_n (lv' := [(2, .int 0), (0, .ref (B + 136)), (1, .int v1)]) hx hb dX12_day_130 rfl hl (by decide) rfl (fun ls hl => ?_)
    exact wl_X12_day_131 l C0 n0 ih0 1000 v1 0 S h hP hS (lv_sub hl [1, 2, 0] rfl)
set_option maxRecDepth 100000 in
set_option maxHeartbeats 4000000 in
theorem wl_X12_day_123 (l : Launch) {V : St} (C0 : XC D ct p s m args meth c cX12_day 3 none RX12)  : ∀ (n0 : Nat) (v1 : Int32) (S : St) {H : Heap} {locs : List Loc} {ls : Array Slot}, (lp n0 (l_X12_day_123) (v1, S)).bind some = some V → MP D ct B Hb S H → va_S (AB B) s.heap H locs → lv_has ls 3 [(0, .ref (B + 136)), (1, .int v1)] → W p l e { frames := 6, cells := 0, slots := 0, locals := 138 } s m args below meth c H locs 0 0 (MQ below (qVw D ct B Hb V) args s 0 0 (AB B)) (F0 m 123 ls []) := by
  intro n0
  induction n0 with
  | zero =>
    intro v1 S H locs ls h hP hS hl
    exact (lp_0 h).elim
  | succ n0 ih0 =>
    intro v1 S H locs ls h hP hS hl
    have h := lp_s h
    exact w_X12_day_123 l C0 n0 (fun v1 S H locs ls h hP hS hl => ih0 v1 S h hP hS hl) v1 S h hP hS hl
set_option maxRecDepth 100000 in
set_option maxHeartbeats 4000000 in
theorem w_X12_day_121 (l : Launch) {V : St} (C0 : XC D ct p s m args meth c cX12_day 3 none RX12) (S : St) {H : Heap} {locs : List Loc} {ls : Array Slot} (h : (b_X12_day_121 S).bind some = some V) (hP : MP D ct B Hb S H) (hS : va_S (AB B) s.heap H locs) (hl : lv_has ls 3 [(0, .ref (B + 136))]) : W p l e { frames := 6, cells := 0, slots := 0, locals := 138 } s m args below meth c H locs 0 0 (MQ below (qVw D ct B Hb V) args s 0 0 (AB B)) (F0 m 121 ls []) := by
  obtain ⟨hx, hb, hr, hml, hown, hts, hK, hlocks, hN⟩ := id C0
  unfold b_X12_day_121 at h
  refine lv_iconst (v := 0) hx hb dX12_day_121 (by decide) ?_
  refine lv_istore_n (lv' := [(1, .int 0), (0, .ref (B + 136))]) hx hb dX12_day_122 rfl hl (by decide) rfl (fun ls hl => ?_)
  exact wl_X12_day_123 l C0 1000 0 S h hP hS (lv_sub hl [1, 0] rfl)
set_option maxRecDepth 100000 in
set_option maxHeartbeats 4000000 in
theorem w_X12_day_54 (l : Launch) {V : St} (C0 : XC D ct p s m args meth c cX12_day 3 none RX12) (n0 : Nat) (ih0 : ∀ (v1 : Int32) (S : St) (H : Heap) (locs : List Loc) (ls : Array Slot), (lp n0 (l_X12_day_54) (v1, S)).bind some = some V → MP D ct B Hb S H → va_S (AB B) s.heap H locs → lv_has ls 3 [(0, .ref (B + 136)), (1, .int v1)] → W p l e { frames := 6, cells := 0, slots := 0, locals := 138 } s m args below meth c H locs 0 0 (MQ below (qVw D ct B Hb V) args s 0 0 (AB B)) (F0 m 54 ls [])) (v1 : Int32) (S : St) {H : Heap} {locs : List Loc} {ls : Array Slot} (h : (b_X12_day_54 v1 S).bind (lpF n0 (l_X12_day_54) some) = some V) (hP : MP D ct B Hb S H) (hS : va_S (AB B) s.heap H locs) (hl : lv_has ls 3 [(0, .ref (B + 136)), (1, .int v1)]) : W p l e { frames := 6, cells := 0, slots := 0, locals := 138 } s m args below meth c H locs 0 0 (MQ below (qVw D ct B Hb V) args s 0 0 (AB B)) (F0 m 54 ls []) := by
  obtain ⟨hx, hb, hr, hml, hown, hts, hK, hlocks, hN⟩ := id C0
  unfold b_X12_day_54 at h
  refine lv_iload_n hx hb dX12_day_54 rfl (lv_at hl 1 rfl) ?_
  refine lv_bipush (v := 8) hx hb dX12_day_55 (by decide) ?_
  refine lv_icmp_ge (tgt := 121) hx hb dX12_day_57 (by decide) (fun z1 => ?_) (fun z1 => ?_)
  · have h := ob_t h z1
    have h := ob_mp h
    exact w_X12_day_121 l C0 S h hP hS (lv_sub hl [0] rfl)
  · have h := ob_f h z1
    refine lv_aload_n hx hb dX12_day_60 rfl (lv_at hl 0 rfl) ?_
    refine x_get C0 hP (lay_X12 B ct S) rfl inG12 31 (by decide) wd_1172 (fun _ h => h) rfl dX12_day_61 ?_
    refine lv_iload_n hx hb dX12_day_64 rfl (lv_at hl 1 rfl) ?_
    refine lv_iconst (v := 0) hx hb dX12_day_65 (by decide) ?_
    obtain ⟨g2, h⟩ := ob_gd h
    obtain ⟨S3, eS3, h⟩ := ob_nm h
    refine x_zast C0 hP hS (fun S => lay_159 B ct S) bool_0 g2 dX12_day_66 (fun H locs hP hS => ?_)
    rw [← eS3] at hP
    refine lv_aload_n hx hb dX12_day_67 rfl (lv_at hl 0 rfl) ?_
    refine x_get C0 hP (lay_X12 B ct S3) rfl inG12 32 (by decide) wd_1173 (fun _ h => h) rfl dX12_day_68 ?_
    refine lv_iload_n hx hb dX12_day_71 rfl (lv_at hl 1 rfl) ?_
    refine lv_iconst (v := 0) hx hb dX12_day_72 (by decide) ?_
    obtain ⟨g4, h⟩ := ob_gd h
    obtain ⟨S5, eS5, h⟩ := ob_nm h
    refine x_iast C0 hP hS (fun S => lay_160 B ct S) g4 dX12_day_73 (fun H locs hP hS => ?_)
    rw [← eS5] at hP
    refine lv_aload_n hx hb dX12_day_74 rfl (lv_at hl 0 rfl) ?_
    refine x_get C0 hP (lay_X12 B ct S5) rfl inG12 33 (by decide) wd_1174 (fun _ h => h) rfl dX12_day_75 ?_
    refine lv_iload_n hx hb dX12_day_78 rfl (lv_at hl 1 rfl) ?_
    refine lv_iconst (v := 0) hx hb dX12_day_79 (by decide) ?_
    obtain ⟨g6, h⟩ := ob_gd h
    obtain ⟨S7, eS7, h⟩ := ob_nm h
    refine x_iast C0 hP hS (fun S => lay_161 B ct S) g6 dX12_day_80 (fun H locs hP hS => ?_)
    rw [← eS7] at hP
    refine lv_aload_n hx hb dX12_day_81 rfl (lv_at hl 0 rfl) ?_
    refine x_get C0 hP (lay_X12 B ct S7) rfl inG12 34 (by decide) wd_1175 (fun _ h => h) rfl dX12_day_82 ?_
    refine lv_iload_n hx hb dX12_day_85 rfl (lv_at hl 1 rfl) ?_
    refine lv_bipush (v := (-9)) hx hb dX12_day_86 (by decide) ?_
    obtain ⟨g8, h⟩ := ob_gd h
    obtain ⟨S9, eS9, h⟩ := ob_nm h
    refine x_iast C0 hP hS (fun S => lay_162 B ct S) g8 dX12_day_88 (fun H locs hP hS => ?_)
    rw [← eS9] at hP
    refine lv_aload_n hx hb dX12_day_89 rfl (lv_at hl 0 rfl) ?_
    refine x_get C0 hP (lay_X12 B ct S9) rfl inG12 35 (by decide) wd_1176 (fun _ h => h) rfl dX12_day_90 ?_
    refine lv_iload_n hx hb dX12_day_93 rfl (lv_at hl 1 rfl) ?_
    refine lv_iconst (v := 0) hx hb dX12_day_94 (by decide) ?_
    obtain ⟨g10, h⟩ := ob_gd h
    obtain ⟨S11, eS11, h⟩ := ob_nm h
    refine x_iast C0 hP hS (fun S => lay_163 B ct S) g10 dX12_day_95 (fun H locs hP hS => ?_)
    rw [← eS11] at hP
    refine lv_aload_n hx hb dX12_day_96 rfl (lv_at hl 0 rfl) ?_
    refine x_get C0 hP (lay_X12 B ct S11) rfl inG12 36 (by decide) wd_1177 (fun _ h => h) rfl dX12_day_97 ?_
    refine lv_iload_n hx hb dX12_day_100 rfl (lv_at hl 1 rfl) ?_
    refine lv_aload_n hx hb dX12_day_101 rfl (lv_at hl 0 rfl) ?_
    refine x_get C0 hP (lay_X12 B ct S11) rfl inG12 21 (by decide) wd_1162 (fun _ h => h) rfl dX12_day_102 ?_
    refine lv_iload_n hx hb dX12_day_105 rfl (lv_at hl 1 rfl) ?_
    obtain ⟨g12, h⟩ := ob_gd h
    refine x_iald C0 hP ((fun S => lay_152 B ct S) S11) g12 dX12_day_106 ?_
    obtain ⟨g13, h⟩ := ob_gd h
    obtain ⟨S14, eS14, h⟩ := ob_nm h
    refine x_iast C0 hP hS (fun S => lay_164 B ct S) g13 dX12_day_107 (fun H locs hP hS => ?_)
    rw [← eS14] at hP
    refine lv_aload_n hx hb dX12_day_108 rfl (lv_at hl 0 rfl) ?_
    refine x_get C0 hP (lay_X12 B ct S14) rfl inG12 37 (by decide) wd_1178 (fun _ h => h) rfl dX12_day_109 ?_
    refine lv_iload_n hx hb dX12_day_112 rfl (lv_at hl 1 rfl) ?_
    refine lv_iconst (v := 0) hx hb dX12_day_113 (by decide) ?_
    obtain ⟨g15, h⟩ := ob_gd h
    obtain ⟨S16, eS16, h⟩ := ob_nm h
    refine x_zast C0 hP hS (fun S => lay_165 B ct S) bool_0 g15 dX12_day_114 (fun H locs hP hS => ?_)
    rw [← eS16] at hP
    refine lv_iinc (v := v1 + 1) (lv' := [(1, .int (v1 + 1)), (0, .ref (B + 136))]) hx hb dX12_day_115 hl (k := 1) rfl rfl (by decide) rfl (fun ls hl => ?_)
    refine lv_goto (tgt := 54) hx hb dX12_day_118 (by decide) ?_
    exact ih0 (v1 + 1) S16 _ _ _ h hP hS (lv_sub hl [1, 0] rfl)
set_option maxRecDepth 100000 in
set_option maxHeartbeats 4000000 in
theorem wl_X12_day_54 (l : Launch) {V : St} (C0 : XC D ct p s m args meth c cX12_day 3 none RX12)  : ∀ (n0 : Nat) (v1 : Int32) (S : St) {H : Heap} {locs : List Loc} {ls : Array Slot}, (lp n0 (l_X12_day_54) (v1, S)).bind some = some V → MP D ct B Hb S H → va_S (AB B) s.heap H locs → lv_has ls 3 [(0, .ref (B + 136)), (1, .int v1)] → W p l e { frames := 6, cells := 0, slots := 0, locals := 138 } s m args below meth c H locs 0 0 (MQ below (qVw D ct B Hb V) args s 0 0 (AB B)) (F0 m 54 ls []) := by
  intro n0
  induction n0 with
  | zero =>
    intro v1 S H locs ls h hP hS hl
    exact (lp_0 h).elim
  | succ n0 ih0 =>
    intro v1 S H locs ls h hP hS hl
    have h := lp_s h
    exact w_X12_day_54 l C0 n0 (fun v1 S H locs ls h hP hS hl => ih0 v1 S h hP hS hl) v1 S h hP hS hl
set_option maxRecDepth 100000 in
set_option maxHeartbeats 4000000 in
theorem w_X12_day_52 (l : Launch) {V : St} (C0 : XC D ct p s m args meth c cX12_day 3 none RX12) (S : St) {H : Heap} {locs : List Loc} {ls : Array Slot} (h : (b_X12_day_52 S).bind some = some V) (hP : MP D ct B Hb S H) (hS : va_S (AB B) s.heap H locs) (hl : lv_has ls 3 [(0, .ref (B + 136))]) : W p l e { frames := 6, cells := 0, slots := 0, locals := 138 } s m args below meth c H locs 0 0 (MQ below (qVw D ct B Hb V) args s 0 0 (AB B)) (F0 m 52 ls []) := by
  obtain ⟨hx, hb, hr, hml, hown, hts, hK, hlocks, hN⟩ := id C0
  unfold b_X12_day_52 at h
  refine lv_iconst (v := 0) hx hb dX12_day_52 (by decide) ?_
  refine lv_istore_n (lv' := [(1, .int 0), (0, .ref (B + 136))]) hx hb dX12_day_53 rfl hl (by decide) rfl (fun ls hl => ?_)
  exact wl_X12_day_54 l C0 1000 0 S h hP hS (lv_sub hl [1, 0] rfl)
set_option maxRecDepth 100000 in
set_option maxHeartbeats 4000000 in
theorem w_X12_day_2 (l : Launch) {V : St} (C0 : XC D ct p s m args meth c cX12_day 3 none RX12) (n0 : Nat) (ih0 : ∀ (v1 : Int32) (S : St) (H : Heap) (locs : List Loc) (ls : Array Slot), (lp n0 (l_X12_day_2) (v1, S)).bind some = some V → MP D ct B Hb S H → va_S (AB B) s.heap H locs → lv_has ls 3 [(0, .ref (B + 136)), (1, .int v1)] → W p l e { frames := 6, cells := 0, slots := 0, locals := 138 } s m args below meth c H locs 0 0 (MQ below (qVw D ct B Hb V) args s 0 0 (AB B)) (F0 m 2 ls [])) (v1 : Int32) (S : St) {H : Heap} {locs : List Loc} {ls : Array Slot} (h : (b_X12_day_2 v1 S).bind (lpF n0 (l_X12_day_2) some) = some V) (hP : MP D ct B Hb S H) (hS : va_S (AB B) s.heap H locs) (hl : lv_has ls 3 [(0, .ref (B + 136)), (1, .int v1)]) : W p l e { frames := 6, cells := 0, slots := 0, locals := 138 } s m args below meth c H locs 0 0 (MQ below (qVw D ct B Hb V) args s 0 0 (AB B)) (F0 m 2 ls []) := by
  obtain ⟨hx, hb, hr, hml, hown, hts, hK, hlocks, hN⟩ := id C0
  unfold b_X12_day_2 at h
  refine lv_iload_n hx hb dX12_day_2 rfl (lv_at hl 1 rfl) ?_
  refine lv_bipush (v := 11) hx hb dX12_day_3 (by decide) ?_
  refine lv_icmp_ge (tgt := 52) hx hb dX12_day_5 (by decide) (fun z1 => ?_) (fun z1 => ?_)
  · have h := ob_t h z1
    have h := ob_mp h
    exact w_X12_day_52 l C0 S h hP hS (lv_sub hl [0] rfl)
  · have h := ob_f h z1
    refine lv_aload_n hx hb dX12_day_8 rfl (lv_at hl 0 rfl) ?_
    refine x_get C0 hP (lay_X12 B ct S) rfl inG12 38 (by decide) wd_1179 (fun _ h => h) rfl dX12_day_9 ?_
    refine lv_iload_n hx hb dX12_day_12 rfl (lv_at hl 1 rfl) ?_
    refine lv_bipush (v := (-9)) hx hb dX12_day_13 (by decide) ?_
    obtain ⟨g2, h⟩ := ob_gd h
    obtain ⟨S3, eS3, h⟩ := ob_nm h
    refine x_iast C0 hP hS (fun S => lay_166 B ct S) g2 dX12_day_15 (fun H locs hP hS => ?_)
    rw [← eS3] at hP
    refine lv_aload_n hx hb dX12_day_16 rfl (lv_at hl 0 rfl) ?_
    refine x_get C0 hP (lay_X12 B ct S3) rfl inG12 39 (by decide) wd_1180 (fun _ h => h) rfl dX12_day_17 ?_
    refine lv_iload_n hx hb dX12_day_20 rfl (lv_at hl 1 rfl) ?_
    refine lv_iconst (v := 0) hx hb dX12_day_21 (by decide) ?_
    obtain ⟨g4, h⟩ := ob_gd h
    obtain ⟨S5, eS5, h⟩ := ob_nm h
    refine x_iast C0 hP hS (fun S => lay_167 B ct S) g4 dX12_day_22 (fun H locs hP hS => ?_)
    rw [← eS5] at hP
    refine lv_aload_n hx hb dX12_day_23 rfl (lv_at hl 0 rfl) ?_
    refine x_get C0 hP (lay_X12 B ct S5) rfl inG12 40 (by decide) wd_1181 (fun _ h => h) rfl dX12_day_24 ?_
    refine lv_iload_n hx hb dX12_day_27 rfl (lv_at hl 1 rfl) ?_
    refine lv_iconst (v := 0) hx hb dX12_day_28 (by decide) ?_
    obtain ⟨g6, h⟩ := ob_gd h
    obtain ⟨S7, eS7, h⟩ := ob_nm h
    refine x_iast C0 hP hS (fun S => lay_168 B ct S) g6 dX12_day_29 (fun H locs hP hS => ?_)
    rw [← eS7] at hP
    refine lv_aload_n hx hb dX12_day_30 rfl (lv_at hl 0 rfl) ?_
    refine x_get C0 hP (lay_X12 B ct S7) rfl inG12 41 (by decide) wd_1182 (fun _ h => h) rfl dX12_day_31 ?_
    refine lv_iload_n hx hb dX12_day_34 rfl (lv_at hl 1 rfl) ?_
    refine lv_bipush (v := (-9)) hx hb dX12_day_35 (by decide) ?_
    obtain ⟨g8, h⟩ := ob_gd h
    obtain ⟨S9, eS9, h⟩ := ob_nm h
    refine x_iast C0 hP hS (fun S => lay_169 B ct S) g8 dX12_day_37 (fun H locs hP hS => ?_)
    rw [← eS9] at hP
    refine lv_aload_n hx hb dX12_day_38 rfl (lv_at hl 0 rfl) ?_
    refine x_get C0 hP (lay_X12 B ct S9) rfl inG12 42 (by decide) wd_1183 (fun _ h => h) rfl dX12_day_39 ?_
    refine lv_iload_n hx hb dX12_day_42 rfl (lv_at hl 1 rfl) ?_
    refine lv_bipush (v := 99) hx hb dX12_day_43 (by decide) ?_
    obtain ⟨g10, h⟩ := ob_gd h
    obtain ⟨S11, eS11, h⟩ := ob_nm h
    refine x_iast C0 hP hS (fun S => lay_170 B ct S) g10 dX12_day_45 (fun H locs hP hS => ?_)
    rw [← eS11] at hP
    refine lv_iinc (v := v1 + 1) (lv' := [(1, .int (v1 + 1)), (0, .ref (B + 136))]) hx hb dX12_day_46 hl (k := 1) rfl rfl (by decide) rfl (fun ls hl => ?_)
    refine lv_goto (tgt := 2) hx hb dX12_day_49 (by decide) ?_
    exact ih0 (v1 + 1) S11 _ _ _ h hP hS (lv_sub hl [1, 0] rfl)
set_option maxRecDepth 100000 in
set_option maxHeartbeats 4000000 in
theorem wl_X12_day_2 (l : Launch) {V : St} (C0 : XC D ct p s m args meth c cX12_day 3 none RX12)  : ∀ (n0 : Nat) (v1 : Int32) (S : St) {H : Heap} {locs : List Loc} {ls : Array Slot}, (lp n0 (l_X12_day_2) (v1, S)).bind some = some V → MP D ct B Hb S H → va_S (AB B) s.heap H locs → lv_has ls 3 [(0, .ref (B + 136)), (1, .int v1)] → W p l e { frames := 6, cells := 0, slots := 0, locals := 138 } s m args below meth c H locs 0 0 (MQ below (qVw D ct B Hb V) args s 0 0 (AB B)) (F0 m 2 ls []) := by
  intro n0
  induction n0 with
  | zero =>
    intro v1 S H locs ls h hP hS hl
    exact (lp_0 h).elim
  | succ n0 ih0 =>
    intro v1 S H locs ls h hP hS hl
    have h := lp_s h
    exact w_X12_day_2 l C0 n0 (fun v1 S H locs ls h hP hS hl => ih0 v1 S h hP hS hl) v1 S h hP hS hl
set_option maxRecDepth 100000 in
set_option maxHeartbeats 4000000 in
theorem w_X12_day_0 (l : Launch) {V : St} (C0 : XC D ct p s m args meth c cX12_day 3 none RX12) (S : St) {H : Heap} {locs : List Loc} {ls : Array Slot} (h : (b_X12_day_0 S).bind some = some V) (hP : MP D ct B Hb S H) (hS : va_S (AB B) s.heap H locs) (hl : lv_has ls 3 [(0, .ref (B + 136))]) : W p l e { frames := 6, cells := 0, slots := 0, locals := 138 } s m args below meth c H locs 0 0 (MQ below (qVw D ct B Hb V) args s 0 0 (AB B)) (F0 m 0 ls []) := by
  obtain ⟨hx, hb, hr, hml, hown, hts, hK, hlocks, hN⟩ := id C0
  unfold b_X12_day_0 at h
  refine lv_iconst (v := 0) hx hb dX12_day_0 (by decide) ?_
  refine lv_istore_n (lv' := [(1, .int 0), (0, .ref (B + 136))]) hx hb dX12_day_1 rfl hl (by decide) rfl (fun ls hl => ?_)
  exact wl_X12_day_2 l C0 1000 0 S h hP hS (lv_sub hl [1, 0] rfl)
set_option maxRecDepth 100000 in
set_option maxHeartbeats 4000000 in
theorem c_X12_day (l : Launch) {D : va_G} {ct : Nat → ClassId} {B : Nat} {Hb : Heap} {S : St} {V : St} (h : L_X12_day S = some V) : Met l yX12_day (Cond.code yX12_day cX12_day 3 none :: tG) { frames := 6, cells := 0, slots := 0, locals := 138 } (va_Pc [.ref (B + 136)] (MPK D ct B Hb S)) (qVw D ct B Hb V) 0 0 (AB B) := by
  refine mk_met (by decide +kernel) (Nat.le_of_ble_eq_true rfl) (fun p e s m args below meth c ls C0 hP hl _ => ?_)
  have h := ob_of h
  exact w_X12_day_0 l C0 S h hP va_S.rf (lv_sub hl [0] rfl)
set_option maxRecDepth 100000 in
set_option maxHeartbeats 4000000 in
theorem w_X12_told_0 (l : Launch) {V : Int32} (C0 : XC D ct p s m args meth c cX12_told 1 (some .int) RX12) (v0 : Int32) (S : St) {H : Heap} {locs : List Loc} {ls : Array Slot} (h : (b_X12_told_0 v0 S).bind some = some V) (hP : MP D ct B Hb S H) (hS : va_S (AB B) s.heap H locs) (hl : lv_has ls 1 [(0, .int v0)]) : W p l e { frames := 0, cells := 0, slots := 0, locals := 0 } s m args below meth c H locs 0 0 (MQ below (qI D ct B Hb S V) args s 0 0 (AB B)) (F0 m 0 ls []) := by
  obtain ⟨hx, hb, hr, hml, hown, hts, hK, hlocks, hN⟩ := id C0
  unfold b_X12_told_0 at h
  refine lv_iload_n hx hb dX12_told_0 rfl (lv_at hl 0 rfl) ?_
  refine lv_if_ge (tgt := 8) hx hb dX12_told_1 (by decide) (fun z1 => ?_) (fun z1 => ?_)
  · have h := ob_t h z1
    refine lv_iload_n hx hb dX12_told_8 rfl (lv_at hl 0 rfl) ?_
    exact r_I C0 hP hS h dX12_told_9
  · have h := ob_f h z1
    refine lv_iconst (v := 2) hx hb dX12_told_4 (by decide) ?_
    refine lv_goto (tgt := 9) hx hb dX12_told_5 (by decide) ?_
    exact r_I C0 hP hS h dX12_told_9
set_option maxRecDepth 100000 in
set_option maxHeartbeats 4000000 in
theorem c_X12_told (l : Launch) (a0 : Int32) {D : va_G} {ct : Nat → ClassId} {B : Nat} {Hb : Heap} {S : St} {V : Int32} (h : L_X12_told a0 S = some V) : Met l yX12_told (Cond.code yX12_told cX12_told 1 (some .int) :: tG) { frames := 0, cells := 0, slots := 0, locals := 0 } (va_Pc [.int a0] (MPK D ct B Hb S)) (qI D ct B Hb S V) 0 0 (AB B) := by
  refine mk_met (by decide +kernel) (Nat.le_of_ble_eq_true rfl) (fun p e s m args below meth c ls C0 hP hl _ => ?_)
  have h := ob_of h
  exact w_X12_told_0 l C0 a0 S h hP va_S.rf (lv_sub hl [0] rfl)
set_option maxRecDepth 100000 in
set_option maxHeartbeats 4000000 in
theorem w_X12_carry_17 (l : Launch) {V : Int32 × St} (C0 : XC D ct p s m args meth c cX12_carry 2 (some .int) RX12) (S : St) {H : Heap} {locs : List Loc} {ls : Array Slot} (h : (b_X12_carry_17 S).bind some = some V) (hP : MP D ct B Hb S H) (hS : va_S (AB B) s.heap H locs) (hl : lv_has ls 2 [(0, .ref (B + 136))]) : W p l e { frames := 0, cells := 0, slots := 0, locals := 0 } s m args below meth c H locs 0 0 (MQ below (qIw D ct B Hb V) args s 0 0 (AB B)) (F0 m 17 ls []) := by
  obtain ⟨hx, hb, hr, hml, hown, hts, hK, hlocks, hN⟩ := id C0
  unfold b_X12_carry_17 at h
  refine lv_aload_n hx hb dX12_carry_17 rfl (lv_at hl 0 rfl) ?_
  refine lv_dup hx hb dX12_carry_18 rfl ?_
  refine x_get C0 hP (lay_X12 B ct S) rfl inG12 47 (by decide) wd_1188 (fun _ h => h) rfl dX12_carry_19 ?_
  refine lv_iconst (v := 1) hx hb dX12_carry_22 (by decide) ?_
  refine lv_iadd hx hb dX12_carry_23 ?_
  obtain ⟨S1, eS1, h⟩ := ob_nm h
  refine x_put (S' := si S 136 47 ((gi S 136 47) + 1)) (FS := (fs12 B)) C0 hP hS (fun S => lay_X12 B ct S) rfl inG12 tyX12 tyX12_ok nmX12 47 (by decide) wd_1188 rfl rfl (fun a ha => lay_local (gi_si_n _ _ _ ha) rfl rfl rfl) (put_12_47 B _ _) rfl rfl (Nat.le_of_ble_eq_true rfl) dX12_carry_24 (fun H locs hP hS => ?_)
  rw [← eS1] at hP
  refine lv_aload_n hx hb dX12_carry_27 rfl (lv_at hl 0 rfl) ?_
  obtain ⟨u2, eu2, h⟩ := ob_bd h
  obtain ⟨g3, h⟩ := ob_gd h
  refine x_get (v := .ref (B + u2)) C0 hP (lay_X12 B ct S1) rfl inG12 49 (by decide) wd_1190 (fun _ h => h) (by show some (va_rf ((gr S1 136 49).map (B + ·))) = _; rw [eu2]; rfl) dX12_carry_28 ?_
  refine lv_aload_n hx hb dX12_carry_31 rfl (lv_at hl 0 rfl) ?_
  refine x_get C0 hP (lay_X12 B ct S1) rfl inG12 47 (by decide) wd_1188 (fun _ h => h) rfl dX12_carry_32 ?_
  refine lv_iconst (v := 1) hx hb dX12_carry_35 (by decide) ?_
  refine lv_isub hx hb dX12_carry_36 ?_
  obtain ⟨g4, h⟩ := ob_gd h
  refine x_iald C0 hP (lay_kp B ct S1 (isKpB_ok g3)) g4 dX12_carry_37 ?_
  exact r_Iw C0 hP hS h dX12_carry_38
set_option maxRecDepth 100000 in
set_option maxHeartbeats 4000000 in
theorem w_X12_carry_0 (l : Launch) {V : Int32 × St} (C0 : XC D ct p s m args meth c cX12_carry 2 (some .int) RX12) (v1 : Int32) (S : St) {H : Heap} {locs : List Loc} {ls : Array Slot} (h : (b_X12_carry_0 v1 S).bind some = some V) (hP : MP D ct B Hb S H) (hS : va_S (AB B) s.heap H locs) (hl : lv_has ls 2 [(0, .ref (B + 136)), (1, .int v1)]) : W p l e { frames := 0, cells := 0, slots := 0, locals := 0 } s m args below meth c H locs 0 0 (MQ below (qIw D ct B Hb V) args s 0 0 (AB B)) (F0 m 0 ls []) := by
  obtain ⟨hx, hb, hr, hml, hown, hts, hK, hlocks, hN⟩ := id C0
  unfold b_X12_carry_0 at h
  refine lv_aload_n hx hb dX12_carry_0 rfl (lv_at hl 0 rfl) ?_
  refine x_get C0 hP (lay_X12 B ct S) rfl inG12 48 (by decide) wd_1189 (fun _ h => h) rfl dX12_carry_1 ?_
  refine lv_if_eq (tgt := 17) hx hb dX12_carry_4 (by decide) (fun z1 => ?_) (fun z1 => ?_)
  · have h := ob_t h z1
    exact w_X12_carry_17 l C0 S h hP hS (lv_sub hl [0] rfl)
  · have h := ob_f h z1
    refine lv_aload_n hx hb dX12_carry_7 rfl (lv_at hl 0 rfl) ?_
    obtain ⟨u2, eu2, h⟩ := ob_bd h
    obtain ⟨g3, h⟩ := ob_gd h
    refine x_get (v := .ref (B + u2)) C0 hP (lay_X12 B ct S) rfl inG12 49 (by decide) wd_1190 (fun _ h => h) (by show some (va_rf ((gr S 136 49).map (B + ·))) = _; rw [eu2]; rfl) dX12_carry_8 ?_
    refine lv_aload_n hx hb dX12_carry_11 rfl (lv_at hl 0 rfl) ?_
    refine x_get C0 hP (lay_X12 B ct S) rfl inG12 47 (by decide) wd_1188 (fun _ h => h) rfl dX12_carry_12 ?_
    refine lv_iload_n hx hb dX12_carry_15 rfl (lv_at hl 1 rfl) ?_
    obtain ⟨g4, h⟩ := ob_gd h
    obtain ⟨S5, eS5, h⟩ := ob_nm h
    refine x_iast C0 hP hS (fun S => lay_kp B ct S (isKpB_ok g3)) g4 dX12_carry_16 (fun H locs hP hS => ?_)
    rw [← eS5] at hP
    exact w_X12_carry_17 l C0 S5 h hP hS (lv_sub hl [0] rfl)
set_option maxRecDepth 100000 in
set_option maxHeartbeats 4000000 in
theorem c_X12_carry (l : Launch) (a1 : Int32) {D : va_G} {ct : Nat → ClassId} {B : Nat} {Hb : Heap} {S : St} {V : Int32 × St} (h : L_X12_carry a1 S = some V) : Met l yX12_carry (Cond.code yX12_carry cX12_carry 2 (some .int) :: tG) { frames := 0, cells := 0, slots := 0, locals := 0 } (va_Pc [.ref (B + 136), .int a1] (MPK D ct B Hb S)) (qIw D ct B Hb V) 0 0 (AB B) := by
  refine mk_met (by decide +kernel) (Nat.le_of_ble_eq_true rfl) (fun p e s m args below meth c ls C0 hP hl _ => ?_)
  have h := ob_of h
  exact w_X12_carry_0 l C0 a1 S h hP va_S.rf (lv_sub hl [0, 1] rfl)
end WALKS
