theorem dX12_two_0 : decode cX12_two 0 = .ok (.aload_n 0, 1) := by decide +kernel
theorem dX12_two_1 : decode cX12_two 1 = .ok (.iconst 0, 1) := by decide +kernel
theorem dX12_two_2 : decode cX12_two 2 = .ok (.putfield 160, 3) := by decide +kernel
theorem dX12_two_5 : decode cX12_two 5 = .ok (.aload_n 0, 1) := by decide +kernel
theorem dX12_two_6 : decode cX12_two 6 = .ok (.iload_n 1, 1) := by decide +kernel
theorem dX12_two_7 : decode cX12_two 7 = .ok (.invokevirtual 337, 3) := by decide +kernel
theorem dX12_two_10 : decode cX12_two 10 = .ok (.ifCond .eq 16, 3) := by decide +kernel
theorem dX12_two_13 : decode cX12_two 13 = .ok (.aload_n 0, 1) := by decide +kernel
theorem dX12_two_14 : decode cX12_two 14 = .ok (.iload_n 2, 1) := by decide +kernel
theorem dX12_two_15 : decode cX12_two 15 = .ok (.invokevirtual 337, 3) := by decide +kernel
theorem dX12_two_18 : decode cX12_two 18 = .ok (.ifCond .eq 8, 3) := by decide +kernel
theorem dX12_two_21 : decode cX12_two 21 = .ok (.iload_n 1, 1) := by decide +kernel
theorem dX12_two_22 : decode cX12_two 22 = .ok (.iload_n 2, 1) := by decide +kernel
theorem dX12_two_23 : decode cX12_two 23 = .ok (.if_icmp .ne 5, 3) := by decide +kernel
theorem dX12_two_26 : decode cX12_two 26 = .ok (.iconst (-1), 1) := by decide +kernel
theorem dX12_two_27 : decode cX12_two 27 = .ok (.ireturn, 1) := by decide +kernel
theorem dX12_two_28 : decode cX12_two 28 = .ok (.aload_n 0, 1) := by decide +kernel
theorem dX12_two_29 : decode cX12_two 29 = .ok (.getfield 59, 3) := by decide +kernel
theorem dX12_two_32 : decode cX12_two 32 = .ok (.iload_n 1, 1) := by decide +kernel
theorem dX12_two_33 : decode cX12_two 33 = .ok (.iaload, 1) := by decide +kernel
theorem dX12_two_34 : decode cX12_two 34 = .ok (.istore_n 3, 1) := by decide +kernel
theorem dX12_two_35 : decode cX12_two 35 = .ok (.aload_n 0, 1) := by decide +kernel
theorem dX12_two_36 : decode cX12_two 36 = .ok (.getfield 59, 3) := by decide +kernel
theorem dX12_two_39 : decode cX12_two 39 = .ok (.iload_n 2, 1) := by decide +kernel
theorem dX12_two_40 : decode cX12_two 40 = .ok (.iaload, 1) := by decide +kernel
theorem dX12_two_41 : decode cX12_two 41 = .ok (.istore 4, 2) := by decide +kernel
theorem dX12_two_43 : decode cX12_two 43 = .ok (.iconst 0, 1) := by decide +kernel
theorem dX12_two_44 : decode cX12_two 44 = .ok (.istore 5, 2) := by decide +kernel
theorem dX12_two_46 : decode cX12_two 46 = .ok (.iload 5, 2) := by decide +kernel
theorem dX12_two_48 : decode cX12_two 48 = .ok (.bipush 9, 2) := by decide +kernel
theorem dX12_two_50 : decode cX12_two 50 = .ok (.if_icmp .ge 68, 3) := by decide +kernel
theorem dX12_two_53 : decode cX12_two 53 = .ok (.aload_n 0, 1) := by decide +kernel
theorem dX12_two_54 : decode cX12_two 54 = .ok (.getfield 59, 3) := by decide +kernel
theorem dX12_two_57 : decode cX12_two 57 = .ok (.iload_n 1, 1) := by decide +kernel
theorem dX12_two_58 : decode cX12_two 58 = .ok (.iload_n 3, 1) := by decide +kernel
theorem dX12_two_59 : decode cX12_two 59 = .ok (.iload 5, 2) := by decide +kernel
theorem dX12_two_61 : decode cX12_two 61 = .ok (.iconst 3, 1) := by decide +kernel
theorem dX12_two_62 : decode cX12_two 62 = .ok (.idiv, 1) := by decide +kernel
theorem dX12_two_63 : decode cX12_two 63 = .ok (.invokestatic 409, 3) := by decide +kernel
theorem dX12_two_66 : decode cX12_two 66 = .ok (.iastore, 1) := by decide +kernel
theorem dX12_two_67 : decode cX12_two 67 = .ok (.aload_n 0, 1) := by decide +kernel
theorem dX12_two_68 : decode cX12_two 68 = .ok (.getfield 59, 3) := by decide +kernel
theorem dX12_two_71 : decode cX12_two 71 = .ok (.iload_n 2, 1) := by decide +kernel
theorem dX12_two_72 : decode cX12_two 72 = .ok (.iload 4, 2) := by decide +kernel
theorem dX12_two_74 : decode cX12_two 74 = .ok (.iload 5, 2) := by decide +kernel
theorem dX12_two_76 : decode cX12_two 76 = .ok (.iconst 3, 1) := by decide +kernel
theorem dX12_two_77 : decode cX12_two 77 = .ok (.irem, 1) := by decide +kernel
theorem dX12_two_78 : decode cX12_two 78 = .ok (.invokestatic 409, 3) := by decide +kernel
theorem dX12_two_81 : decode cX12_two 81 = .ok (.iastore, 1) := by decide +kernel
theorem dX12_two_82 : decode cX12_two 82 = .ok (.aload_n 0, 1) := by decide +kernel
theorem dX12_two_83 : decode cX12_two 83 = .ok (.invokevirtual 362, 3) := by decide +kernel
theorem dX12_two_86 : decode cX12_two 86 = .ok (.aload_n 0, 1) := by decide +kernel
theorem dX12_two_87 : decode cX12_two 87 = .ok (.getfield 148, 3) := by decide +kernel
theorem dX12_two_90 : decode cX12_two 90 = .ok (.iload 5, 2) := by decide +kernel
theorem dX12_two_92 : decode cX12_two 92 = .ok (.aload_n 0, 1) := by decide +kernel
theorem dX12_two_93 : decode cX12_two 93 = .ok (.getfield 106, 3) := by decide +kernel
theorem dX12_two_96 : decode cX12_two 96 = .ok (.iload_n 1, 1) := by decide +kernel
theorem dX12_two_97 : decode cX12_two 97 = .ok (.iaload, 1) := by decide +kernel
theorem dX12_two_98 : decode cX12_two 98 = .ok (.iastore, 1) := by decide +kernel
theorem dX12_two_99 : decode cX12_two 99 = .ok (.aload_n 0, 1) := by decide +kernel
theorem dX12_two_100 : decode cX12_two 100 = .ok (.getfield 151, 3) := by decide +kernel
theorem dX12_two_103 : decode cX12_two 103 = .ok (.iload 5, 2) := by decide +kernel
theorem dX12_two_105 : decode cX12_two 105 = .ok (.aload_n 0, 1) := by decide +kernel
theorem dX12_two_106 : decode cX12_two 106 = .ok (.getfield 106, 3) := by decide +kernel
theorem dX12_two_109 : decode cX12_two 109 = .ok (.iload_n 2, 1) := by decide +kernel
theorem dX12_two_110 : decode cX12_two 110 = .ok (.iaload, 1) := by decide +kernel
theorem dX12_two_111 : decode cX12_two 111 = .ok (.iastore, 1) := by decide +kernel
theorem dX12_two_112 : decode cX12_two 112 = .ok (.iinc 5 1, 3) := by decide +kernel
theorem dX12_two_115 : decode cX12_two 115 = .ok (.goto (-69), 3) := by decide +kernel
theorem dX12_two_118 : decode cX12_two 118 = .ok (.aload_n 0, 1) := by decide +kernel
theorem dX12_two_119 : decode cX12_two 119 = .ok (.getfield 59, 3) := by decide +kernel
theorem dX12_two_122 : decode cX12_two 122 = .ok (.iload_n 1, 1) := by decide +kernel
theorem dX12_two_123 : decode cX12_two 123 = .ok (.iload_n 3, 1) := by decide +kernel
theorem dX12_two_124 : decode cX12_two 124 = .ok (.iastore, 1) := by decide +kernel
theorem dX12_two_125 : decode cX12_two 125 = .ok (.aload_n 0, 1) := by decide +kernel
theorem dX12_two_126 : decode cX12_two 126 = .ok (.getfield 59, 3) := by decide +kernel
theorem dX12_two_129 : decode cX12_two 129 = .ok (.iload_n 2, 1) := by decide +kernel
theorem dX12_two_130 : decode cX12_two 130 = .ok (.iload 4, 2) := by decide +kernel
theorem dX12_two_132 : decode cX12_two 132 = .ok (.iastore, 1) := by decide +kernel
theorem dX12_two_133 : decode cX12_two 133 = .ok (.iconst 0, 1) := by decide +kernel
theorem dX12_two_134 : decode cX12_two 134 = .ok (.istore 5, 2) := by decide +kernel
theorem dX12_two_136 : decode cX12_two 136 = .ok (.iload 5, 2) := by decide +kernel
theorem dX12_two_138 : decode cX12_two 138 = .ok (.bipush 9, 2) := by decide +kernel
theorem dX12_two_140 : decode cX12_two 140 = .ok (.if_icmp .ge 105, 3) := by decide +kernel
theorem dX12_two_143 : decode cX12_two 143 = .ok (.iconst 1, 1) := by decide +kernel
theorem dX12_two_144 : decode cX12_two 144 = .ok (.istore 6, 2) := by decide +kernel
theorem dX12_two_146 : decode cX12_two 146 = .ok (.iconst 0, 1) := by decide +kernel
theorem dX12_two_147 : decode cX12_two 147 = .ok (.istore 7, 2) := by decide +kernel
theorem dX12_two_149 : decode cX12_two 149 = .ok (.iload 7, 2) := by decide +kernel
theorem dX12_two_151 : decode cX12_two 151 = .ok (.iconst 3, 1) := by decide +kernel
theorem dX12_two_152 : decode cX12_two 152 = .ok (.if_icmp .ge 69, 3) := by decide +kernel
theorem dX12_two_155 : decode cX12_two 155 = .ok (.iload 6, 2) := by decide +kernel
theorem dX12_two_157 : decode cX12_two 157 = .ok (.ifCond .eq 55, 3) := by decide +kernel
theorem dX12_two_160 : decode cX12_two 160 = .ok (.aload_n 0, 1) := by decide +kernel
theorem dX12_two_161 : decode cX12_two 161 = .ok (.getfield 148, 3) := by decide +kernel
theorem dX12_two_164 : decode cX12_two 164 = .ok (.iconst 3, 1) := by decide +kernel
theorem dX12_two_165 : decode cX12_two 165 = .ok (.iload 7, 2) := by decide +kernel
theorem dX12_two_167 : decode cX12_two 167 = .ok (.imul, 1) := by decide +kernel
theorem dX12_two_168 : decode cX12_two 168 = .ok (.iload 5, 2) := by decide +kernel
theorem dX12_two_170 : decode cX12_two 170 = .ok (.iconst 3, 1) := by decide +kernel
theorem dX12_two_171 : decode cX12_two 171 = .ok (.irem, 1) := by decide +kernel
theorem dX12_two_172 : decode cX12_two 172 = .ok (.iadd, 1) := by decide +kernel
theorem dX12_two_173 : decode cX12_two 173 = .ok (.iaload, 1) := by decide +kernel
theorem dX12_two_174 : decode cX12_two 174 = .ok (.aload_n 0, 1) := by decide +kernel
theorem dX12_two_175 : decode cX12_two 175 = .ok (.getfield 148, 3) := by decide +kernel
theorem dX12_two_178 : decode cX12_two 178 = .ok (.iload 5, 2) := by decide +kernel
theorem dX12_two_180 : decode cX12_two 180 = .ok (.iaload, 1) := by decide +kernel
theorem dX12_two_181 : decode cX12_two 181 = .ok (.if_icmp .gt 31, 3) := by decide +kernel
theorem dX12_two_184 : decode cX12_two 184 = .ok (.aload_n 0, 1) := by decide +kernel
theorem dX12_two_185 : decode cX12_two 185 = .ok (.getfield 151, 3) := by decide +kernel
theorem dX12_two_188 : decode cX12_two 188 = .ok (.iload 5, 2) := by decide +kernel
theorem dX12_two_190 : decode cX12_two 190 = .ok (.iconst 3, 1) := by decide +kernel
theorem dX12_two_191 : decode cX12_two 191 = .ok (.idiv, 1) := by decide +kernel
theorem dX12_two_192 : decode cX12_two 192 = .ok (.iconst 3, 1) := by decide +kernel
theorem dX12_two_193 : decode cX12_two 193 = .ok (.imul, 1) := by decide +kernel
theorem dX12_two_194 : decode cX12_two 194 = .ok (.iload 7, 2) := by decide +kernel
theorem dX12_two_196 : decode cX12_two 196 = .ok (.iadd, 1) := by decide +kernel
theorem dX12_two_197 : decode cX12_two 197 = .ok (.iaload, 1) := by decide +kernel
theorem dX12_two_198 : decode cX12_two 198 = .ok (.aload_n 0, 1) := by decide +kernel
theorem dX12_two_199 : decode cX12_two 199 = .ok (.getfield 151, 3) := by decide +kernel
theorem dX12_two_202 : decode cX12_two 202 = .ok (.iload 5, 2) := by decide +kernel
theorem dX12_two_204 : decode cX12_two 204 = .ok (.iaload, 1) := by decide +kernel
theorem dX12_two_205 : decode cX12_two 205 = .ok (.if_icmp .gt 7, 3) := by decide +kernel
theorem dX12_two_208 : decode cX12_two 208 = .ok (.iconst 1, 1) := by decide +kernel
theorem dX12_two_209 : decode cX12_two 209 = .ok (.goto 4, 3) := by decide +kernel
theorem dX12_two_212 : decode cX12_two 212 = .ok (.iconst 0, 1) := by decide +kernel
theorem dX12_two_213 : decode cX12_two 213 = .ok (.istore 6, 2) := by decide +kernel
theorem dX12_two_215 : decode cX12_two 215 = .ok (.iinc 7 1, 3) := by decide +kernel
theorem dX12_two_218 : decode cX12_two 218 = .ok (.goto (-69), 3) := by decide +kernel
theorem dX12_two_221 : decode cX12_two 221 = .ok (.iload 6, 2) := by decide +kernel
theorem dX12_two_223 : decode cX12_two 223 = .ok (.ifCond .eq 16, 3) := by decide +kernel
theorem dX12_two_226 : decode cX12_two 226 = .ok (.bipush 10, 2) := by decide +kernel
theorem dX12_two_228 : decode cX12_two 228 = .ok (.iload 5, 2) := by decide +kernel
theorem dX12_two_230 : decode cX12_two 230 = .ok (.iconst 3, 1) := by decide +kernel
theorem dX12_two_231 : decode cX12_two 231 = .ok (.idiv, 1) := by decide +kernel
theorem dX12_two_232 : decode cX12_two 232 = .ok (.imul, 1) := by decide +kernel
theorem dX12_two_233 : decode cX12_two 233 = .ok (.iload 5, 2) := by decide +kernel
theorem dX12_two_235 : decode cX12_two 235 = .ok (.iconst 3, 1) := by decide +kernel
theorem dX12_two_236 : decode cX12_two 236 = .ok (.irem, 1) := by decide +kernel
theorem dX12_two_237 : decode cX12_two 237 = .ok (.iadd, 1) := by decide +kernel
theorem dX12_two_238 : decode cX12_two 238 = .ok (.ireturn, 1) := by decide +kernel
theorem dX12_two_239 : decode cX12_two 239 = .ok (.iinc 5 1, 3) := by decide +kernel
theorem dX12_two_242 : decode cX12_two 242 = .ok (.goto (-106), 3) := by decide +kernel
theorem dX12_two_245 : decode cX12_two 245 = .ok (.bipush (-4), 2) := by decide +kernel
theorem dX12_two_247 : decode cX12_two 247 = .ok (.ireturn, 1) := by decide +kernel
theorem dX12_without_0 : decode cX12_without 0 = .ok (.aload_n 0, 1) := by decide +kernel
theorem dX12_without_1 : decode cX12_without 1 = .ok (.iconst 0, 1) := by decide +kernel
theorem dX12_without_2 : decode cX12_without 2 = .ok (.putfield 160, 3) := by decide +kernel
theorem dX12_without_5 : decode cX12_without 5 = .ok (.aload_n 0, 1) := by decide +kernel
theorem dX12_without_6 : decode cX12_without 6 = .ok (.invokevirtual 403, 3) := by decide +kernel
theorem dX12_without_9 : decode cX12_without 9 = .ok (.aload_n 0, 1) := by decide +kernel
theorem dX12_without_10 : decode cX12_without 10 = .ok (.iconst 1, 1) := by decide +kernel
theorem dX12_without_11 : decode cX12_without 11 = .ok (.putfield 210, 3) := by decide +kernel
theorem dX12_without_14 : decode cX12_without 14 = .ok (.aload_n 0, 1) := by decide +kernel
theorem dX12_without_15 : decode cX12_without 15 = .ok (.sipush 255, 3) := by decide +kernel
theorem dX12_without_18 : decode cX12_without 18 = .ok (.invokevirtual 406, 3) := by decide +kernel
theorem dX12_without_21 : decode cX12_without 21 = .ok (.istore_n 1, 1) := by decide +kernel
theorem dX12_without_22 : decode cX12_without 22 = .ok (.aload_n 0, 1) := by decide +kernel
theorem dX12_without_23 : decode cX12_without 23 = .ok (.iconst 0, 1) := by decide +kernel
theorem dX12_without_24 : decode cX12_without 24 = .ok (.putfield 210, 3) := by decide +kernel
theorem dX12_without_27 : decode cX12_without 27 = .ok (.iload_n 1, 1) := by decide +kernel
theorem dX12_without_28 : decode cX12_without 28 = .ok (.ireturn, 1) := by decide +kernel
theorem dX12_keepMoods_0 : decode cX12_keepMoods 0 = .ok (.iconst 0, 1) := by decide +kernel
theorem dX12_keepMoods_1 : decode cX12_keepMoods 1 = .ok (.istore_n 2, 1) := by decide +kernel
theorem dX12_keepMoods_2 : decode cX12_keepMoods 2 = .ok (.iload_n 2, 1) := by decide +kernel
theorem dX12_keepMoods_3 : decode cX12_keepMoods 3 = .ok (.bipush 8, 2) := by decide +kernel
theorem dX12_keepMoods_5 : decode cX12_keepMoods 5 = .ok (.if_icmp .ge 26, 3) := by decide +kernel
theorem dX12_keepMoods_8 : decode cX12_keepMoods 8 = .ok (.aload_n 0, 1) := by decide +kernel
theorem dX12_keepMoods_9 : decode cX12_keepMoods 9 = .ok (.getfield 154, 3) := by decide +kernel
theorem dX12_keepMoods_12 : decode cX12_keepMoods 12 = .ok (.bipush 8, 2) := by decide +kernel
theorem dX12_keepMoods_14 : decode cX12_keepMoods 14 = .ok (.iload_n 1, 1) := by decide +kernel
theorem dX12_keepMoods_15 : decode cX12_keepMoods 15 = .ok (.imul, 1) := by decide +kernel
theorem dX12_keepMoods_16 : decode cX12_keepMoods 16 = .ok (.iload_n 2, 1) := by decide +kernel
theorem dX12_keepMoods_17 : decode cX12_keepMoods 17 = .ok (.iadd, 1) := by decide +kernel
theorem dX12_keepMoods_18 : decode cX12_keepMoods 18 = .ok (.aload_n 0, 1) := by decide +kernel
theorem dX12_keepMoods_19 : decode cX12_keepMoods 19 = .ok (.getfield 62, 3) := by decide +kernel
theorem dX12_keepMoods_22 : decode cX12_keepMoods 22 = .ok (.iload_n 2, 1) := by decide +kernel
theorem dX12_keepMoods_23 : decode cX12_keepMoods 23 = .ok (.iaload, 1) := by decide +kernel
theorem dX12_keepMoods_24 : decode cX12_keepMoods 24 = .ok (.iastore, 1) := by decide +kernel
theorem dX12_keepMoods_25 : decode cX12_keepMoods 25 = .ok (.iinc 2 1, 3) := by decide +kernel
theorem dX12_keepMoods_28 : decode cX12_keepMoods 28 = .ok (.goto (-26), 3) := by decide +kernel
theorem dX12_keepMoods_31 : decode cX12_keepMoods 31 = .ok (.return_, 1) := by decide +kernel
theorem dX12_likeAhead_0 : decode cX12_likeAhead 0 = .ok (.iconst 0, 1) := by decide +kernel
theorem dX12_likeAhead_1 : decode cX12_likeAhead 1 = .ok (.istore_n 2, 1) := by decide +kernel
theorem dX12_likeAhead_2 : decode cX12_likeAhead 2 = .ok (.iload_n 2, 1) := by decide +kernel
theorem dX12_likeAhead_3 : decode cX12_likeAhead 3 = .ok (.iload_n 1, 1) := by decide +kernel
theorem dX12_likeAhead_4 : decode cX12_likeAhead 4 = .ok (.if_icmp .ge 72, 3) := by decide +kernel
theorem dX12_likeAhead_7 : decode cX12_likeAhead 7 = .ok (.iconst 1, 1) := by decide +kernel
theorem dX12_likeAhead_8 : decode cX12_likeAhead 8 = .ok (.istore_n 3, 1) := by decide +kernel
theorem dX12_likeAhead_9 : decode cX12_likeAhead 9 = .ok (.iconst 0, 1) := by decide +kernel
theorem dX12_likeAhead_10 : decode cX12_likeAhead 10 = .ok (.istore 4, 2) := by decide +kernel
theorem dX12_likeAhead_12 : decode cX12_likeAhead 12 = .ok (.iload 4, 2) := by decide +kernel
theorem dX12_likeAhead_14 : decode cX12_likeAhead 14 = .ok (.aload_n 0, 1) := by decide +kernel
theorem dX12_likeAhead_15 : decode cX12_likeAhead 15 = .ok (.getfield 171, 3) := by decide +kernel
theorem dX12_likeAhead_18 : decode cX12_likeAhead 18 = .ok (.if_icmp .ge 46, 3) := by decide +kernel
theorem dX12_likeAhead_21 : decode cX12_likeAhead 21 = .ok (.iload_n 3, 1) := by decide +kernel
theorem dX12_likeAhead_22 : decode cX12_likeAhead 22 = .ok (.ifCond .eq 34, 3) := by decide +kernel
theorem dX12_likeAhead_25 : decode cX12_likeAhead 25 = .ok (.aload_n 0, 1) := by decide +kernel
theorem dX12_likeAhead_26 : decode cX12_likeAhead 26 = .ok (.getfield 154, 3) := by decide +kernel
theorem dX12_likeAhead_29 : decode cX12_likeAhead 29 = .ok (.bipush 8, 2) := by decide +kernel
theorem dX12_likeAhead_31 : decode cX12_likeAhead 31 = .ok (.iload_n 2, 1) := by decide +kernel
theorem dX12_likeAhead_32 : decode cX12_likeAhead 32 = .ok (.imul, 1) := by decide +kernel
theorem dX12_likeAhead_33 : decode cX12_likeAhead 33 = .ok (.iload 4, 2) := by decide +kernel
theorem dX12_likeAhead_35 : decode cX12_likeAhead 35 = .ok (.iadd, 1) := by decide +kernel
theorem dX12_likeAhead_36 : decode cX12_likeAhead 36 = .ok (.iaload, 1) := by decide +kernel
theorem dX12_likeAhead_37 : decode cX12_likeAhead 37 = .ok (.aload_n 0, 1) := by decide +kernel
theorem dX12_likeAhead_38 : decode cX12_likeAhead 38 = .ok (.getfield 154, 3) := by decide +kernel
theorem dX12_likeAhead_41 : decode cX12_likeAhead 41 = .ok (.bipush 8, 2) := by decide +kernel
theorem dX12_likeAhead_43 : decode cX12_likeAhead 43 = .ok (.iload_n 1, 1) := by decide +kernel
theorem dX12_likeAhead_44 : decode cX12_likeAhead 44 = .ok (.imul, 1) := by decide +kernel
theorem dX12_likeAhead_45 : decode cX12_likeAhead 45 = .ok (.iload 4, 2) := by decide +kernel
theorem dX12_likeAhead_47 : decode cX12_likeAhead 47 = .ok (.iadd, 1) := by decide +kernel
theorem dX12_likeAhead_48 : decode cX12_likeAhead 48 = .ok (.iaload, 1) := by decide +kernel
theorem dX12_likeAhead_49 : decode cX12_likeAhead 49 = .ok (.if_icmp .ne 7, 3) := by decide +kernel
theorem dX12_likeAhead_52 : decode cX12_likeAhead 52 = .ok (.iconst 1, 1) := by decide +kernel
theorem dX12_likeAhead_53 : decode cX12_likeAhead 53 = .ok (.goto 4, 3) := by decide +kernel
theorem dX12_likeAhead_56 : decode cX12_likeAhead 56 = .ok (.iconst 0, 1) := by decide +kernel
theorem dX12_likeAhead_57 : decode cX12_likeAhead 57 = .ok (.istore_n 3, 1) := by decide +kernel
theorem dX12_likeAhead_58 : decode cX12_likeAhead 58 = .ok (.iinc 4 1, 3) := by decide +kernel
theorem dX12_likeAhead_61 : decode cX12_likeAhead 61 = .ok (.goto (-49), 3) := by decide +kernel
theorem dX12_likeAhead_64 : decode cX12_likeAhead 64 = .ok (.iload_n 3, 1) := by decide +kernel
theorem dX12_likeAhead_65 : decode cX12_likeAhead 65 = .ok (.ifCond .eq 5, 3) := by decide +kernel
theorem dX12_likeAhead_68 : decode cX12_likeAhead 68 = .ok (.iload_n 2, 1) := by decide +kernel
theorem dX12_likeAhead_69 : decode cX12_likeAhead 69 = .ok (.ireturn, 1) := by decide +kernel
theorem dX12_likeAhead_70 : decode cX12_likeAhead 70 = .ok (.iinc 2 1, 3) := by decide +kernel
theorem dX12_likeAhead_73 : decode cX12_likeAhead 73 = .ok (.goto (-71), 3) := by decide +kernel
theorem dX12_likeAhead_76 : decode cX12_likeAhead 76 = .ok (.bipush (-4), 2) := by decide +kernel
theorem dX12_likeAhead_78 : decode cX12_likeAhead 78 = .ok (.ireturn, 1) := by decide +kernel
theorem dX12_again_0 : decode cX12_again 0 = .ok (.aload_n 0, 1) := by decide +kernel
theorem dX12_again_1 : decode cX12_again 1 = .ok (.iconst 0, 1) := by decide +kernel
theorem dX12_again_2 : decode cX12_again 2 = .ok (.putfield 160, 3) := by decide +kernel
theorem dX12_again_5 : decode cX12_again 5 = .ok (.iload_n 1, 1) := by decide +kernel
theorem dX12_again_6 : decode cX12_again 6 = .ok (.i2l, 1) := by decide +kernel
theorem dX12_again_7 : decode cX12_again 7 = .ok (.lconst 0, 1) := by decide +kernel
theorem dX12_again_8 : decode cX12_again 8 = .ok (.lconst 1, 1) := by decide +kernel
theorem dX12_again_9 : decode cX12_again 9 = .ok (.invokestatic 165, 3) := by decide +kernel
theorem dX12_again_12 : decode cX12_again 12 = .ok (.ifCond .ne 5, 3) := by decide +kernel
theorem dX12_again_15 : decode cX12_again 15 = .ok (.iconst (-1), 1) := by decide +kernel
theorem dX12_again_16 : decode cX12_again 16 = .ok (.ireturn, 1) := by decide +kernel
theorem dX12_again_17 : decode cX12_again 17 = .ok (.aload_n 0, 1) := by decide +kernel
theorem dX12_again_18 : decode cX12_again 18 = .ok (.invokevirtual 328, 3) := by decide +kernel
theorem dX12_again_21 : decode cX12_again 21 = .ok (.aload_n 0, 1) := by decide +kernel
theorem dX12_again_22 : decode cX12_again 22 = .ok (.iconst 0, 1) := by decide +kernel
theorem dX12_again_23 : decode cX12_again 23 = .ok (.invokevirtual 412, 3) := by decide +kernel
theorem dX12_again_26 : decode cX12_again 26 = .ok (.bipush (-4), 2) := by decide +kernel
theorem dX12_again_28 : decode cX12_again 28 = .ok (.istore_n 2, 1) := by decide +kernel
theorem dX12_again_29 : decode cX12_again 29 = .ok (.bipush (-4), 2) := by decide +kernel
theorem dX12_again_31 : decode cX12_again 31 = .ok (.istore_n 3, 1) := by decide +kernel
theorem dX12_again_32 : decode cX12_again 32 = .ok (.iconst 1, 1) := by decide +kernel
theorem dX12_again_33 : decode cX12_again 33 = .ok (.istore 4, 2) := by decide +kernel
theorem dX12_again_35 : decode cX12_again 35 = .ok (.iload 4, 2) := by decide +kernel
theorem dX12_again_37 : decode cX12_again 37 = .ok (.bipush 40, 2) := by decide +kernel
theorem dX12_again_39 : decode cX12_again 39 = .ok (.if_icmp .gt 124, 3) := by decide +kernel
theorem dX12_again_42 : decode cX12_again 42 = .ok (.iload_n 2, 1) := by decide +kernel
theorem dX12_again_43 : decode cX12_again 43 = .ok (.ifCond .ge 120, 3) := by decide +kernel
theorem dX12_again_46 : decode cX12_again 46 = .ok (.aload_n 0, 1) := by decide +kernel
theorem dX12_again_47 : decode cX12_again 47 = .ok (.invokevirtual 362, 3) := by decide +kernel
theorem dX12_again_50 : decode cX12_again 50 = .ok (.iconst 0, 1) := by decide +kernel
theorem dX12_again_51 : decode cX12_again 51 = .ok (.istore 5, 2) := by decide +kernel
theorem dX12_again_53 : decode cX12_again 53 = .ok (.iload 5, 2) := by decide +kernel
theorem dX12_again_55 : decode cX12_again 55 = .ok (.aload_n 0, 1) := by decide +kernel
theorem dX12_again_56 : decode cX12_again 56 = .ok (.getfield 171, 3) := by decide +kernel
theorem dX12_again_59 : decode cX12_again 59 = .ok (.if_icmp .ge 73, 3) := by decide +kernel
theorem dX12_again_62 : decode cX12_again 62 = .ok (.aload_n 0, 1) := by decide +kernel
theorem dX12_again_63 : decode cX12_again 63 = .ok (.getfield 62, 3) := by decide +kernel
theorem dX12_again_66 : decode cX12_again 66 = .ok (.iload 5, 2) := by decide +kernel
theorem dX12_again_68 : decode cX12_again 68 = .ok (.iaload, 1) := by decide +kernel
theorem dX12_again_69 : decode cX12_again 69 = .ok (.aload_n 0, 1) := by decide +kernel
theorem dX12_again_70 : decode cX12_again 70 = .ok (.getfield 109, 3) := by decide +kernel
theorem dX12_again_73 : decode cX12_again 73 = .ok (.iload 5, 2) := by decide +kernel
theorem dX12_again_75 : decode cX12_again 75 = .ok (.baload, 1) := by decide +kernel
theorem dX12_again_76 : decode cX12_again 76 = .ok (.ifCond .eq 13, 3) := by decide +kernel
theorem dX12_again_79 : decode cX12_again 79 = .ok (.aload_n 0, 1) := by decide +kernel
theorem dX12_again_80 : decode cX12_again 80 = .ok (.getfield 118, 3) := by decide +kernel
theorem dX12_again_83 : decode cX12_again 83 = .ok (.iload 5, 2) := by decide +kernel
theorem dX12_again_85 : decode cX12_again 85 = .ok (.iaload, 1) := by decide +kernel
theorem dX12_again_86 : decode cX12_again 86 = .ok (.goto 4, 3) := by decide +kernel
theorem dX12_again_89 : decode cX12_again 89 = .ok (.iconst 0, 1) := by decide +kernel
theorem dX12_again_90 : decode cX12_again 90 = .ok (.iadd, 1) := by decide +kernel
theorem dX12_again_91 : decode cX12_again 91 = .ok (.istore 6, 2) := by decide +kernel
theorem dX12_again_93 : decode cX12_again 93 = .ok (.aload_n 0, 1) := by decide +kernel
theorem dX12_again_94 : decode cX12_again 94 = .ok (.getfield 62, 3) := by decide +kernel
theorem dX12_again_97 : decode cX12_again 97 = .ok (.iload 5, 2) := by decide +kernel
theorem dX12_again_99 : decode cX12_again 99 = .ok (.iload 6, 2) := by decide +kernel
theorem dX12_again_101 : decode cX12_again 101 = .ok (.bipush (-9), 2) := by decide +kernel
theorem dX12_again_103 : decode cX12_again 103 = .ok (.if_icmp .ge 8, 3) := by decide +kernel
theorem dX12_again_106 : decode cX12_again 106 = .ok (.bipush (-9), 2) := by decide +kernel
theorem dX12_again_108 : decode cX12_again 108 = .ok (.goto 17, 3) := by decide +kernel
theorem dX12_again_111 : decode cX12_again 111 = .ok (.iload 6, 2) := by decide +kernel
theorem dX12_again_113 : decode cX12_again 113 = .ok (.bipush 9, 2) := by decide +kernel
theorem dX12_again_115 : decode cX12_again 115 = .ok (.if_icmp .le 8, 3) := by decide +kernel
theorem dX12_again_118 : decode cX12_again 118 = .ok (.bipush 9, 2) := by decide +kernel
theorem dX12_again_120 : decode cX12_again 120 = .ok (.goto 5, 3) := by decide +kernel
theorem dX12_again_123 : decode cX12_again 123 = .ok (.iload 6, 2) := by decide +kernel
theorem dX12_again_125 : decode cX12_again 125 = .ok (.iastore, 1) := by decide +kernel
theorem dX12_again_126 : decode cX12_again 126 = .ok (.iinc 5 1, 3) := by decide +kernel
theorem dX12_again_129 : decode cX12_again 129 = .ok (.goto (-76), 3) := by decide +kernel
theorem dX12_again_132 : decode cX12_again 132 = .ok (.aload_n 0, 1) := by decide +kernel
theorem dX12_again_133 : decode cX12_again 133 = .ok (.iload 4, 2) := by decide +kernel
theorem dX12_again_135 : decode cX12_again 135 = .ok (.invokevirtual 412, 3) := by decide +kernel
theorem dX12_again_138 : decode cX12_again 138 = .ok (.aload_n 0, 1) := by decide +kernel
theorem dX12_again_139 : decode cX12_again 139 = .ok (.iload 4, 2) := by decide +kernel
theorem dX12_again_141 : decode cX12_again 141 = .ok (.invokevirtual 416, 3) := by decide +kernel
theorem dX12_again_144 : decode cX12_again 144 = .ok (.istore_n 3, 1) := by decide +kernel
theorem dX12_again_145 : decode cX12_again 145 = .ok (.iload_n 3, 1) := by decide +kernel
theorem dX12_again_146 : decode cX12_again 146 = .ok (.ifCond .lt 8, 3) := by decide +kernel
theorem dX12_again_149 : decode cX12_again 149 = .ok (.iload 4, 2) := by decide +kernel
theorem dX12_again_151 : decode cX12_again 151 = .ok (.goto 5, 3) := by decide +kernel
theorem dX12_again_154 : decode cX12_again 154 = .ok (.bipush (-4), 2) := by decide +kernel
theorem dX12_again_156 : decode cX12_again 156 = .ok (.istore_n 2, 1) := by decide +kernel
theorem dX12_again_157 : decode cX12_again 157 = .ok (.iinc 4 1, 3) := by decide +kernel
theorem dX12_again_160 : decode cX12_again 160 = .ok (.goto (-125), 3) := by decide +kernel
theorem dX12_again_163 : decode cX12_again 163 = .ok (.aload_n 0, 1) := by decide +kernel
theorem dX12_again_164 : decode cX12_again 164 = .ok (.invokevirtual 334, 3) := by decide +kernel
theorem dX12_again_167 : decode cX12_again 167 = .ok (.iload_n 1, 1) := by decide +kernel
theorem dX12_again_168 : decode cX12_again 168 = .ok (.ifCond .ne 7, 3) := by decide +kernel
theorem dX12_again_171 : decode cX12_again 171 = .ok (.iload_n 2, 1) := by decide +kernel
theorem dX12_again_172 : decode cX12_again 172 = .ok (.goto 4, 3) := by decide +kernel
theorem dX12_again_175 : decode cX12_again 175 = .ok (.iload_n 3, 1) := by decide +kernel
theorem dX12_again_176 : decode cX12_again 176 = .ok (.ireturn, 1) := by decide +kernel
theorem dX12_skipped_0 : decode cX12_skipped 0 = .ok (.aload_n 0, 1) := by decide +kernel
theorem dX12_skipped_1 : decode cX12_skipped 1 = .ok (.getfield 77, 3) := by decide +kernel
theorem dX12_skipped_4 : decode cX12_skipped 4 = .ok (.iload_n 1, 1) := by decide +kernel
theorem dX12_skipped_5 : decode cX12_skipped 5 = .ok (.iaload, 1) := by decide +kernel
theorem dX12_skipped_6 : decode cX12_skipped 6 = .ok (.ifCond .ne 9, 3) := by decide +kernel
theorem dX12_skipped_9 : decode cX12_skipped 9 = .ok (.ldc2_w 419, 3) := by decide +kernel
theorem dX12_skipped_12 : decode cX12_skipped 12 = .ok (.goto 22, 3) := by decide +kernel
theorem dX12_skipped_15 : decode cX12_skipped 15 = .ok (.aload_n 0, 1) := by decide +kernel
theorem dX12_skipped_16 : decode cX12_skipped 16 = .ok (.getfield 77, 3) := by decide +kernel
theorem dX12_skipped_19 : decode cX12_skipped 19 = .ok (.iload_n 1, 1) := by decide +kernel
theorem dX12_skipped_20 : decode cX12_skipped 20 = .ok (.iaload, 1) := by decide +kernel
theorem dX12_skipped_21 : decode cX12_skipped 21 = .ok (.iconst 1, 1) := by decide +kernel
theorem dX12_skipped_22 : decode cX12_skipped 22 = .ok (.if_icmp .ne 9, 3) := by decide +kernel
theorem dX12_skipped_25 : decode cX12_skipped 25 = .ok (.ldc2_w 421, 3) := by decide +kernel
theorem dX12_skipped_28 : decode cX12_skipped 28 = .ok (.goto 6, 3) := by decide +kernel
theorem dX12_skipped_31 : decode cX12_skipped 31 = .ok (.ldc2_w 423, 3) := by decide +kernel
theorem dX12_skipped_34 : decode cX12_skipped 34 = .ok (.lreturn, 1) := by decide +kernel
theorem dX12_fitsUpTo_0 : decode cX12_fitsUpTo 0 = .ok (.aload_n 0, 1) := by decide +kernel
theorem dX12_fitsUpTo_1 : decode cX12_fitsUpTo 1 = .ok (.invokevirtual 362, 3) := by decide +kernel
theorem dX12_fitsUpTo_4 : decode cX12_fitsUpTo 4 = .ok (.iconst 0, 1) := by decide +kernel
theorem dX12_fitsUpTo_5 : decode cX12_fitsUpTo 5 = .ok (.istore_n 2, 1) := by decide +kernel
theorem dX12_fitsUpTo_6 : decode cX12_fitsUpTo 6 = .ok (.iload_n 2, 1) := by decide +kernel
theorem dX12_fitsUpTo_7 : decode cX12_fitsUpTo 7 = .ok (.aload_n 0, 1) := by decide +kernel
theorem dX12_fitsUpTo_8 : decode cX12_fitsUpTo 8 = .ok (.getfield 80, 3) := by decide +kernel
theorem dX12_fitsUpTo_11 : decode cX12_fitsUpTo 11 = .ok (.iload_n 1, 1) := by decide +kernel
theorem dX12_fitsUpTo_12 : decode cX12_fitsUpTo 12 = .ok (.iaload, 1) := by decide +kernel
theorem dX12_fitsUpTo_13 : decode cX12_fitsUpTo 13 = .ok (.if_icmp .ge 54, 3) := by decide +kernel
theorem dX12_fitsUpTo_16 : decode cX12_fitsUpTo 16 = .ok (.aload_n 0, 1) := by decide +kernel
theorem dX12_fitsUpTo_17 : decode cX12_fitsUpTo 17 = .ok (.getfield 83, 3) := by decide +kernel
theorem dX12_fitsUpTo_20 : decode cX12_fitsUpTo 20 = .ok (.bipush 100, 2) := by decide +kernel
theorem dX12_fitsUpTo_22 : decode cX12_fitsUpTo 22 = .ok (.iload_n 1, 1) := by decide +kernel
theorem dX12_fitsUpTo_23 : decode cX12_fitsUpTo 23 = .ok (.imul, 1) := by decide +kernel
theorem dX12_fitsUpTo_24 : decode cX12_fitsUpTo 24 = .ok (.iload_n 2, 1) := by decide +kernel
theorem dX12_fitsUpTo_25 : decode cX12_fitsUpTo 25 = .ok (.iadd, 1) := by decide +kernel
theorem dX12_fitsUpTo_26 : decode cX12_fitsUpTo 26 = .ok (.laload, 1) := by decide +kernel
theorem dX12_fitsUpTo_27 : decode cX12_fitsUpTo 27 = .ok (.aload_n 0, 1) := by decide +kernel
theorem dX12_fitsUpTo_28 : decode cX12_fitsUpTo 28 = .ok (.iload_n 1, 1) := by decide +kernel
theorem dX12_fitsUpTo_29 : decode cX12_fitsUpTo 29 = .ok (.invokevirtual 425, 3) := by decide +kernel
theorem dX12_fitsUpTo_32 : decode cX12_fitsUpTo 32 = .ok (.lcmp, 1) := by decide +kernel
theorem dX12_fitsUpTo_33 : decode cX12_fitsUpTo 33 = .ok (.ifCond .eq 28, 3) := by decide +kernel
theorem dX12_fitsUpTo_36 : decode cX12_fitsUpTo 36 = .ok (.aload_n 0, 1) := by decide +kernel
theorem dX12_fitsUpTo_37 : decode cX12_fitsUpTo 37 = .ok (.getfield 83, 3) := by decide +kernel
theorem dX12_fitsUpTo_40 : decode cX12_fitsUpTo 40 = .ok (.bipush 100, 2) := by decide +kernel
theorem dX12_fitsUpTo_42 : decode cX12_fitsUpTo 42 = .ok (.iload_n 1, 1) := by decide +kernel
theorem dX12_fitsUpTo_43 : decode cX12_fitsUpTo 43 = .ok (.imul, 1) := by decide +kernel
theorem dX12_fitsUpTo_44 : decode cX12_fitsUpTo 44 = .ok (.iload_n 2, 1) := by decide +kernel
theorem dX12_fitsUpTo_45 : decode cX12_fitsUpTo 45 = .ok (.iadd, 1) := by decide +kernel
theorem dX12_fitsUpTo_46 : decode cX12_fitsUpTo 46 = .ok (.laload, 1) := by decide +kernel
theorem dX12_fitsUpTo_47 : decode cX12_fitsUpTo 47 = .ok (.aload_n 0, 1) := by decide +kernel
theorem dX12_fitsUpTo_48 : decode cX12_fitsUpTo 48 = .ok (.getfield 94, 3) := by decide +kernel
theorem dX12_fitsUpTo_51 : decode cX12_fitsUpTo 51 = .ok (.iload_n 2, 1) := by decide +kernel
theorem dX12_fitsUpTo_52 : decode cX12_fitsUpTo 52 = .ok (.iaload, 1) := by decide +kernel
theorem dX12_fitsUpTo_53 : decode cX12_fitsUpTo 53 = .ok (.invokestatic 365, 3) := by decide +kernel
theorem dX12_fitsUpTo_56 : decode cX12_fitsUpTo 56 = .ok (.i2l, 1) := by decide +kernel
theorem dX12_fitsUpTo_57 : decode cX12_fitsUpTo 57 = .ok (.lcmp, 1) := by decide +kernel
theorem dX12_fitsUpTo_58 : decode cX12_fitsUpTo 58 = .ok (.ifCond .ne 9, 3) := by decide +kernel
theorem dX12_fitsUpTo_61 : decode cX12_fitsUpTo 61 = .ok (.iinc 2 1, 3) := by decide +kernel
theorem dX12_fitsUpTo_64 : decode cX12_fitsUpTo 64 = .ok (.goto (-58), 3) := by decide +kernel
theorem dX12_fitsUpTo_67 : decode cX12_fitsUpTo 67 = .ok (.iload_n 2, 1) := by decide +kernel
theorem dX12_fitsUpTo_68 : decode cX12_fitsUpTo 68 = .ok (.ireturn, 1) := by decide +kernel
theorem dX12_wrongChoices_0 : decode cX12_wrongChoices 0 = .ok (.aload_n 0, 1) := by decide +kernel
theorem dX12_wrongChoices_1 : decode cX12_wrongChoices 1 = .ok (.iload_n 1, 1) := by decide +kernel
theorem dX12_wrongChoices_2 : decode cX12_wrongChoices 2 = .ok (.invokevirtual 322, 3) := by decide +kernel
theorem dX12_wrongChoices_5 : decode cX12_wrongChoices 5 = .ok (.istore_n 2, 1) := by decide +kernel
theorem dX12_wrongChoices_6 : decode cX12_wrongChoices 6 = .ok (.iload_n 2, 1) := by decide +kernel
theorem dX12_wrongChoices_7 : decode cX12_wrongChoices 7 = .ok (.ifCond .ne 21, 3) := by decide +kernel
theorem dX12_wrongChoices_10 : decode cX12_wrongChoices 10 = .ok (.aload_n 0, 1) := by decide +kernel
theorem dX12_wrongChoices_11 : decode cX12_wrongChoices 11 = .ok (.getfield 80, 3) := by decide +kernel
theorem dX12_wrongChoices_14 : decode cX12_wrongChoices 14 = .ok (.iload_n 1, 1) := by decide +kernel
theorem dX12_wrongChoices_15 : decode cX12_wrongChoices 15 = .ok (.iaload, 1) := by decide +kernel
theorem dX12_wrongChoices_16 : decode cX12_wrongChoices 16 = .ok (.aload_n 0, 1) := by decide +kernel
theorem dX12_wrongChoices_17 : decode cX12_wrongChoices 17 = .ok (.getfield 171, 3) := by decide +kernel
theorem dX12_wrongChoices_20 : decode cX12_wrongChoices 20 = .ok (.if_icmp .le 8, 3) := by decide +kernel
theorem dX12_wrongChoices_23 : decode cX12_wrongChoices 23 = .ok (.bipush (-13), 2) := by decide +kernel
theorem dX12_wrongChoices_25 : decode cX12_wrongChoices 25 = .ok (.goto 4, 3) := by decide +kernel
theorem dX12_wrongChoices_28 : decode cX12_wrongChoices 28 = .ok (.iload_n 2, 1) := by decide +kernel
theorem dX12_wrongChoices_29 : decode cX12_wrongChoices 29 = .ok (.ireturn, 1) := by decide +kernel
def b_X12_two_221 (v5 : Int32) (v6 : Int32) (S : St) : Option ((Int32 × St) ⊕ (Int32 × St)) := (if (v6 : Int32) = 0 then some (.inl ((v5 + 1), S)) else some (.inr ((10 * (v5 / 3)) + (v5 - v5 / 3 * 3), S)))
def b_X12_two_213 (v5 : Int32) (v7 : Int32) (s0 : Int32) (S : St) : Option ((Int32 × Int32 × Int32 × St) ⊕ ((Int32 × St) ⊕ (Int32 × St))) := some (.inl (v5, s0, (v7 + 1), S))
def b_X12_two_212 (v5 : Int32) (v7 : Int32) (S : St) : Option ((Int32 × Int32 × Int32 × St) ⊕ ((Int32 × St) ⊕ (Int32 × St))) := (b_X12_two_213 v5 v7 0 S)
def b_X12_two_149 (v5 : Int32) (v6 : Int32) (v7 : Int32) (S : St) : Option ((Int32 × Int32 × Int32 × St) ⊕ ((Int32 × St) ⊕ (Int32 × St))) := (if (3 : Int32) ≤ v7 then ((b_X12_two_221 v5 v6 S).map Sum.inr) else (if (v6 : Int32) = 0 then (b_X12_two_212 v5 v7 S) else gd (inb ((3 * v7) + (v5 - v5 / 3 * 3)) 9) (gd (inb v5 9) ((if (gi S 178 v5.toNatClampNeg : Int32) < (gi S 178 ((3 * v7) + (v5 - v5 / 3 * 3)).toNatClampNeg) then (b_X12_two_212 v5 v7 S) else gd (inb (((v5 / 3) * 3) + v7) 9) (gd (inb v5 9) ((if (gi S 179 v5.toNatClampNeg : Int32) < (gi S 179 (((v5 / 3) * 3) + v7).toNatClampNeg) then (b_X12_two_212 v5 v7 S) else (b_X12_two_213 v5 v7 1 S)))))))))
def l_X12_two_149 (x : (Int32 × Int32 × Int32 × St)) : Option ((Int32 × Int32 × Int32 × St) ⊕ ((Int32 × St) ⊕ (Int32 × St))) := b_X12_two_149 x.1 x.2.1 x.2.2.1 x.2.2.2
def b_X12_two_136 (v5 : Int32) (S : St) : Option ((Int32 × St) ⊕ (Int32 × St)) := (if (9 : Int32) ≤ v5 then some (.inr ((-4), S)) else (lp 1000 (l_X12_two_149) (v5, 1, 0, S)))
def l_X12_two_136 (x : (Int32 × St)) : Option ((Int32 × St) ⊕ (Int32 × St)) := b_X12_two_136 x.1 x.2
def b_X12_two_118 (v1 : Int32) (v2 : Int32) (v3 : Int32) (v4 : Int32) (S : St) : Option (Int32 × St) := gd (inb v1 8) (nm (si S 150 v1.toNatClampNeg v3) fun S2 => gd (inb v2 8) (nm (si S2 150 v2.toNatClampNeg v4) fun S4 => (lp 1000 (l_X12_two_136) (0, S4))))
def b_X12_two_46 (v1 : Int32) (v2 : Int32) (v3 : Int32) (v4 : Int32) (v5 : Int32) (S : St) : Option ((Int32 × Int32 × Int32 × Int32 × Int32 × St) ⊕ (Int32 × St)) := (if (9 : Int32) ≤ v5 then ((b_X12_two_118 v1 v2 v3 v4 S).map Sum.inr) else (L_X12_later v3 (v5 / 3) S).bind fun r3 => gd (inb v1 8) (nm (si S 150 v1.toNatClampNeg r3) fun S5 => (L_X12_later v4 (v5 - v5 / 3 * 3) S5).bind fun r7 => gd (inb v2 8) (nm (si S5 150 v2.toNatClampNeg r7) fun S9 => (L_X12_day S9).bind fun r10 => gd (inb v1 8) (gd (inb v5 9) (nm (si r10 178 v5.toNatClampNeg (gi r10 164 v1.toNatClampNeg)) fun S13 => gd (inb v2 8) (gd (inb v5 9) (nm (si S13 179 v5.toNatClampNeg (gi S13 164 v2.toNatClampNeg)) fun S16 => some (.inl (v1, v2, v3, v4, (v5 + 1), S16)))))))))
def l_X12_two_46 (x : (Int32 × Int32 × Int32 × Int32 × Int32 × St)) : Option ((Int32 × Int32 × Int32 × Int32 × Int32 × St) ⊕ (Int32 × St)) := b_X12_two_46 x.1 x.2.1 x.2.2.1 x.2.2.2.1 x.2.2.2.2.1 x.2.2.2.2.2
def b_X12_two_0 (v1 : Int32) (v2 : Int32) (S : St) : Option (Int32 × St) := nm (si S 136 28 0) fun S1 => (L_X12_isOne v1 S1).bind fun r2 => (if (r2 : Int32) = 0 then some ((-1), S1) else (L_X12_isOne v2 S1).bind fun r4 => (if (r4 : Int32) = 0 then some ((-1), S1) else (if (v1 : Int32) = v2 then some ((-1), S1) else gd (inb v1 8) (gd (inb v2 8) ((lp 1000 (l_X12_two_46) (v1, v2, (gi S1 150 v1.toNatClampNeg), (gi S1 150 v2.toNatClampNeg), 0, S1)))))))
def L_X12_two (a1 : Int32) (a2 : Int32) (S : St) : Option (Int32 × St) := b_X12_two_0 a1 a2 S
def b_X12_without_0 (S : St) : Option (Int32 × St) := nm (si S 136 28 0) fun S1 => (L_X12_takeChoices S1).bind fun r2 => nm (si r2 136 30 1) fun S3 => (L_X12_otherMany 255 S3).bind fun r4 => nm (si r4.2 136 30 0) fun S5 => some (r4.1, S5)
def L_X12_without (S : St) : Option (Int32 × St) := b_X12_without_0 S
def b_X12_keepMoods_2 (v1 : Int32) (v2 : Int32) (S : St) : Option ((Int32 × Int32 × St) ⊕ St) := (if (8 : Int32) ≤ v2 then some (.inr S) else gd (inb v2 8) (gd (inb ((8 * v1) + v2) 328) (nm (si S 180 ((8 * v1) + v2).toNatClampNeg (gi S 151 v2.toNatClampNeg)) fun S4 => some (.inl (v1, (v2 + 1), S4)))))
def l_X12_keepMoods_2 (x : (Int32 × Int32 × St)) : Option ((Int32 × Int32 × St) ⊕ St) := b_X12_keepMoods_2 x.1 x.2.1 x.2.2
def b_X12_keepMoods_0 (v1 : Int32) (S : St) : Option St := (lp 1000 (l_X12_keepMoods_2) (v1, 0, S))
def L_X12_keepMoods (a1 : Int32) (S : St) : Option St := b_X12_keepMoods_0 a1 S
def b_X12_likeAhead_64 (v1 : Int32) (v2 : Int32) (v3 : Int32) (S : St) : Option ((Int32 × Int32) ⊕ Int32) := (if (v3 : Int32) = 0 then some (.inl (v1, (v2 + 1))) else some (.inr v2))
def b_X12_likeAhead_57 (v1 : Int32) (v2 : Int32) (v4 : Int32) (s0 : Int32) (S : St) : Option ((Int32 × Int32 × Int32 × Int32) ⊕ ((Int32 × Int32) ⊕ Int32)) := some (.inl (v1, v2, s0, (v4 + 1)))
def b_X12_likeAhead_56 (v1 : Int32) (v2 : Int32) (v4 : Int32) (S : St) : Option ((Int32 × Int32 × Int32 × Int32) ⊕ ((Int32 × Int32) ⊕ Int32)) := (b_X12_likeAhead_57 v1 v2 v4 0 S)
def b_X12_likeAhead_12 (v1 : Int32) (v2 : Int32) (v3 : Int32) (v4 : Int32) (S : St) : Option ((Int32 × Int32 × Int32 × Int32) ⊕ ((Int32 × Int32) ⊕ Int32)) := (if (gi S 136 15 : Int32) ≤ v4 then ((b_X12_likeAhead_64 v1 v2 v3 S).map Sum.inr) else (if (v3 : Int32) = 0 then (b_X12_likeAhead_56 v1 v2 v4 S) else gd (inb ((8 * v2) + v4) 328) (gd (inb ((8 * v1) + v4) 328) ((if (gi S 180 ((8 * v2) + v4).toNatClampNeg : Int32) = (gi S 180 ((8 * v1) + v4).toNatClampNeg) then (b_X12_likeAhead_57 v1 v2 v4 1 S) else (b_X12_likeAhead_56 v1 v2 v4 S))))))
def l_X12_likeAhead_12 (S : St) (x : (Int32 × Int32 × Int32 × Int32)) : Option ((Int32 × Int32 × Int32 × Int32) ⊕ ((Int32 × Int32) ⊕ Int32)) := b_X12_likeAhead_12 x.1 x.2.1 x.2.2.1 x.2.2.2 S
def b_X12_likeAhead_2 (v1 : Int32) (v2 : Int32) (S : St) : Option ((Int32 × Int32) ⊕ Int32) := (if (v1 : Int32) ≤ v2 then some (.inr ((-4))) else (lp 1000 (l_X12_likeAhead_12 S) (v1, v2, 1, 0)))
def l_X12_likeAhead_2 (S : St) (x : (Int32 × Int32)) : Option ((Int32 × Int32) ⊕ Int32) := b_X12_likeAhead_2 x.1 x.2 S
def b_X12_likeAhead_0 (v1 : Int32) (S : St) : Option Int32 := (lp 1000 (l_X12_likeAhead_2 S) (v1, 0))
def L_X12_likeAhead (a1 : Int32) (S : St) : Option Int32 := b_X12_likeAhead_0 a1 S
def b_X12_again_163 (v1 : Int32) (v2 : Int32) (v3 : Int32) (S : St) : Option (Int32 × St) := (L_X12_close S).bind fun r1 => (if (v1 : Int32) = 0 then some (v2, r1) else some (v3, r1))
def b_X12_again_156 (v1 : Int32) (v3 : Int32) (v4 : Int32) (s0 : Int32) (S : St) : Option ((Int32 × Int32 × Int32 × Int32 × St) ⊕ (Int32 × St)) := some (.inl (v1, s0, v3, (v4 + 1), S))
def b_X12_again_132 (v1 : Int32) (v4 : Int32) (S : St) : Option ((Int32 × Int32 × Int32 × Int32 × St) ⊕ (Int32 × St)) := (L_X12_keepMoods v4 S).bind fun r1 => (L_X12_likeAhead v4 r1).bind fun r2 => (if (r2 : Int32) < 0 then (b_X12_again_156 v1 r2 v4 ((-4)) r1) else (b_X12_again_156 v1 r2 v4 v4 r1))
def b_X12_again_125 (v1 : Int32) (v4 : Int32) (v5 : Int32) (s0 : Int32) (s1 : Int32) (S : St) : Option ((Int32 × Int32 × Int32 × St) ⊕ ((Int32 × Int32 × Int32 × Int32 × St) ⊕ (Int32 × St))) := gd (inb s1 8) (nm (si S 151 s1.toNatClampNeg s0) fun S2 => some (.inl (v1, v4, (v5 + 1), S2)))
def b_X12_again_90 (v1 : Int32) (v4 : Int32) (v5 : Int32) (s0 : Int32) (s1 : Int32) (S : St) : Option ((Int32 × Int32 × Int32 × St) ⊕ ((Int32 × Int32 × Int32 × Int32 × St) ⊕ (Int32 × St))) := (if ((-9) : Int32) ≤ (s1 + s0) then (if (s1 + s0 : Int32) ≤ 9 then (b_X12_again_125 v1 v4 v5 (s1 + s0) v5 S) else (b_X12_again_125 v1 v4 v5 9 v5 S)) else (b_X12_again_125 v1 v4 v5 ((-9)) v5 S))
def b_X12_again_53 (v1 : Int32) (v4 : Int32) (v5 : Int32) (S : St) : Option ((Int32 × Int32 × Int32 × St) ⊕ ((Int32 × Int32 × Int32 × Int32 × St) ⊕ (Int32 × St))) := (if (gi S 136 15 : Int32) ≤ v5 then ((b_X12_again_132 v1 v4 S).map Sum.inr) else gd (inb v5 8) (gd (inb v5 8) ((if (gi S 165 v5.toNatClampNeg : Int32) = 0 then (b_X12_again_90 v1 v4 v5 0 (gi S 151 v5.toNatClampNeg) S) else gd (inb v5 11) ((b_X12_again_90 v1 v4 v5 (gi S 168 v5.toNatClampNeg) (gi S 151 v5.toNatClampNeg) S))))))
def l_X12_again_53 (x : (Int32 × Int32 × Int32 × St)) : Option ((Int32 × Int32 × Int32 × St) ⊕ ((Int32 × Int32 × Int32 × Int32 × St) ⊕ (Int32 × St))) := b_X12_again_53 x.1 x.2.1 x.2.2.1 x.2.2.2
def b_X12_again_35 (v1 : Int32) (v2 : Int32) (v3 : Int32) (v4 : Int32) (S : St) : Option ((Int32 × Int32 × Int32 × Int32 × St) ⊕ (Int32 × St)) := (if (40 : Int32) < v4 then ((b_X12_again_163 v1 v2 v3 S).map Sum.inr) else (if (0 : Int32) ≤ v2 then ((b_X12_again_163 v1 v2 v3 S).map Sum.inr) else (L_X12_day S).bind fun r3 => (lp 1000 (l_X12_again_53) (v1, v4, 0, r3))))
def l_X12_again_35 (x : (Int32 × Int32 × Int32 × Int32 × St)) : Option ((Int32 × Int32 × Int32 × Int32 × St) ⊕ (Int32 × St)) := b_X12_again_35 x.1 x.2.1 x.2.2.1 x.2.2.2.1 x.2.2.2.2
def b_X12_again_0 (v1 : Int32) (S : St) : Option (Int32 × St) := nm (si S 136 28 0) fun S1 => (L_X12_in v1.toInt64 0 1 S1).bind fun r2 => (if (r2 : Int32) = 0 then some ((-1), S1) else (L_X12_open S1).bind fun r4 => (L_X12_keepMoods 0 r4).bind fun r5 => (lp 1000 (l_X12_again_35) (v1, ((-4)), ((-4)), 1, r5)))
def L_X12_again (a1 : Int32) (S : St) : Option (Int32 × St) := b_X12_again_0 a1 S
def b_X12_skipped_0 (v1 : Int32) (S : St) : Option Int64 := gd (inb v1 8) ((if (gi S 156 v1.toNatClampNeg : Int32) = 0 then some ((-128)) else gd (inb v1 8) ((if (gi S 156 v1.toNatClampNeg : Int32) = 1 then some ((-32768)) else some ((-2147483648))))))
def L_X12_skipped (a1 : Int32) (S : St) : Option Int64 := b_X12_skipped_0 a1 S
def b_X12_fitsUpTo_61 (v1 : Int32) (v2 : Int32) (S : St) : Option ((Int32 × Int32 × St) ⊕ (Int32 × St)) := some (.inl (v1, (v2 + 1), S))
def b_X12_fitsUpTo_6 (v1 : Int32) (v2 : Int32) (S : St) : Option ((Int32 × Int32 × St) ⊕ (Int32 × St)) := gd (inb v1 8) ((if (gi S 157 v1.toNatClampNeg : Int32) ≤ v2 then some (.inr (v2, S)) else gd (inb ((100 * v1) + v2) 800) ((L_X12_skipped v1 S).bind fun r4 => (if (lg_cmp (gl S 158 ((100 * v1) + v2).toNatClampNeg) r4 : Int32) = 0 then (b_X12_fitsUpTo_61 v1 v2 S) else gd (inb ((100 * v1) + v2) 800) (gd (inb v2 8) ((L_X12_told (gi S 160 v2.toNatClampNeg) S).bind fun r8 => (if (lg_cmp (gl S 158 ((100 * v1) + v2).toNatClampNeg) r8.toInt64 : Int32) = 0 then (b_X12_fitsUpTo_61 v1 v2 S) else some (.inr (v2, S)))))))))
def l_X12_fitsUpTo_6 (x : (Int32 × Int32 × St)) : Option ((Int32 × Int32 × St) ⊕ (Int32 × St)) := b_X12_fitsUpTo_6 x.1 x.2.1 x.2.2
def b_X12_fitsUpTo_0 (v1 : Int32) (S : St) : Option (Int32 × St) := (L_X12_day S).bind fun r1 => (lp 1000 (l_X12_fitsUpTo_6) (v1, 0, r1))
def L_X12_fitsUpTo (a1 : Int32) (S : St) : Option (Int32 × St) := b_X12_fitsUpTo_0 a1 S
def b_X12_wrongChoices_28 (v2 : Int32) (S : St) : Option Int32 := some v2
def b_X12_wrongChoices_0 (v1 : Int32) (S : St) : Option Int32 := (L_X12_wrongRow v1 S).bind fun r1 => (if (r1 : Int32) = 0 then gd (inb v1 8) ((if (gi S 157 v1.toNatClampNeg : Int32) ≤ (gi S 136 15) then (b_X12_wrongChoices_28 r1 S) else some ((-13)))) else (b_X12_wrongChoices_28 r1 S))
def L_X12_wrongChoices (a1 : Int32) (S : St) : Option Int32 := b_X12_wrongChoices_0 a1 S
section WALKS
variable {p : Program} {e : Env} {s : State} {m : MethodId} {args : Array Value} {below : List Frame} {meth : Method} {c : Code} {D : va_G} {ct : Nat → ClassId} {B : Nat} {Hb : Heap}
set_option maxRecDepth 100000 in
set_option maxHeartbeats 4000000 in
theorem w_X12_two_221 (l : Launch) {V : Int32 × St} (C0 : XC D ct p s m args meth c cX12_two 8 (some .int) RX12) (n0 : Nat) (ih0 : ∀ (v5 : Int32) (S : St) (H : Heap) (locs : List Loc) (ls : Array Slot), (lp n0 (l_X12_two_136) (v5, S)).bind some = some V → MP D ct B Hb S H → va_S (AB B) s.heap H locs → lv_has ls 8 [(0, .ref (B + 136)), (5, .int v5)] → W p l e { frames := 7, cells := 0, slots := 0, locals := 160 } s m args below meth c H locs 0 0 (MQ below (qIw D ct B Hb V) args s 0 0 (AB B)) (F0 m 136 ls [])) (v5 : Int32) (v6 : Int32) (S : St) {H : Heap} {locs : List Loc} {ls : Array Slot} (h : (b_X12_two_221 v5 v6 S).bind (lpF n0 (l_X12_two_136) some) = some V) (hP : MP D ct B Hb S H) (hS : va_S (AB B) s.heap H locs) (hl : lv_has ls 8 [(0, .ref (B + 136)), (5, .int v5), (6, .int v6)]) : W p l e { frames := 7, cells := 0, slots := 0, locals := 160 } s m args below meth c H locs 0 0 (MQ below (qIw D ct B Hb V) args s 0 0 (AB B)) (F0 m 221 ls []) := by
  obtain ⟨hx, hb, hr, hml, hown, hts, hK, hlocks, hN⟩ := id C0
  unfold b_X12_two_221 at h
  refine lv_iload hx hb dX12_two_221 (lv_at hl 2 rfl) ?_
  refine lv_if_eq (tgt := 239) hx hb dX12_two_223 (by decide) (fun z1 => ?_) (fun z1 => ?_)
  · have h := ob_t h z1
    refine lv_iinc (v := v5 + 1) (lv' := [(5, .int (v5 + 1)), (0, .ref (B + 136)), (6, .int v6)]) hx hb dX12_two_239 hl (k := 1) rfl rfl (by decide) rfl (fun ls hl => ?_)
    refine lv_goto (tgt := 136) hx hb dX12_two_242 (by decide) ?_
    exact ih0 (v5 + 1) S _ _ _ h hP hS (lv_sub hl [1, 0] rfl)
  · have h := ob_f h z1
    refine lv_bipush (v := 10) hx hb dX12_two_226 (by decide) ?_
    refine lv_iload hx hb dX12_two_228 (lv_at hl 1 rfl) ?_
    refine lv_iconst (v := 3) hx hb dX12_two_230 (by decide) ?_
    refine lv_idiv hx hb dX12_two_231 (by decide) ?_
    refine lv_imul hx hb dX12_two_232 ?_
    refine lv_iload hx hb dX12_two_233 (lv_at hl 1 rfl) ?_
    refine lv_iconst (v := 3) hx hb dX12_two_235 (by decide) ?_
    refine lv_irem hx hb dX12_two_236 (by decide) ?_
    refine lv_iadd hx hb dX12_two_237 ?_
    exact r_Iw C0 hP hS h dX12_two_238
set_option maxRecDepth 100000 in
set_option maxHeartbeats 4000000 in
theorem w_X12_two_213 (l : Launch) {V : Int32 × St} (C0 : XC D ct p s m args meth c cX12_two 8 (some .int) RX12) (n0 : Nat) (ih0 : ∀ (v5 : Int32) (S : St) (H : Heap) (locs : List Loc) (ls : Array Slot), (lp n0 (l_X12_two_136) (v5, S)).bind some = some V → MP D ct B Hb S H → va_S (AB B) s.heap H locs → lv_has ls 8 [(0, .ref (B + 136)), (5, .int v5)] → W p l e { frames := 7, cells := 0, slots := 0, locals := 160 } s m args below meth c H locs 0 0 (MQ below (qIw D ct B Hb V) args s 0 0 (AB B)) (F0 m 136 ls [])) (n1 : Nat) (ih1 : ∀ (v5 : Int32) (v6 : Int32) (v7 : Int32) (S : St) (H : Heap) (locs : List Loc) (ls : Array Slot), (lp n1 (l_X12_two_149) (v5, v6, v7, S)).bind (lpF n0 (l_X12_two_136) some) = some V → MP D ct B Hb S H → va_S (AB B) s.heap H locs → lv_has ls 8 [(0, .ref (B + 136)), (5, .int v5), (6, .int v6), (7, .int v7)] → W p l e { frames := 7, cells := 0, slots := 0, locals := 160 } s m args below meth c H locs 0 0 (MQ below (qIw D ct B Hb V) args s 0 0 (AB B)) (F0 m 149 ls [])) (v5 : Int32) (v7 : Int32) (s0 : Int32) (S : St) {H : Heap} {locs : List Loc} {ls : Array Slot} (h : (b_X12_two_213 v5 v7 s0 S).bind (lpF n1 (l_X12_two_149) (lpF n0 (l_X12_two_136) some)) = some V) (hP : MP D ct B Hb S H) (hS : va_S (AB B) s.heap H locs) (hl : lv_has ls 8 [(0, .ref (B + 136)), (5, .int v5), (7, .int v7)]) : W p l e { frames := 7, cells := 0, slots := 0, locals := 160 } s m args below meth c H locs 0 0 (MQ below (qIw D ct B Hb V) args s 0 0 (AB B)) (F0 m 213 ls [.int s0]) := by
  obtain ⟨hx, hb, hr, hml, hown, hts, hK, hlocks, hN⟩ := id C0
  unfold b_X12_two_213 at h
  refine lv_istore (lv' := [(6, .int s0), (0, .ref (B + 136)), (5, .int v5), (7, .int v7)]) hx hb dX12_two_213 hl (by decide) rfl (fun ls hl => ?_)
  refine lv_iinc (v := v7 + 1) (lv' := [(7, .int (v7 + 1)), (6, .int s0), (0, .ref (B + 136)), (5, .int v5)]) hx hb dX12_two_215 hl (k := 3) rfl rfl (by decide) rfl (fun ls hl => ?_)
  refine lv_goto (tgt := 149) hx hb dX12_two_218 (by decide) ?_
  exact ih1 v5 s0 (v7 + 1) S _ _ _ h hP hS (lv_sub hl [2, 3, 1, 0] rfl)
set_option maxRecDepth 100000 in
set_option maxHeartbeats 4000000 in
theorem w_X12_two_212 (l : Launch) {V : Int32 × St} (C0 : XC D ct p s m args meth c cX12_two 8 (some .int) RX12) (n0 : Nat) (ih0 : ∀ (v5 : Int32) (S : St) (H : Heap) (locs : List Loc) (ls : Array Slot), (lp n0 (l_X12_two_136) (v5, S)).bind some = some V → MP D ct B Hb S H → va_S (AB B) s.heap H locs → lv_has ls 8 [(0, .ref (B + 136)), (5, .int v5)] → W p l e { frames := 7, cells := 0, slots := 0, locals := 160 } s m args below meth c H locs 0 0 (MQ below (qIw D ct B Hb V) args s 0 0 (AB B)) (F0 m 136 ls [])) (n1 : Nat) (ih1 : ∀ (v5 : Int32) (v6 : Int32) (v7 : Int32) (S : St) (H : Heap) (locs : List Loc) (ls : Array Slot), (lp n1 (l_X12_two_149) (v5, v6, v7, S)).bind (lpF n0 (l_X12_two_136) some) = some V → MP D ct B Hb S H → va_S (AB B) s.heap H locs → lv_has ls 8 [(0, .ref (B + 136)), (5, .int v5), (6, .int v6), (7, .int v7)] → W p l e { frames := 7, cells := 0, slots := 0, locals := 160 } s m args below meth c H locs 0 0 (MQ below (qIw D ct B Hb V) args s 0 0 (AB B)) (F0 m 149 ls [])) (v5 : Int32) (v7 : Int32) (S : St) {H : Heap} {locs : List Loc} {ls : Array Slot} (h : (b_X12_two_212 v5 v7 S).bind (lpF n1 (l_X12_two_149) (lpF n0 (l_X12_two_136) some)) = some V) (hP : MP D ct B Hb S H) (hS : va_S (AB B) s.heap H locs) (hl : lv_has ls 8 [(0, .ref (B + 136)), (5, .int v5), (7, .int v7)]) : W p l e { frames := 7, cells := 0, slots := 0, locals := 160 } s m args below meth c H locs 0 0 (MQ below (qIw D ct B Hb V) args s 0 0 (AB B)) (F0 m 212 ls []) := by
  obtain ⟨hx, hb, hr, hml, hown, hts, hK, hlocks, hN⟩ := id C0
  unfold b_X12_two_212 at h
  refine lv_iconst (v := 0) hx hb dX12_two_212 (by decide) ?_
  exact w_X12_two_213 l C0 n0 ih0 n1 ih1 v5 v7 0 S h hP hS (lv_sub hl [0, 1, 2] rfl)
set_option maxRecDepth 100000 in
set_option maxHeartbeats 4000000 in
theorem w_X12_two_149 (l : Launch) {V : Int32 × St} (C0 : XC D ct p s m args meth c cX12_two 8 (some .int) RX12) (n0 : Nat) (ih0 : ∀ (v5 : Int32) (S : St) (H : Heap) (locs : List Loc) (ls : Array Slot), (lp n0 (l_X12_two_136) (v5, S)).bind some = some V → MP D ct B Hb S H → va_S (AB B) s.heap H locs → lv_has ls 8 [(0, .ref (B + 136)), (5, .int v5)] → W p l e { frames := 7, cells := 0, slots := 0, locals := 160 } s m args below meth c H locs 0 0 (MQ below (qIw D ct B Hb V) args s 0 0 (AB B)) (F0 m 136 ls [])) (n1 : Nat) (ih1 : ∀ (v5 : Int32) (v6 : Int32) (v7 : Int32) (S : St) (H : Heap) (locs : List Loc) (ls : Array Slot), (lp n1 (l_X12_two_149) (v5, v6, v7, S)).bind (lpF n0 (l_X12_two_136) some) = some V → MP D ct B Hb S H → va_S (AB B) s.heap H locs → lv_has ls 8 [(0, .ref (B + 136)), (5, .int v5), (6, .int v6), (7, .int v7)] → W p l e { frames := 7, cells := 0, slots := 0, locals := 160 } s m args below meth c H locs 0 0 (MQ below (qIw D ct B Hb V) args s 0 0 (AB B)) (F0 m 149 ls [])) (v5 : Int32) (v6 : Int32) (v7 : Int32) (S : St) {H : Heap} {locs : List Loc} {ls : Array Slot} (h : (b_X12_two_149 v5 v6 v7 S).bind (lpF n1 (l_X12_two_149) (lpF n0 (l_X12_two_136) some)) = some V) (hP : MP D ct B Hb S H) (hS : va_S (AB B) s.heap H locs) (hl : lv_has ls 8 [(0, .ref (B + 136)), (5, .int v5), (6, .int v6), (7, .int v7)]) : W p l e { frames := 7, cells := 0, slots := 0, locals := 160 } s m args below meth c H locs 0 0 (MQ below (qIw D ct B Hb V) args s 0 0 (AB B)) (F0 m 149 ls []) := by
  obtain ⟨hx, hb, hr, hml, hown, hts, hK, hlocks, hN⟩ := id C0
  unfold b_X12_two_149 at h
  refine lv_iload hx hb dX12_two_149 (lv_at hl 3 rfl) ?_
  refine lv_iconst (v := 3) hx hb dX12_two_151 (by decide) ?_
  refine lv_icmp_ge (tgt := 221) hx hb dX12_two_152 (by decide) (fun z1 => ?_) (fun z1 => ?_)
  · have h := ob_t h z1
    have h := ob_mp h
    exact w_X12_two_221 l C0 n0 ih0 v5 v6 S h hP hS (lv_sub hl [0, 1, 2] rfl)
  · have h := ob_f h z1
    refine lv_iload hx hb dX12_two_155 (lv_at hl 2 rfl) ?_
    refine lv_if_eq (tgt := 212) hx hb dX12_two_157 (by decide) (fun z2 => ?_) (fun z2 => ?_)
    · have h := ob_t h z2
      exact w_X12_two_212 l C0 n0 ih0 n1 ih1 v5 v7 S h hP hS (lv_sub hl [0, 1, 3] rfl)
    · have h := ob_f h z2
      refine lv_aload_n hx hb dX12_two_160 rfl (lv_at hl 0 rfl) ?_
      refine x_get C0 hP (lay_X12 B ct S) rfl inG12 58 (by decide) wd_1199 (fun _ h => h) rfl dX12_two_161 ?_
      refine lv_iconst (v := 3) hx hb dX12_two_164 (by decide) ?_
      refine lv_iload hx hb dX12_two_165 (lv_at hl 3 rfl) ?_
      refine lv_imul hx hb dX12_two_167 ?_
      refine lv_iload hx hb dX12_two_168 (lv_at hl 1 rfl) ?_
      refine lv_iconst (v := 3) hx hb dX12_two_170 (by decide) ?_
      refine lv_irem hx hb dX12_two_171 (by decide) ?_
      refine lv_iadd hx hb dX12_two_172 ?_
      obtain ⟨g4, h⟩ := ob_gd h
      refine x_iald C0 hP ((fun S => lay_178 B ct S) S) g4 dX12_two_173 ?_
      refine lv_aload_n hx hb dX12_two_174 rfl (lv_at hl 0 rfl) ?_
      refine x_get C0 hP (lay_X12 B ct S) rfl inG12 58 (by decide) wd_1199 (fun _ h => h) rfl dX12_two_175 ?_
      refine lv_iload hx hb dX12_two_178 (lv_at hl 1 rfl) ?_
      obtain ⟨g5, h⟩ := ob_gd h
      refine x_iald C0 hP ((fun S => lay_178 B ct S) S) g5 dX12_two_180 ?_
      refine lv_icmp_gt (tgt := 212) hx hb dX12_two_181 (by decide) (fun z6 => ?_) (fun z6 => ?_)
      · have h := ob_t h z6
        exact w_X12_two_212 l C0 n0 ih0 n1 ih1 v5 v7 S h hP hS (lv_sub hl [0, 1, 3] rfl)
      · have h := ob_f h z6
        refine lv_aload_n hx hb dX12_two_184 rfl (lv_at hl 0 rfl) ?_
        refine x_get C0 hP (lay_X12 B ct S) rfl inG12 59 (by decide) wd_1200 (fun _ h => h) rfl dX12_two_185 ?_
        refine lv_iload hx hb dX12_two_188 (lv_at hl 1 rfl) ?_
        refine lv_iconst (v := 3) hx hb dX12_two_190 (by decide) ?_
        refine lv_idiv hx hb dX12_two_191 (by decide) ?_
        refine lv_iconst (v := 3) hx hb dX12_two_192 (by decide) ?_
        refine lv_imul hx hb dX12_two_193 ?_
        refine lv_iload hx hb dX12_two_194 (lv_at hl 3 rfl) ?_
        refine lv_iadd hx hb dX12_two_196 ?_
        obtain ⟨g8, h⟩ := ob_gd h
        refine x_iald C0 hP ((fun S => lay_179 B ct S) S) g8 dX12_two_197 ?_
        refine lv_aload_n hx hb dX12_two_198 rfl (lv_at hl 0 rfl) ?_
        refine x_get C0 hP (lay_X12 B ct S) rfl inG12 59 (by decide) wd_1200 (fun _ h => h) rfl dX12_two_199 ?_
        refine lv_iload hx hb dX12_two_202 (lv_at hl 1 rfl) ?_
        obtain ⟨g9, h⟩ := ob_gd h
        refine x_iald C0 hP ((fun S => lay_179 B ct S) S) g9 dX12_two_204 ?_
        refine lv_icmp_gt (tgt := 212) hx hb dX12_two_205 (by decide) (fun z10 => ?_) (fun z10 => ?_)
        · have h := ob_t h z10
          exact w_X12_two_212 l C0 n0 ih0 n1 ih1 v5 v7 S h hP hS (lv_sub hl [0, 1, 3] rfl)
        · have h := ob_f h z10
          refine lv_iconst (v := 1) hx hb dX12_two_208 (by decide) ?_
          refine lv_goto (tgt := 213) hx hb dX12_two_209 (by decide) ?_
          exact w_X12_two_213 l C0 n0 ih0 n1 ih1 v5 v7 1 S h hP hS (lv_sub hl [0, 1, 3] rfl)
set_option maxRecDepth 100000 in
set_option maxHeartbeats 4000000 in
theorem wl_X12_two_149 (l : Launch) {V : Int32 × St} (C0 : XC D ct p s m args meth c cX12_two 8 (some .int) RX12) (n0 : Nat) (ih0 : ∀ (v5 : Int32) (S : St) (H : Heap) (locs : List Loc) (ls : Array Slot), (lp n0 (l_X12_two_136) (v5, S)).bind some = some V → MP D ct B Hb S H → va_S (AB B) s.heap H locs → lv_has ls 8 [(0, .ref (B + 136)), (5, .int v5)] → W p l e { frames := 7, cells := 0, slots := 0, locals := 160 } s m args below meth c H locs 0 0 (MQ below (qIw D ct B Hb V) args s 0 0 (AB B)) (F0 m 136 ls []))  : ∀ (n1 : Nat) (v5 : Int32) (v6 : Int32) (v7 : Int32) (S : St) {H : Heap} {locs : List Loc} {ls : Array Slot}, (lp n1 (l_X12_two_149) (v5, v6, v7, S)).bind (lpF n0 (l_X12_two_136) some) = some V → MP D ct B Hb S H → va_S (AB B) s.heap H locs → lv_has ls 8 [(0, .ref (B + 136)), (5, .int v5), (6, .int v6), (7, .int v7)] → W p l e { frames := 7, cells := 0, slots := 0, locals := 160 } s m args below meth c H locs 0 0 (MQ below (qIw D ct B Hb V) args s 0 0 (AB B)) (F0 m 149 ls []) := by
  intro n1
  induction n1 with
  | zero =>
    intro v5 v6 v7 S H locs ls h hP hS hl
    exact (lp_0 h).elim
  | succ n1 ih1 =>
    intro v5 v6 v7 S H locs ls h hP hS hl
    have h := lp_s h
    exact w_X12_two_149 l C0 n0 ih0 n1 (fun v5 v6 v7 S H locs ls h hP hS hl => ih1 v5 v6 v7 S h hP hS hl) v5 v6 v7 S h hP hS hl
set_option maxRecDepth 100000 in
set_option maxHeartbeats 4000000 in
theorem w_X12_two_136 (l : Launch) {V : Int32 × St} (C0 : XC D ct p s m args meth c cX12_two 8 (some .int) RX12) (n0 : Nat) (ih0 : ∀ (v5 : Int32) (S : St) (H : Heap) (locs : List Loc) (ls : Array Slot), (lp n0 (l_X12_two_136) (v5, S)).bind some = some V → MP D ct B Hb S H → va_S (AB B) s.heap H locs → lv_has ls 8 [(0, .ref (B + 136)), (5, .int v5)] → W p l e { frames := 7, cells := 0, slots := 0, locals := 160 } s m args below meth c H locs 0 0 (MQ below (qIw D ct B Hb V) args s 0 0 (AB B)) (F0 m 136 ls [])) (v5 : Int32) (S : St) {H : Heap} {locs : List Loc} {ls : Array Slot} (h : (b_X12_two_136 v5 S).bind (lpF n0 (l_X12_two_136) some) = some V) (hP : MP D ct B Hb S H) (hS : va_S (AB B) s.heap H locs) (hl : lv_has ls 8 [(0, .ref (B + 136)), (5, .int v5)]) : W p l e { frames := 7, cells := 0, slots := 0, locals := 160 } s m args below meth c H locs 0 0 (MQ below (qIw D ct B Hb V) args s 0 0 (AB B)) (F0 m 136 ls []) := by
  obtain ⟨hx, hb, hr, hml, hown, hts, hK, hlocks, hN⟩ := id C0
  unfold b_X12_two_136 at h
  refine lv_iload hx hb dX12_two_136 (lv_at hl 1 rfl) ?_
  refine lv_bipush (v := 9) hx hb dX12_two_138 (by decide) ?_
  refine lv_icmp_ge (tgt := 245) hx hb dX12_two_140 (by decide) (fun z1 => ?_) (fun z1 => ?_)
  · have h := ob_t h z1
    refine lv_bipush (v := (-4)) hx hb dX12_two_245 (by decide) ?_
    exact r_Iw C0 hP hS h dX12_two_247
  · have h := ob_f h z1
    refine lv_iconst (v := 1) hx hb dX12_two_143 (by decide) ?_
    refine lv_istore (lv' := [(6, .int 1), (0, .ref (B + 136)), (5, .int v5)]) hx hb dX12_two_144 hl (by decide) rfl (fun ls hl => ?_)
    refine lv_iconst (v := 0) hx hb dX12_two_146 (by decide) ?_
    refine lv_istore (lv' := [(7, .int 0), (6, .int 1), (0, .ref (B + 136)), (5, .int v5)]) hx hb dX12_two_147 hl (by decide) rfl (fun ls hl => ?_)
    exact wl_X12_two_149 l C0 n0 ih0 1000 v5 1 0 S h hP hS (lv_sub hl [2, 3, 1, 0] rfl)
set_option maxRecDepth 100000 in
set_option maxHeartbeats 4000000 in
theorem wl_X12_two_136 (l : Launch) {V : Int32 × St} (C0 : XC D ct p s m args meth c cX12_two 8 (some .int) RX12)  : ∀ (n0 : Nat) (v5 : Int32) (S : St) {H : Heap} {locs : List Loc} {ls : Array Slot}, (lp n0 (l_X12_two_136) (v5, S)).bind some = some V → MP D ct B Hb S H → va_S (AB B) s.heap H locs → lv_has ls 8 [(0, .ref (B + 136)), (5, .int v5)] → W p l e { frames := 7, cells := 0, slots := 0, locals := 160 } s m args below meth c H locs 0 0 (MQ below (qIw D ct B Hb V) args s 0 0 (AB B)) (F0 m 136 ls []) := by
  intro n0
  induction n0 with
  | zero =>
    intro v5 S H locs ls h hP hS hl
    exact (lp_0 h).elim
  | succ n0 ih0 =>
    intro v5 S H locs ls h hP hS hl
    have h := lp_s h
    exact w_X12_two_136 l C0 n0 (fun v5 S H locs ls h hP hS hl => ih0 v5 S h hP hS hl) v5 S h hP hS hl
set_option maxRecDepth 100000 in
set_option maxHeartbeats 4000000 in
theorem w_X12_two_118 (l : Launch) {V : Int32 × St} (C0 : XC D ct p s m args meth c cX12_two 8 (some .int) RX12) (v1 : Int32) (v2 : Int32) (v3 : Int32) (v4 : Int32) (S : St) {H : Heap} {locs : List Loc} {ls : Array Slot} (h : (b_X12_two_118 v1 v2 v3 v4 S).bind some = some V) (hP : MP D ct B Hb S H) (hS : va_S (AB B) s.heap H locs) (hl : lv_has ls 8 [(0, .ref (B + 136)), (1, .int v1), (2, .int v2), (3, .int v3), (4, .int v4)]) : W p l e { frames := 7, cells := 0, slots := 0, locals := 160 } s m args below meth c H locs 0 0 (MQ below (qIw D ct B Hb V) args s 0 0 (AB B)) (F0 m 118 ls []) := by
  obtain ⟨hx, hb, hr, hml, hown, hts, hK, hlocks, hN⟩ := id C0
  unfold b_X12_two_118 at h
  refine lv_aload_n hx hb dX12_two_118 rfl (lv_at hl 0 rfl) ?_
  refine x_get C0 hP (lay_X12 B ct S) rfl inG12 19 (by decide) wd_1160 (fun _ h => h) rfl dX12_two_119 ?_
  refine lv_iload_n hx hb dX12_two_122 rfl (lv_at hl 1 rfl) ?_
  refine lv_iload_n hx hb dX12_two_123 rfl (lv_at hl 3 rfl) ?_
  obtain ⟨g1, h⟩ := ob_gd h
  obtain ⟨S2, eS2, h⟩ := ob_nm h
  refine x_iast C0 hP hS (fun S => lay_150 B ct S) g1 dX12_two_124 (fun H locs hP hS => ?_)
  rw [← eS2] at hP
  refine lv_aload_n hx hb dX12_two_125 rfl (lv_at hl 0 rfl) ?_
  refine x_get C0 hP (lay_X12 B ct S2) rfl inG12 19 (by decide) wd_1160 (fun _ h => h) rfl dX12_two_126 ?_
  refine lv_iload_n hx hb dX12_two_129 rfl (lv_at hl 2 rfl) ?_
  refine lv_iload hx hb dX12_two_130 (lv_at hl 4 rfl) ?_
  obtain ⟨g3, h⟩ := ob_gd h
  obtain ⟨S4, eS4, h⟩ := ob_nm h
  refine x_iast C0 hP hS (fun S => lay_150 B ct S) g3 dX12_two_132 (fun H locs hP hS => ?_)
  rw [← eS4] at hP
  refine lv_iconst (v := 0) hx hb dX12_two_133 (by decide) ?_
  refine lv_istore (lv' := [(5, .int 0), (0, .ref (B + 136)), (1, .int v1), (2, .int v2), (3, .int v3), (4, .int v4)]) hx hb dX12_two_134 hl (by decide) rfl (fun ls hl => ?_)
  exact wl_X12_two_136 l C0 1000 0 S4 h hP hS (lv_sub hl [1, 0] rfl)
set_option maxRecDepth 100000 in
set_option maxHeartbeats 4000000 in
theorem w_X12_two_46 (l : Launch) {V : Int32 × St} (C0 : XC D ct p s m args meth c cX12_two 8 (some .int) RX12) (n0 : Nat) (ih0 : ∀ (v1 : Int32) (v2 : Int32) (v3 : Int32) (v4 : Int32) (v5 : Int32) (S : St) (H : Heap) (locs : List Loc) (ls : Array Slot), (lp n0 (l_X12_two_46) (v1, v2, v3, v4, v5, S)).bind some = some V → MP D ct B Hb S H → va_S (AB B) s.heap H locs → lv_has ls 8 [(0, .ref (B + 136)), (1, .int v1), (2, .int v2), (3, .int v3), (4, .int v4), (5, .int v5)] → W p l e { frames := 7, cells := 0, slots := 0, locals := 160 } s m args below meth c H locs 0 0 (MQ below (qIw D ct B Hb V) args s 0 0 (AB B)) (F0 m 46 ls [])) (v1 : Int32) (v2 : Int32) (v3 : Int32) (v4 : Int32) (v5 : Int32) (S : St) {H : Heap} {locs : List Loc} {ls : Array Slot} (h : (b_X12_two_46 v1 v2 v3 v4 v5 S).bind (lpF n0 (l_X12_two_46) some) = some V) (hP : MP D ct B Hb S H) (hS : va_S (AB B) s.heap H locs) (hl : lv_has ls 8 [(0, .ref (B + 136)), (1, .int v1), (2, .int v2), (3, .int v3), (4, .int v4), (5, .int v5)]) : W p l e { frames := 7, cells := 0, slots := 0, locals := 160 } s m args below meth c H locs 0 0 (MQ below (qIw D ct B Hb V) args s 0 0 (AB B)) (F0 m 46 ls []) := by
  obtain ⟨hx, hb, hr, hml, hown, hts, hK, hlocks, hN⟩ := id C0
  unfold b_X12_two_46 at h
  refine lv_iload hx hb dX12_two_46 (lv_at hl 5 rfl) ?_
  refine lv_bipush (v := 9) hx hb dX12_two_48 (by decide) ?_
  refine lv_icmp_ge (tgt := 118) hx hb dX12_two_50 (by decide) (fun z1 => ?_) (fun z1 => ?_)
  · have h := ob_t h z1
    have h := ob_mp h
    exact w_X12_two_118 l C0 v1 v2 v3 v4 S h hP hS (lv_sub hl [0, 1, 2, 3, 4] rfl)
  · have h := ob_f h z1
    refine lv_aload_n hx hb dX12_two_53 rfl (lv_at hl 0 rfl) ?_
    refine x_get C0 hP (lay_X12 B ct S) rfl inG12 19 (by decide) wd_1160 (fun _ h => h) rfl dX12_two_54 ?_
    refine lv_iload_n hx hb dX12_two_57 rfl (lv_at hl 1 rfl) ?_
    refine lv_iload_n hx hb dX12_two_58 rfl (lv_at hl 3 rfl) ?_
    refine lv_iload hx hb dX12_two_59 (lv_at hl 5 rfl) ?_
    refine lv_iconst (v := 3) hx hb dX12_two_61 (by decide) ?_
    refine lv_idiv hx hb dX12_two_62 (by decide) ?_
    obtain ⟨r3, hr3, h⟩ := ob_bd h
    refine n_I (kS (As := [.int v3, .int (v5 / 3)]) C0 (c_X12_later l v3 (v5 / 3) hr3) ⟨wd_1703, wd_1701, wd_1702, wd_6⟩ kd_X12_later ⟨Nat.le_of_ble_eq_true rfl, Nat.le_of_ble_eq_true rfl⟩ hP rfl hl.1 rfl (Nat.le_of_ble_eq_true rfl) dX12_two_63 ⟨Nat.le_of_ble_eq_true rfl, Nat.le_of_ble_eq_true rfl⟩) hS (fun H locs hP hS => ?_)
    obtain ⟨g4, h⟩ := ob_gd h
    obtain ⟨S5, eS5, h⟩ := ob_nm h
    refine x_iast C0 hP hS (fun S => lay_150 B ct S) g4 dX12_two_66 (fun H locs hP hS => ?_)
    rw [← eS5] at hP
    refine lv_aload_n hx hb dX12_two_67 rfl (lv_at hl 0 rfl) ?_
    refine x_get C0 hP (lay_X12 B ct S5) rfl inG12 19 (by decide) wd_1160 (fun _ h => h) rfl dX12_two_68 ?_
    refine lv_iload_n hx hb dX12_two_71 rfl (lv_at hl 2 rfl) ?_
    refine lv_iload hx hb dX12_two_72 (lv_at hl 4 rfl) ?_
    refine lv_iload hx hb dX12_two_74 (lv_at hl 5 rfl) ?_
    refine lv_iconst (v := 3) hx hb dX12_two_76 (by decide) ?_
    refine lv_irem hx hb dX12_two_77 (by decide) ?_
    obtain ⟨r7, hr7, h⟩ := ob_bd h
    refine n_I (kS (As := [.int v4, .int (v5 - v5 / 3 * 3)]) C0 (c_X12_later l v4 (v5 - v5 / 3 * 3) hr7) ⟨wd_1703, wd_1701, wd_1702, wd_6⟩ kd_X12_later ⟨Nat.le_of_ble_eq_true rfl, Nat.le_of_ble_eq_true rfl⟩ hP rfl hl.1 rfl (Nat.le_of_ble_eq_true rfl) dX12_two_78 ⟨Nat.le_of_ble_eq_true rfl, Nat.le_of_ble_eq_true rfl⟩) hS (fun H locs hP hS => ?_)
    obtain ⟨g8, h⟩ := ob_gd h
    obtain ⟨S9, eS9, h⟩ := ob_nm h
    refine x_iast C0 hP hS (fun S => lay_150 B ct S) g8 dX12_two_81 (fun H locs hP hS => ?_)
    rw [← eS9] at hP
    refine lv_aload_n hx hb dX12_two_82 rfl (lv_at hl 0 rfl) ?_
    obtain ⟨r10, hr10, h⟩ := ob_bd h
    refine n_Vw (kV (As := []) C0 (c_X12_day l hr10) ⟨wd_1539, wd_1536, wd_1538, wp_43, wd_6⟩ kd_X12_day ⟨Nat.le_of_ble_eq_true rfl, Nat.le_of_ble_eq_true rfl⟩ hP (lay_X12 B ct S9) rfl rfl hl.1 rfl (Nat.le_of_ble_eq_true rfl) dX12_two_83 ⟨Nat.le_of_ble_eq_true rfl, Nat.le_of_ble_eq_true rfl⟩) hS (fun H locs hP hS => ?_)
    refine lv_aload_n hx hb dX12_two_86 rfl (lv_at hl 0 rfl) ?_
    refine x_get C0 hP (lay_X12 B ct r10) rfl inG12 58 (by decide) wd_1199 (fun _ h => h) rfl dX12_two_87 ?_
    refine lv_iload hx hb dX12_two_90 (lv_at hl 5 rfl) ?_
    refine lv_aload_n hx hb dX12_two_92 rfl (lv_at hl 0 rfl) ?_
    refine x_get C0 hP (lay_X12 B ct r10) rfl inG12 36 (by decide) wd_1177 (fun _ h => h) rfl dX12_two_93 ?_
    refine lv_iload_n hx hb dX12_two_96 rfl (lv_at hl 1 rfl) ?_
    obtain ⟨g11, h⟩ := ob_gd h
    refine x_iald C0 hP ((fun S => lay_164 B ct S) r10) g11 dX12_two_97 ?_
    obtain ⟨g12, h⟩ := ob_gd h
    obtain ⟨S13, eS13, h⟩ := ob_nm h
    refine x_iast C0 hP hS (fun S => lay_178 B ct S) g12 dX12_two_98 (fun H locs hP hS => ?_)
    rw [← eS13] at hP
    refine lv_aload_n hx hb dX12_two_99 rfl (lv_at hl 0 rfl) ?_
    refine x_get C0 hP (lay_X12 B ct S13) rfl inG12 59 (by decide) wd_1200 (fun _ h => h) rfl dX12_two_100 ?_
    refine lv_iload hx hb dX12_two_103 (lv_at hl 5 rfl) ?_
    refine lv_aload_n hx hb dX12_two_105 rfl (lv_at hl 0 rfl) ?_
    refine x_get C0 hP (lay_X12 B ct S13) rfl inG12 36 (by decide) wd_1177 (fun _ h => h) rfl dX12_two_106 ?_
    refine lv_iload_n hx hb dX12_two_109 rfl (lv_at hl 2 rfl) ?_
    obtain ⟨g14, h⟩ := ob_gd h
    refine x_iald C0 hP ((fun S => lay_164 B ct S) S13) g14 dX12_two_110 ?_
    obtain ⟨g15, h⟩ := ob_gd h
    obtain ⟨S16, eS16, h⟩ := ob_nm h
    refine x_iast C0 hP hS (fun S => lay_179 B ct S) g15 dX12_two_111 (fun H locs hP hS => ?_)
    rw [← eS16] at hP
    refine lv_iinc (v := v5 + 1) (lv' := [(5, .int (v5 + 1)), (0, .ref (B + 136)), (1, .int v1), (2, .int v2), (3, .int v3), (4, .int v4)]) hx hb dX12_two_112 hl (k := 5) rfl rfl (by decide) rfl (fun ls hl => ?_)
    refine lv_goto (tgt := 46) hx hb dX12_two_115 (by decide) ?_
    exact ih0 v1 v2 v3 v4 (v5 + 1) S16 _ _ _ h hP hS (lv_sub hl [1, 2, 3, 4, 5, 0] rfl)
set_option maxRecDepth 100000 in
set_option maxHeartbeats 4000000 in
theorem wl_X12_two_46 (l : Launch) {V : Int32 × St} (C0 : XC D ct p s m args meth c cX12_two 8 (some .int) RX12)  : ∀ (n0 : Nat) (v1 : Int32) (v2 : Int32) (v3 : Int32) (v4 : Int32) (v5 : Int32) (S : St) {H : Heap} {locs : List Loc} {ls : Array Slot}, (lp n0 (l_X12_two_46) (v1, v2, v3, v4, v5, S)).bind some = some V → MP D ct B Hb S H → va_S (AB B) s.heap H locs → lv_has ls 8 [(0, .ref (B + 136)), (1, .int v1), (2, .int v2), (3, .int v3), (4, .int v4), (5, .int v5)] → W p l e { frames := 7, cells := 0, slots := 0, locals := 160 } s m args below meth c H locs 0 0 (MQ below (qIw D ct B Hb V) args s 0 0 (AB B)) (F0 m 46 ls []) := by
  intro n0
  induction n0 with
  | zero =>
    intro v1 v2 v3 v4 v5 S H locs ls h hP hS hl
    exact (lp_0 h).elim
  | succ n0 ih0 =>
    intro v1 v2 v3 v4 v5 S H locs ls h hP hS hl
    have h := lp_s h
    exact w_X12_two_46 l C0 n0 (fun v1 v2 v3 v4 v5 S H locs ls h hP hS hl => ih0 v1 v2 v3 v4 v5 S h hP hS hl) v1 v2 v3 v4 v5 S h hP hS hl
set_option maxRecDepth 100000 in
set_option maxHeartbeats 4000000 in
theorem w_X12_two_0 (l : Launch) {V : Int32 × St} (C0 : XC D ct p s m args meth c cX12_two 8 (some .int) RX12) (v1 : Int32) (v2 : Int32) (S : St) {H : Heap} {locs : List Loc} {ls : Array Slot} (h : (b_X12_two_0 v1 v2 S).bind some = some V) (hP : MP D ct B Hb S H) (hS : va_S (AB B) s.heap H locs) (hl : lv_has ls 8 [(0, .ref (B + 136)), (1, .int v1), (2, .int v2)]) : W p l e { frames := 7, cells := 0, slots := 0, locals := 160 } s m args below meth c H locs 0 0 (MQ below (qIw D ct B Hb V) args s 0 0 (AB B)) (F0 m 0 ls []) := by
  obtain ⟨hx, hb, hr, hml, hown, hts, hK, hlocks, hN⟩ := id C0
  unfold b_X12_two_0 at h
  refine lv_aload_n hx hb dX12_two_0 rfl (lv_at hl 0 rfl) ?_
  refine lv_iconst (v := 0) hx hb dX12_two_1 (by decide) ?_
  obtain ⟨S1, eS1, h⟩ := ob_nm h
  refine x_put (S' := si S 136 28 0) (FS := (fs12 B)) C0 hP hS (fun S => lay_X12 B ct S) rfl inG12 tyX12 tyX12_ok nmX12 28 (by decide) wd_1169 rfl rfl (fun a ha => lay_local (gi_si_n _ _ _ ha) rfl rfl rfl) (put_12_28 B _ _) rfl rfl (Nat.le_of_ble_eq_true rfl) dX12_two_2 (fun H locs hP hS => ?_)
  rw [← eS1] at hP
  refine lv_aload_n hx hb dX12_two_5 rfl (lv_at hl 0 rfl) ?_
  refine lv_iload_n hx hb dX12_two_6 rfl (lv_at hl 1 rfl) ?_
  obtain ⟨r2, hr2, h⟩ := ob_bd h
  refine n_I (kV (As := [.int v1]) C0 (c_X12_isOne l v1 hr2) ⟨wd_1448, wd_1445, wd_1447, wp_37, wd_6⟩ kd_X12_isOne ⟨Nat.le_of_ble_eq_true rfl, Nat.le_of_ble_eq_true rfl⟩ hP (lay_X12 B ct S1) rfl rfl hl.1 rfl (Nat.le_of_ble_eq_true rfl) dX12_two_7 ⟨Nat.le_of_ble_eq_true rfl, Nat.le_of_ble_eq_true rfl⟩) hS (fun H locs hP hS => ?_)
  refine lv_if_eq (tgt := 26) hx hb dX12_two_10 (by decide) (fun z3 => ?_) (fun z3 => ?_)
  · have h := ob_t h z3
    refine lv_iconst (v := (-1)) hx hb dX12_two_26 (by decide) ?_
    exact r_Iw C0 hP hS h dX12_two_27
  · have h := ob_f h z3
    refine lv_aload_n hx hb dX12_two_13 rfl (lv_at hl 0 rfl) ?_
    refine lv_iload_n hx hb dX12_two_14 rfl (lv_at hl 2 rfl) ?_
    obtain ⟨r4, hr4, h⟩ := ob_bd h
    refine n_I (kV (As := [.int v2]) C0 (c_X12_isOne l v2 hr4) ⟨wd_1448, wd_1445, wd_1447, wp_37, wd_6⟩ kd_X12_isOne ⟨Nat.le_of_ble_eq_true rfl, Nat.le_of_ble_eq_true rfl⟩ hP (lay_X12 B ct S1) rfl rfl hl.1 rfl (Nat.le_of_ble_eq_true rfl) dX12_two_15 ⟨Nat.le_of_ble_eq_true rfl, Nat.le_of_ble_eq_true rfl⟩) hS (fun H locs hP hS => ?_)
    refine lv_if_eq (tgt := 26) hx hb dX12_two_18 (by decide) (fun z5 => ?_) (fun z5 => ?_)
    · have h := ob_t h z5
      refine lv_iconst (v := (-1)) hx hb dX12_two_26 (by decide) ?_
      exact r_Iw C0 hP hS h dX12_two_27
    · have h := ob_f h z5
      refine lv_iload_n hx hb dX12_two_21 rfl (lv_at hl 1 rfl) ?_
      refine lv_iload_n hx hb dX12_two_22 rfl (lv_at hl 2 rfl) ?_
      refine lv_icmp_ne (tgt := 28) hx hb dX12_two_23 (by decide) (fun z6 => ?_) (fun z6 => ?_)
      · have h := ob_f h z6
        refine lv_aload_n hx hb dX12_two_28 rfl (lv_at hl 0 rfl) ?_
        refine x_get C0 hP (lay_X12 B ct S1) rfl inG12 19 (by decide) wd_1160 (fun _ h => h) rfl dX12_two_29 ?_
        refine lv_iload_n hx hb dX12_two_32 rfl (lv_at hl 1 rfl) ?_
        obtain ⟨g7, h⟩ := ob_gd h
        refine x_iald C0 hP ((fun S => lay_150 B ct S) S1) g7 dX12_two_33 ?_
        refine lv_istore_n (lv' := [(3, .int (gi S1 150 v1.toNatClampNeg)), (0, .ref (B + 136)), (1, .int v1), (2, .int v2)]) hx hb dX12_two_34 rfl hl (by decide) rfl (fun ls hl => ?_)
        refine lv_aload_n hx hb dX12_two_35 rfl (lv_at hl 1 rfl) ?_
        refine x_get C0 hP (lay_X12 B ct S1) rfl inG12 19 (by decide) wd_1160 (fun _ h => h) rfl dX12_two_36 ?_
        refine lv_iload_n hx hb dX12_two_39 rfl (lv_at hl 3 rfl) ?_
        obtain ⟨g8, h⟩ := ob_gd h
        refine x_iald C0 hP ((fun S => lay_150 B ct S) S1) g8 dX12_two_40 ?_
        refine lv_istore (lv' := [(4, .int (gi S1 150 v2.toNatClampNeg)), (3, .int (gi S1 150 v1.toNatClampNeg)), (0, .ref (B + 136)), (1, .int v1), (2, .int v2)]) hx hb dX12_two_41 hl (by decide) rfl (fun ls hl => ?_)
        refine lv_iconst (v := 0) hx hb dX12_two_43 (by decide) ?_
        refine lv_istore (lv' := [(5, .int 0), (4, .int (gi S1 150 v2.toNatClampNeg)), (3, .int (gi S1 150 v1.toNatClampNeg)), (0, .ref (B + 136)), (1, .int v1), (2, .int v2)]) hx hb dX12_two_44 hl (by decide) rfl (fun ls hl => ?_)
        exact wl_X12_two_46 l C0 1000 v1 v2 (gi S1 150 v1.toNatClampNeg) (gi S1 150 v2.toNatClampNeg) 0 S1 h hP hS (lv_sub hl [3, 4, 5, 2, 1, 0] rfl)
      · have h := ob_t h z6
        refine lv_iconst (v := (-1)) hx hb dX12_two_26 (by decide) ?_
        exact r_Iw C0 hP hS h dX12_two_27
set_option maxRecDepth 100000 in
set_option maxHeartbeats 4000000 in
theorem c_X12_two (l : Launch) (a1 : Int32) (a2 : Int32) {D : va_G} {ct : Nat → ClassId} {B : Nat} {Hb : Heap} {S : St} {V : Int32 × St} (h : L_X12_two a1 a2 S = some V) : Met l yX12_two (Cond.code yX12_two cX12_two 8 (some .int) :: tG) { frames := 7, cells := 0, slots := 0, locals := 160 } (va_Pc [.ref (B + 136), .int a1, .int a2] (MPK D ct B Hb S)) (qIw D ct B Hb V) 0 0 (AB B) := by
  refine mk_met (by decide +kernel) (Nat.le_of_ble_eq_true rfl) (fun p e s m args below meth c ls C0 hP hl _ => ?_)
  have h := ob_of h
  exact w_X12_two_0 l C0 a1 a2 S h hP va_S.rf (lv_sub hl [0, 1, 2] rfl)
set_option maxRecDepth 100000 in
set_option maxHeartbeats 4000000 in
theorem w_X12_without_0 (l : Launch) {V : Int32 × St} (C0 : XC D ct p s m args meth c cX12_without 2 (some .int) RX12) (S : St) {H : Heap} {locs : List Loc} {ls : Array Slot} (h : (b_X12_without_0 S).bind some = some V) (hP : MP D ct B Hb S H) (hS : va_S (AB B) s.heap H locs) (hl : lv_has ls 2 [(0, .ref (B + 136))]) : W p l e { frames := 8, cells := 0, slots := 0, locals := 183 } s m args below meth c H locs 0 0 (MQ below (qIw D ct B Hb V) args s 0 0 (AB B)) (F0 m 0 ls []) := by
  obtain ⟨hx, hb, hr, hml, hown, hts, hK, hlocks, hN⟩ := id C0
  unfold b_X12_without_0 at h
  refine lv_aload_n hx hb dX12_without_0 rfl (lv_at hl 0 rfl) ?_
  refine lv_iconst (v := 0) hx hb dX12_without_1 (by decide) ?_
  obtain ⟨S1, eS1, h⟩ := ob_nm h
  refine x_put (S' := si S 136 28 0) (FS := (fs12 B)) C0 hP hS (fun S => lay_X12 B ct S) rfl inG12 tyX12 tyX12_ok nmX12 28 (by decide) wd_1169 rfl rfl (fun a ha => lay_local (gi_si_n _ _ _ ha) rfl rfl rfl) (put_12_28 B _ _) rfl rfl (Nat.le_of_ble_eq_true rfl) dX12_without_2 (fun H locs hP hS => ?_)
  rw [← eS1] at hP
  refine lv_aload_n hx hb dX12_without_5 rfl (lv_at hl 0 rfl) ?_
  obtain ⟨r2, hr2, h⟩ := ob_bd h
  refine n_Vw (kV (As := []) C0 (c_X12_takeChoices l hr2) ⟨wd_1676, wd_1673, wd_1675, wp_62, wd_6⟩ kd_X12_takeChoices ⟨Nat.le_of_ble_eq_true rfl, Nat.le_of_ble_eq_true rfl⟩ hP (lay_X12 B ct S1) rfl rfl hl.1 rfl (Nat.le_of_ble_eq_true rfl) dX12_without_6 ⟨Nat.le_of_ble_eq_true rfl, Nat.le_of_ble_eq_true rfl⟩) hS (fun H locs hP hS => ?_)
  refine lv_aload_n hx hb dX12_without_9 rfl (lv_at hl 0 rfl) ?_
  refine lv_iconst (v := 1) hx hb dX12_without_10 (by decide) ?_
  obtain ⟨S3, eS3, h⟩ := ob_nm h
  refine x_put (S' := si r2 136 30 1) (FS := (fs12 B)) C0 hP hS (fun S => lay_X12 B ct S) rfl inG12 tyX12 tyX12_ok nmX12 30 (by decide) wd_1171 rfl rfl (fun a ha => lay_local (gi_si_n _ _ _ ha) rfl rfl rfl) (put_12_30 B _ _) bool_1 rfl (Nat.le_of_ble_eq_true rfl) dX12_without_11 (fun H locs hP hS => ?_)
  rw [← eS3] at hP
  refine lv_aload_n hx hb dX12_without_14 rfl (lv_at hl 0 rfl) ?_
  refine lv_sipush (v := 255) hx hb dX12_without_15 (by decide) ?_
  obtain ⟨r4, hr4, h⟩ := ob_bd h
  refine n_Iw (kV (As := [.int 255]) C0 (c_X12_otherMany l 255 hr4) ⟨wd_1680, wd_1677, wd_1679, wp_63, wd_6⟩ kd_X12_otherMany ⟨Nat.le_of_ble_eq_true rfl, Nat.le_of_ble_eq_true rfl⟩ hP (lay_X12 B ct S3) rfl rfl hl.1 rfl (Nat.le_of_ble_eq_true rfl) dX12_without_18 ⟨Nat.le_of_ble_eq_true rfl, Nat.le_of_ble_eq_true rfl⟩) hS (fun H locs hP hS => ?_)
  refine lv_istore_n (lv' := [(1, .int r4.1), (0, .ref (B + 136))]) hx hb dX12_without_21 rfl hl (by decide) rfl (fun ls hl => ?_)
  refine lv_aload_n hx hb dX12_without_22 rfl (lv_at hl 1 rfl) ?_
  refine lv_iconst (v := 0) hx hb dX12_without_23 (by decide) ?_
  obtain ⟨S5, eS5, h⟩ := ob_nm h
  refine x_put (S' := si r4.2 136 30 0) (FS := (fs12 B)) C0 hP hS (fun S => lay_X12 B ct S) rfl inG12 tyX12 tyX12_ok nmX12 30 (by decide) wd_1171 rfl rfl (fun a ha => lay_local (gi_si_n _ _ _ ha) rfl rfl rfl) (put_12_30 B _ _) bool_0 rfl (Nat.le_of_ble_eq_true rfl) dX12_without_24 (fun H locs hP hS => ?_)
  rw [← eS5] at hP
  refine lv_iload_n hx hb dX12_without_27 rfl (lv_at hl 0 rfl) ?_
  exact r_Iw C0 hP hS h dX12_without_28
set_option maxRecDepth 100000 in
set_option maxHeartbeats 4000000 in
theorem c_X12_without (l : Launch) {D : va_G} {ct : Nat → ClassId} {B : Nat} {Hb : Heap} {S : St} {V : Int32 × St} (h : L_X12_without S = some V) : Met l yX12_without (Cond.code yX12_without cX12_without 2 (some .int) :: tG) { frames := 8, cells := 0, slots := 0, locals := 183 } (va_Pc [.ref (B + 136)] (MPK D ct B Hb S)) (qIw D ct B Hb V) 0 0 (AB B) := by
  refine mk_met (by decide +kernel) (Nat.le_of_ble_eq_true rfl) (fun p e s m args below meth c ls C0 hP hl _ => ?_)
  have h := ob_of h
  exact w_X12_without_0 l C0 S h hP va_S.rf (lv_sub hl [0] rfl)
set_option maxRecDepth 100000 in
set_option maxHeartbeats 4000000 in
theorem w_X12_keepMoods_2 (l : Launch) {V : St} (C0 : XC D ct p s m args meth c cX12_keepMoods 3 none RX12) (n0 : Nat) (ih0 : ∀ (v1 : Int32) (v2 : Int32) (S : St) (H : Heap) (locs : List Loc) (ls : Array Slot), (lp n0 (l_X12_keepMoods_2) (v1, v2, S)).bind some = some V → MP D ct B Hb S H → va_S (AB B) s.heap H locs → lv_has ls 3 [(0, .ref (B + 136)), (1, .int v1), (2, .int v2)] → W p l e { frames := 0, cells := 0, slots := 0, locals := 0 } s m args below meth c H locs 0 0 (MQ below (qVw D ct B Hb V) args s 0 0 (AB B)) (F0 m 2 ls [])) (v1 : Int32) (v2 : Int32) (S : St) {H : Heap} {locs : List Loc} {ls : Array Slot} (h : (b_X12_keepMoods_2 v1 v2 S).bind (lpF n0 (l_X12_keepMoods_2) some) = some V) (hP : MP D ct B Hb S H) (hS : va_S (AB B) s.heap H locs) (hl : lv_has ls 3 [(0, .ref (B + 136)), (1, .int v1), (2, .int v2)]) : W p l e { frames := 0, cells := 0, slots := 0, locals := 0 } s m args below meth c H locs 0 0 (MQ below (qVw D ct B Hb V) args s 0 0 (AB B)) (F0 m 2 ls []) := by
  obtain ⟨hx, hb, hr, hml, hown, hts, hK, hlocks, hN⟩ := id C0
  unfold b_X12_keepMoods_2 at h
  refine lv_iload_n hx hb dX12_keepMoods_2 rfl (lv_at hl 2 rfl) ?_
  refine lv_bipush (v := 8) hx hb dX12_keepMoods_3 (by decide) ?_
  refine lv_icmp_ge (tgt := 31) hx hb dX12_keepMoods_5 (by decide) (fun z1 => ?_) (fun z1 => ?_)
  · have h := ob_t h z1
    exact r_Vw C0 hP hS h dX12_keepMoods_31
  · have h := ob_f h z1
    refine lv_aload_n hx hb dX12_keepMoods_8 rfl (lv_at hl 0 rfl) ?_
    refine x_get C0 hP (lay_X12 B ct S) rfl inG12 60 (by decide) wd_1201 (fun _ h => h) rfl dX12_keepMoods_9 ?_
    refine lv_bipush (v := 8) hx hb dX12_keepMoods_12 (by decide) ?_
    refine lv_iload_n hx hb dX12_keepMoods_14 rfl (lv_at hl 1 rfl) ?_
    refine lv_imul hx hb dX12_keepMoods_15 ?_
    refine lv_iload_n hx hb dX12_keepMoods_16 rfl (lv_at hl 2 rfl) ?_
    refine lv_iadd hx hb dX12_keepMoods_17 ?_
    refine lv_aload_n hx hb dX12_keepMoods_18 rfl (lv_at hl 0 rfl) ?_
    refine x_get C0 hP (lay_X12 B ct S) rfl inG12 20 (by decide) wd_1161 (fun _ h => h) rfl dX12_keepMoods_19 ?_
    refine lv_iload_n hx hb dX12_keepMoods_22 rfl (lv_at hl 2 rfl) ?_
    obtain ⟨g2, h⟩ := ob_gd h
    refine x_iald C0 hP ((fun S => lay_151 B ct S) S) g2 dX12_keepMoods_23 ?_
    obtain ⟨g3, h⟩ := ob_gd h
    obtain ⟨S4, eS4, h⟩ := ob_nm h
    refine x_iast C0 hP hS (fun S => lay_180 B ct S) g3 dX12_keepMoods_24 (fun H locs hP hS => ?_)
    rw [← eS4] at hP
    refine lv_iinc (v := v2 + 1) (lv' := [(2, .int (v2 + 1)), (0, .ref (B + 136)), (1, .int v1)]) hx hb dX12_keepMoods_25 hl (k := 2) rfl rfl (by decide) rfl (fun ls hl => ?_)
    refine lv_goto (tgt := 2) hx hb dX12_keepMoods_28 (by decide) ?_
    exact ih0 v1 (v2 + 1) S4 _ _ _ h hP hS (lv_sub hl [1, 2, 0] rfl)
set_option maxRecDepth 100000 in
set_option maxHeartbeats 4000000 in
theorem wl_X12_keepMoods_2 (l : Launch) {V : St} (C0 : XC D ct p s m args meth c cX12_keepMoods 3 none RX12)  : ∀ (n0 : Nat) (v1 : Int32) (v2 : Int32) (S : St) {H : Heap} {locs : List Loc} {ls : Array Slot}, (lp n0 (l_X12_keepMoods_2) (v1, v2, S)).bind some = some V → MP D ct B Hb S H → va_S (AB B) s.heap H locs → lv_has ls 3 [(0, .ref (B + 136)), (1, .int v1), (2, .int v2)] → W p l e { frames := 0, cells := 0, slots := 0, locals := 0 } s m args below meth c H locs 0 0 (MQ below (qVw D ct B Hb V) args s 0 0 (AB B)) (F0 m 2 ls []) := by
  intro n0
  induction n0 with
  | zero =>
    intro v1 v2 S H locs ls h hP hS hl
    exact (lp_0 h).elim
  | succ n0 ih0 =>
    intro v1 v2 S H locs ls h hP hS hl
    have h := lp_s h
    exact w_X12_keepMoods_2 l C0 n0 (fun v1 v2 S H locs ls h hP hS hl => ih0 v1 v2 S h hP hS hl) v1 v2 S h hP hS hl
set_option maxRecDepth 100000 in
set_option maxHeartbeats 4000000 in
theorem w_X12_keepMoods_0 (l : Launch) {V : St} (C0 : XC D ct p s m args meth c cX12_keepMoods 3 none RX12) (v1 : Int32) (S : St) {H : Heap} {locs : List Loc} {ls : Array Slot} (h : (b_X12_keepMoods_0 v1 S).bind some = some V) (hP : MP D ct B Hb S H) (hS : va_S (AB B) s.heap H locs) (hl : lv_has ls 3 [(0, .ref (B + 136)), (1, .int v1)]) : W p l e { frames := 0, cells := 0, slots := 0, locals := 0 } s m args below meth c H locs 0 0 (MQ below (qVw D ct B Hb V) args s 0 0 (AB B)) (F0 m 0 ls []) := by
  obtain ⟨hx, hb, hr, hml, hown, hts, hK, hlocks, hN⟩ := id C0
  unfold b_X12_keepMoods_0 at h
  refine lv_iconst (v := 0) hx hb dX12_keepMoods_0 (by decide) ?_
  refine lv_istore_n (lv' := [(2, .int 0), (0, .ref (B + 136)), (1, .int v1)]) hx hb dX12_keepMoods_1 rfl hl (by decide) rfl (fun ls hl => ?_)
  exact wl_X12_keepMoods_2 l C0 1000 v1 0 S h hP hS (lv_sub hl [1, 2, 0] rfl)
set_option maxRecDepth 100000 in
set_option maxHeartbeats 4000000 in
theorem c_X12_keepMoods (l : Launch) (a1 : Int32) {D : va_G} {ct : Nat → ClassId} {B : Nat} {Hb : Heap} {S : St} {V : St} (h : L_X12_keepMoods a1 S = some V) : Met l yX12_keepMoods (Cond.code yX12_keepMoods cX12_keepMoods 3 none :: tG) { frames := 0, cells := 0, slots := 0, locals := 0 } (va_Pc [.ref (B + 136), .int a1] (MPK D ct B Hb S)) (qVw D ct B Hb V) 0 0 (AB B) := by
  refine mk_met (by decide +kernel) (Nat.le_of_ble_eq_true rfl) (fun p e s m args below meth c ls C0 hP hl _ => ?_)
  have h := ob_of h
  exact w_X12_keepMoods_0 l C0 a1 S h hP va_S.rf (lv_sub hl [0, 1] rfl)
set_option maxRecDepth 100000 in
set_option maxHeartbeats 4000000 in
theorem w_X12_likeAhead_64 (l : Launch) {V : Int32} (C0 : XC D ct p s m args meth c cX12_likeAhead 5 (some .int) RX12) (v1 : Int32) (v2 : Int32) (v3 : Int32) (S : St) (n0 : Nat) (ih0 : ∀ (v1 : Int32) (v2 : Int32) (H : Heap) (locs : List Loc) (ls : Array Slot), (lp n0 (l_X12_likeAhead_2 S) (v1, v2)).bind some = some V → MP D ct B Hb S H → va_S (AB B) s.heap H locs → lv_has ls 5 [(0, .ref (B + 136)), (1, .int v1), (2, .int v2)] → W p l e { frames := 0, cells := 0, slots := 0, locals := 0 } s m args below meth c H locs 0 0 (MQ below (qI D ct B Hb S V) args s 0 0 (AB B)) (F0 m 2 ls [])) {H : Heap} {locs : List Loc} {ls : Array Slot} (h : (b_X12_likeAhead_64 v1 v2 v3 S).bind (lpF n0 (l_X12_likeAhead_2 S) some) = some V) (hP : MP D ct B Hb S H) (hS : va_S (AB B) s.heap H locs) (hl : lv_has ls 5 [(0, .ref (B + 136)), (1, .int v1), (2, .int v2), (3, .int v3)]) : W p l e { frames := 0, cells := 0, slots := 0, locals := 0 } s m args below meth c H locs 0 0 (MQ below (qI D ct B Hb S V) args s 0 0 (AB B)) (F0 m 64 ls []) := by
  obtain ⟨hx, hb, hr, hml, hown, hts, hK, hlocks, hN⟩ := id C0
  unfold b_X12_likeAhead_64 at h
  refine lv_iload_n hx hb dX12_likeAhead_64 rfl (lv_at hl 3 rfl) ?_
  refine lv_if_eq (tgt := 70) hx hb dX12_likeAhead_65 (by decide) (fun z1 => ?_) (fun z1 => ?_)
  · have h := ob_t h z1
    refine lv_iinc (v := v2 + 1) (lv' := [(2, .int (v2 + 1)), (0, .ref (B + 136)), (1, .int v1), (3, .int v3)]) hx hb dX12_likeAhead_70 hl (k := 2) rfl rfl (by decide) rfl (fun ls hl => ?_)
    refine lv_goto (tgt := 2) hx hb dX12_likeAhead_73 (by decide) ?_
    exact ih0 v1 (v2 + 1) _ _ _ h hP hS (lv_sub hl [1, 2, 0] rfl)
  · have h := ob_f h z1
    refine lv_iload_n hx hb dX12_likeAhead_68 rfl (lv_at hl 2 rfl) ?_
    exact r_I C0 hP hS h dX12_likeAhead_69
set_option maxRecDepth 100000 in
set_option maxHeartbeats 4000000 in
theorem w_X12_likeAhead_57 (l : Launch) {V : Int32} (C0 : XC D ct p s m args meth c cX12_likeAhead 5 (some .int) RX12) (v1 : Int32) (v2 : Int32) (v4 : Int32) (s0 : Int32) (S : St) (n0 : Nat) (ih0 : ∀ (v1 : Int32) (v2 : Int32) (H : Heap) (locs : List Loc) (ls : Array Slot), (lp n0 (l_X12_likeAhead_2 S) (v1, v2)).bind some = some V → MP D ct B Hb S H → va_S (AB B) s.heap H locs → lv_has ls 5 [(0, .ref (B + 136)), (1, .int v1), (2, .int v2)] → W p l e { frames := 0, cells := 0, slots := 0, locals := 0 } s m args below meth c H locs 0 0 (MQ below (qI D ct B Hb S V) args s 0 0 (AB B)) (F0 m 2 ls [])) (n1 : Nat) (ih1 : ∀ (v1 : Int32) (v2 : Int32) (v3 : Int32) (v4 : Int32) (H : Heap) (locs : List Loc) (ls : Array Slot), (lp n1 (l_X12_likeAhead_12 S) (v1, v2, v3, v4)).bind (lpF n0 (l_X12_likeAhead_2 S) some) = some V → MP D ct B Hb S H → va_S (AB B) s.heap H locs → lv_has ls 5 [(0, .ref (B + 136)), (1, .int v1), (2, .int v2), (3, .int v3), (4, .int v4)] → W p l e { frames := 0, cells := 0, slots := 0, locals := 0 } s m args below meth c H locs 0 0 (MQ below (qI D ct B Hb S V) args s 0 0 (AB B)) (F0 m 12 ls [])) {H : Heap} {locs : List Loc} {ls : Array Slot} (h : (b_X12_likeAhead_57 v1 v2 v4 s0 S).bind (lpF n1 (l_X12_likeAhead_12 S) (lpF n0 (l_X12_likeAhead_2 S) some)) = some V) (hP : MP D ct B Hb S H) (hS : va_S (AB B) s.heap H locs) (hl : lv_has ls 5 [(0, .ref (B + 136)), (1, .int v1), (2, .int v2), (4, .int v4)]) : W p l e { frames := 0, cells := 0, slots := 0, locals := 0 } s m args below meth c H locs 0 0 (MQ below (qI D ct B Hb S V) args s 0 0 (AB B)) (F0 m 57 ls [.int s0]) := by
  obtain ⟨hx, hb, hr, hml, hown, hts, hK, hlocks, hN⟩ := id C0
  unfold b_X12_likeAhead_57 at h
  refine lv_istore_n (lv' := [(3, .int s0), (0, .ref (B + 136)), (1, .int v1), (2, .int v2), (4, .int v4)]) hx hb dX12_likeAhead_57 rfl hl (by decide) rfl (fun ls hl => ?_)
  refine lv_iinc (v := v4 + 1) (lv' := [(4, .int (v4 + 1)), (3, .int s0), (0, .ref (B + 136)), (1, .int v1), (2, .int v2)]) hx hb dX12_likeAhead_58 hl (k := 4) rfl rfl (by decide) rfl (fun ls hl => ?_)
  refine lv_goto (tgt := 12) hx hb dX12_likeAhead_61 (by decide) ?_
  exact ih1 v1 v2 s0 (v4 + 1) _ _ _ h hP hS (lv_sub hl [2, 3, 4, 1, 0] rfl)
set_option maxRecDepth 100000 in
set_option maxHeartbeats 4000000 in
theorem w_X12_likeAhead_56 (l : Launch) {V : Int32} (C0 : XC D ct p s m args meth c cX12_likeAhead 5 (some .int) RX12) (v1 : Int32) (v2 : Int32) (v4 : Int32) (S : St) (n0 : Nat) (ih0 : ∀ (v1 : Int32) (v2 : Int32) (H : Heap) (locs : List Loc) (ls : Array Slot), (lp n0 (l_X12_likeAhead_2 S) (v1, v2)).bind some = some V → MP D ct B Hb S H → va_S (AB B) s.heap H locs → lv_has ls 5 [(0, .ref (B + 136)), (1, .int v1), (2, .int v2)] → W p l e { frames := 0, cells := 0, slots := 0, locals := 0 } s m args below meth c H locs 0 0 (MQ below (qI D ct B Hb S V) args s 0 0 (AB B)) (F0 m 2 ls [])) (n1 : Nat) (ih1 : ∀ (v1 : Int32) (v2 : Int32) (v3 : Int32) (v4 : Int32) (H : Heap) (locs : List Loc) (ls : Array Slot), (lp n1 (l_X12_likeAhead_12 S) (v1, v2, v3, v4)).bind (lpF n0 (l_X12_likeAhead_2 S) some) = some V → MP D ct B Hb S H → va_S (AB B) s.heap H locs → lv_has ls 5 [(0, .ref (B + 136)), (1, .int v1), (2, .int v2), (3, .int v3), (4, .int v4)] → W p l e { frames := 0, cells := 0, slots := 0, locals := 0 } s m args below meth c H locs 0 0 (MQ below (qI D ct B Hb S V) args s 0 0 (AB B)) (F0 m 12 ls [])) {H : Heap} {locs : List Loc} {ls : Array Slot} (h : (b_X12_likeAhead_56 v1 v2 v4 S).bind (lpF n1 (l_X12_likeAhead_12 S) (lpF n0 (l_X12_likeAhead_2 S) some)) = some V) (hP : MP D ct B Hb S H) (hS : va_S (AB B) s.heap H locs) (hl : lv_has ls 5 [(0, .ref (B + 136)), (1, .int v1), (2, .int v2), (4, .int v4)]) : W p l e { frames := 0, cells := 0, slots := 0, locals := 0 } s m args below meth c H locs 0 0 (MQ below (qI D ct B Hb S V) args s 0 0 (AB B)) (F0 m 56 ls []) := by
  obtain ⟨hx, hb, hr, hml, hown, hts, hK, hlocks, hN⟩ := id C0
  unfold b_X12_likeAhead_56 at h
  refine lv_iconst (v := 0) hx hb dX12_likeAhead_56 (by decide) ?_
  exact w_X12_likeAhead_57 l C0 v1 v2 v4 0 S n0 ih0 n1 ih1 h hP hS (lv_sub hl [0, 1, 2, 3] rfl)
set_option maxRecDepth 100000 in
set_option maxHeartbeats 4000000 in
theorem w_X12_likeAhead_12 (l : Launch) {V : Int32} (C0 : XC D ct p s m args meth c cX12_likeAhead 5 (some .int) RX12) (v1 : Int32) (v2 : Int32) (v3 : Int32) (v4 : Int32) (S : St) (n0 : Nat) (ih0 : ∀ (v1 : Int32) (v2 : Int32) (H : Heap) (locs : List Loc) (ls : Array Slot), (lp n0 (l_X12_likeAhead_2 S) (v1, v2)).bind some = some V → MP D ct B Hb S H → va_S (AB B) s.heap H locs → lv_has ls 5 [(0, .ref (B + 136)), (1, .int v1), (2, .int v2)] → W p l e { frames := 0, cells := 0, slots := 0, locals := 0 } s m args below meth c H locs 0 0 (MQ below (qI D ct B Hb S V) args s 0 0 (AB B)) (F0 m 2 ls [])) (n1 : Nat) (ih1 : ∀ (v1 : Int32) (v2 : Int32) (v3 : Int32) (v4 : Int32) (H : Heap) (locs : List Loc) (ls : Array Slot), (lp n1 (l_X12_likeAhead_12 S) (v1, v2, v3, v4)).bind (lpF n0 (l_X12_likeAhead_2 S) some) = some V → MP D ct B Hb S H → va_S (AB B) s.heap H locs → lv_has ls 5 [(0, .ref (B + 136)), (1, .int v1), (2, .int v2), (3, .int v3), (4, .int v4)] → W p l e { frames := 0, cells := 0, slots := 0, locals := 0 } s m args below meth c H locs 0 0 (MQ below (qI D ct B Hb S V) args s 0 0 (AB B)) (F0 m 12 ls [])) {H : Heap} {locs : List Loc} {ls : Array Slot} (h : (b_X12_likeAhead_12 v1 v2 v3 v4 S).bind (lpF n1 (l_X12_likeAhead_12 S) (lpF n0 (l_X12_likeAhead_2 S) some)) = some V) (hP : MP D ct B Hb S H) (hS : va_S (AB B) s.heap H locs) (hl : lv_has ls 5 [(0, .ref (B + 136)), (1, .int v1), (2, .int v2), (3, .int v3), (4, .int v4)]) : W p l e { frames := 0, cells := 0, slots := 0, locals := 0 } s m args below meth c H locs 0 0 (MQ below (qI D ct B Hb S V) args s 0 0 (AB B)) (F0 m 12 ls []) := by
  obtain ⟨hx, hb, hr, hml, hown, hts, hK, hlocks, hN⟩ := id C0
  unfold b_X12_likeAhead_12 at h
  refine lv_iload hx hb dX12_likeAhead_12 (lv_at hl 4 rfl) ?_
  refine lv_aload_n hx hb dX12_likeAhead_14 rfl (lv_at hl 0 rfl) ?_
  refine x_get C0 hP (lay_X12 B ct S) rfl inG12 15 (by decide) wd_1156 (fun _ h => h) rfl dX12_likeAhead_15 ?_
  refine lv_icmp_ge (tgt := 64) hx hb dX12_likeAhead_18 (by decide) (fun z1 => ?_) (fun z1 => ?_)
  · have h := ob_t h z1
    have h := ob_mp h
    exact w_X12_likeAhead_64 l C0 v1 v2 v3 S n0 ih0 h hP hS (lv_sub hl [0, 1, 2, 3] rfl)
  · have h := ob_f h z1
    refine lv_iload_n hx hb dX12_likeAhead_21 rfl (lv_at hl 3 rfl) ?_
    refine lv_if_eq (tgt := 56) hx hb dX12_likeAhead_22 (by decide) (fun z2 => ?_) (fun z2 => ?_)
    · have h := ob_t h z2
      exact w_X12_likeAhead_56 l C0 v1 v2 v4 S n0 ih0 n1 ih1 h hP hS (lv_sub hl [0, 1, 2, 4] rfl)
    · have h := ob_f h z2
      refine lv_aload_n hx hb dX12_likeAhead_25 rfl (lv_at hl 0 rfl) ?_
      refine x_get C0 hP (lay_X12 B ct S) rfl inG12 60 (by decide) wd_1201 (fun _ h => h) rfl dX12_likeAhead_26 ?_
      refine lv_bipush (v := 8) hx hb dX12_likeAhead_29 (by decide) ?_
      refine lv_iload_n hx hb dX12_likeAhead_31 rfl (lv_at hl 2 rfl) ?_
      refine lv_imul hx hb dX12_likeAhead_32 ?_
      refine lv_iload hx hb dX12_likeAhead_33 (lv_at hl 4 rfl) ?_
      refine lv_iadd hx hb dX12_likeAhead_35 ?_
      obtain ⟨g3, h⟩ := ob_gd h
      refine x_iald C0 hP ((fun S => lay_180 B ct S) S) g3 dX12_likeAhead_36 ?_
      refine lv_aload_n hx hb dX12_likeAhead_37 rfl (lv_at hl 0 rfl) ?_
      refine x_get C0 hP (lay_X12 B ct S) rfl inG12 60 (by decide) wd_1201 (fun _ h => h) rfl dX12_likeAhead_38 ?_
      refine lv_bipush (v := 8) hx hb dX12_likeAhead_41 (by decide) ?_
      refine lv_iload_n hx hb dX12_likeAhead_43 rfl (lv_at hl 1 rfl) ?_
      refine lv_imul hx hb dX12_likeAhead_44 ?_
      refine lv_iload hx hb dX12_likeAhead_45 (lv_at hl 4 rfl) ?_
      refine lv_iadd hx hb dX12_likeAhead_47 ?_
      obtain ⟨g4, h⟩ := ob_gd h
      refine x_iald C0 hP ((fun S => lay_180 B ct S) S) g4 dX12_likeAhead_48 ?_
      refine lv_icmp_ne (tgt := 56) hx hb dX12_likeAhead_49 (by decide) (fun z5 => ?_) (fun z5 => ?_)
      · have h := ob_f h z5
        exact w_X12_likeAhead_56 l C0 v1 v2 v4 S n0 ih0 n1 ih1 h hP hS (lv_sub hl [0, 1, 2, 4] rfl)
      · have h := ob_t h z5
        refine lv_iconst (v := 1) hx hb dX12_likeAhead_52 (by decide) ?_
        refine lv_goto (tgt := 57) hx hb dX12_likeAhead_53 (by decide) ?_
        exact w_X12_likeAhead_57 l C0 v1 v2 v4 1 S n0 ih0 n1 ih1 h hP hS (lv_sub hl [0, 1, 2, 4] rfl)
set_option maxRecDepth 100000 in
set_option maxHeartbeats 4000000 in
theorem wl_X12_likeAhead_12 (l : Launch) {V : Int32} (C0 : XC D ct p s m args meth c cX12_likeAhead 5 (some .int) RX12) (S : St) (n0 : Nat) (ih0 : ∀ (v1 : Int32) (v2 : Int32) (H : Heap) (locs : List Loc) (ls : Array Slot), (lp n0 (l_X12_likeAhead_2 S) (v1, v2)).bind some = some V → MP D ct B Hb S H → va_S (AB B) s.heap H locs → lv_has ls 5 [(0, .ref (B + 136)), (1, .int v1), (2, .int v2)] → W p l e { frames := 0, cells := 0, slots := 0, locals := 0 } s m args below meth c H locs 0 0 (MQ below (qI D ct B Hb S V) args s 0 0 (AB B)) (F0 m 2 ls []))  : ∀ (n1 : Nat) (v1 : Int32) (v2 : Int32) (v3 : Int32) (v4 : Int32) {H : Heap} {locs : List Loc} {ls : Array Slot}, (lp n1 (l_X12_likeAhead_12 S) (v1, v2, v3, v4)).bind (lpF n0 (l_X12_likeAhead_2 S) some) = some V → MP D ct B Hb S H → va_S (AB B) s.heap H locs → lv_has ls 5 [(0, .ref (B + 136)), (1, .int v1), (2, .int v2), (3, .int v3), (4, .int v4)] → W p l e { frames := 0, cells := 0, slots := 0, locals := 0 } s m args below meth c H locs 0 0 (MQ below (qI D ct B Hb S V) args s 0 0 (AB B)) (F0 m 12 ls []) := by
  intro n1
  induction n1 with
  | zero =>
    intro v1 v2 v3 v4 H locs ls h hP hS hl
    exact (lp_0 h).elim
  | succ n1 ih1 =>
    intro v1 v2 v3 v4 H locs ls h hP hS hl
    have h := lp_s h
    exact w_X12_likeAhead_12 l C0 v1 v2 v3 v4 S n0 ih0 n1 (fun v1 v2 v3 v4 H locs ls h hP hS hl => ih1 v1 v2 v3 v4 h hP hS hl) h hP hS hl
set_option maxRecDepth 100000 in
set_option maxHeartbeats 4000000 in
theorem w_X12_likeAhead_2 (l : Launch) {V : Int32} (C0 : XC D ct p s m args meth c cX12_likeAhead 5 (some .int) RX12) (v1 : Int32) (v2 : Int32) (S : St) (n0 : Nat) (ih0 : ∀ (v1 : Int32) (v2 : Int32) (H : Heap) (locs : List Loc) (ls : Array Slot), (lp n0 (l_X12_likeAhead_2 S) (v1, v2)).bind some = some V → MP D ct B Hb S H → va_S (AB B) s.heap H locs → lv_has ls 5 [(0, .ref (B + 136)), (1, .int v1), (2, .int v2)] → W p l e { frames := 0, cells := 0, slots := 0, locals := 0 } s m args below meth c H locs 0 0 (MQ below (qI D ct B Hb S V) args s 0 0 (AB B)) (F0 m 2 ls [])) {H : Heap} {locs : List Loc} {ls : Array Slot} (h : (b_X12_likeAhead_2 v1 v2 S).bind (lpF n0 (l_X12_likeAhead_2 S) some) = some V) (hP : MP D ct B Hb S H) (hS : va_S (AB B) s.heap H locs) (hl : lv_has ls 5 [(0, .ref (B + 136)), (1, .int v1), (2, .int v2)]) : W p l e { frames := 0, cells := 0, slots := 0, locals := 0 } s m args below meth c H locs 0 0 (MQ below (qI D ct B Hb S V) args s 0 0 (AB B)) (F0 m 2 ls []) := by
  obtain ⟨hx, hb, hr, hml, hown, hts, hK, hlocks, hN⟩ := id C0
  unfold b_X12_likeAhead_2 at h
  refine lv_iload_n hx hb dX12_likeAhead_2 rfl (lv_at hl 2 rfl) ?_
  refine lv_iload_n hx hb dX12_likeAhead_3 rfl (lv_at hl 1 rfl) ?_
  refine lv_icmp_ge (tgt := 76) hx hb dX12_likeAhead_4 (by decide) (fun z1 => ?_) (fun z1 => ?_)
  · have h := ob_t h z1
    refine lv_bipush (v := (-4)) hx hb dX12_likeAhead_76 (by decide) ?_
    exact r_I C0 hP hS h dX12_likeAhead_78
  · have h := ob_f h z1
    refine lv_iconst (v := 1) hx hb dX12_likeAhead_7 (by decide) ?_
    refine lv_istore_n (lv' := [(3, .int 1), (0, .ref (B + 136)), (1, .int v1), (2, .int v2)]) hx hb dX12_likeAhead_8 rfl hl (by decide) rfl (fun ls hl => ?_)
    refine lv_iconst (v := 0) hx hb dX12_likeAhead_9 (by decide) ?_
    refine lv_istore (lv' := [(4, .int 0), (3, .int 1), (0, .ref (B + 136)), (1, .int v1), (2, .int v2)]) hx hb dX12_likeAhead_10 hl (by decide) rfl (fun ls hl => ?_)
    exact wl_X12_likeAhead_12 l C0 S n0 ih0 1000 v1 v2 1 0 h hP hS (lv_sub hl [2, 3, 4, 1, 0] rfl)
set_option maxRecDepth 100000 in
set_option maxHeartbeats 4000000 in
theorem wl_X12_likeAhead_2 (l : Launch) {V : Int32} (C0 : XC D ct p s m args meth c cX12_likeAhead 5 (some .int) RX12) (S : St)  : ∀ (n0 : Nat) (v1 : Int32) (v2 : Int32) {H : Heap} {locs : List Loc} {ls : Array Slot}, (lp n0 (l_X12_likeAhead_2 S) (v1, v2)).bind some = some V → MP D ct B Hb S H → va_S (AB B) s.heap H locs → lv_has ls 5 [(0, .ref (B + 136)), (1, .int v1), (2, .int v2)] → W p l e { frames := 0, cells := 0, slots := 0, locals := 0 } s m args below meth c H locs 0 0 (MQ below (qI D ct B Hb S V) args s 0 0 (AB B)) (F0 m 2 ls []) := by
  intro n0
  induction n0 with
  | zero =>
    intro v1 v2 H locs ls h hP hS hl
    exact (lp_0 h).elim
  | succ n0 ih0 =>
    intro v1 v2 H locs ls h hP hS hl
    have h := lp_s h
    exact w_X12_likeAhead_2 l C0 v1 v2 S n0 (fun v1 v2 H locs ls h hP hS hl => ih0 v1 v2 h hP hS hl) h hP hS hl
set_option maxRecDepth 100000 in
set_option maxHeartbeats 4000000 in
theorem w_X12_likeAhead_0 (l : Launch) {V : Int32} (C0 : XC D ct p s m args meth c cX12_likeAhead 5 (some .int) RX12) (v1 : Int32) (S : St) {H : Heap} {locs : List Loc} {ls : Array Slot} (h : (b_X12_likeAhead_0 v1 S).bind some = some V) (hP : MP D ct B Hb S H) (hS : va_S (AB B) s.heap H locs) (hl : lv_has ls 5 [(0, .ref (B + 136)), (1, .int v1)]) : W p l e { frames := 0, cells := 0, slots := 0, locals := 0 } s m args below meth c H locs 0 0 (MQ below (qI D ct B Hb S V) args s 0 0 (AB B)) (F0 m 0 ls []) := by
  obtain ⟨hx, hb, hr, hml, hown, hts, hK, hlocks, hN⟩ := id C0
  unfold b_X12_likeAhead_0 at h
  refine lv_iconst (v := 0) hx hb dX12_likeAhead_0 (by decide) ?_
  refine lv_istore_n (lv' := [(2, .int 0), (0, .ref (B + 136)), (1, .int v1)]) hx hb dX12_likeAhead_1 rfl hl (by decide) rfl (fun ls hl => ?_)
  exact wl_X12_likeAhead_2 l C0 S 1000 v1 0 h hP hS (lv_sub hl [1, 2, 0] rfl)
set_option maxRecDepth 100000 in
set_option maxHeartbeats 4000000 in
theorem c_X12_likeAhead (l : Launch) (a1 : Int32) {D : va_G} {ct : Nat → ClassId} {B : Nat} {Hb : Heap} {S : St} {V : Int32} (h : L_X12_likeAhead a1 S = some V) : Met l yX12_likeAhead (Cond.code yX12_likeAhead cX12_likeAhead 5 (some .int) :: tG) { frames := 0, cells := 0, slots := 0, locals := 0 } (va_Pc [.ref (B + 136), .int a1] (MPK D ct B Hb S)) (qI D ct B Hb S V) 0 0 (AB B) := by
  refine mk_met (by decide +kernel) (Nat.le_of_ble_eq_true rfl) (fun p e s m args below meth c ls C0 hP hl _ => ?_)
  have h := ob_of h
  exact w_X12_likeAhead_0 l C0 a1 S h hP va_S.rf (lv_sub hl [0, 1] rfl)
set_option maxRecDepth 100000 in
set_option maxHeartbeats 4000000 in
theorem w_X12_again_163 (l : Launch) {V : Int32 × St} (C0 : XC D ct p s m args meth c cX12_again 7 (some .int) RX12) (v1 : Int32) (v2 : Int32) (v3 : Int32) (S : St) {H : Heap} {locs : List Loc} {ls : Array Slot} (h : (b_X12_again_163 v1 v2 v3 S).bind some = some V) (hP : MP D ct B Hb S H) (hS : va_S (AB B) s.heap H locs) (hl : lv_has ls 7 [(0, .ref (B + 136)), (1, .int v1), (2, .int v2), (3, .int v3)]) : W p l e { frames := 7, cells := 0, slots := 0, locals := 160 } s m args below meth c H locs 0 0 (MQ below (qIw D ct B Hb V) args s 0 0 (AB B)) (F0 m 163 ls []) := by
  obtain ⟨hx, hb, hr, hml, hown, hts, hK, hlocks, hN⟩ := id C0
  unfold b_X12_again_163 at h
  refine lv_aload_n hx hb dX12_again_163 rfl (lv_at hl 0 rfl) ?_
  obtain ⟨r1, hr1, h⟩ := ob_bd h
  refine n_Vw (kV (As := []) C0 (c_X12_close l hr1) ⟨wd_1440, wd_1437, wd_1439, wp_36, wd_6⟩ kd_X12_close ⟨Nat.le_of_ble_eq_true rfl, Nat.le_of_ble_eq_true rfl⟩ hP (lay_X12 B ct S) rfl rfl hl.1 rfl (Nat.le_of_ble_eq_true rfl) dX12_again_164 ⟨Nat.le_of_ble_eq_true rfl, Nat.le_of_ble_eq_true rfl⟩) hS (fun H locs hP hS => ?_)
  refine lv_iload_n hx hb dX12_again_167 rfl (lv_at hl 1 rfl) ?_
  refine lv_if_ne (tgt := 175) hx hb dX12_again_168 (by decide) (fun z2 => ?_) (fun z2 => ?_)
  · have h := ob_f h z2
    refine lv_iload_n hx hb dX12_again_175 rfl (lv_at hl 3 rfl) ?_
    exact r_Iw C0 hP hS h dX12_again_176
  · have h := ob_t h z2
    refine lv_iload_n hx hb dX12_again_171 rfl (lv_at hl 2 rfl) ?_
    refine lv_goto (tgt := 176) hx hb dX12_again_172 (by decide) ?_
    exact r_Iw C0 hP hS h dX12_again_176
set_option maxRecDepth 100000 in
set_option maxHeartbeats 4000000 in
theorem w_X12_again_156 (l : Launch) {V : Int32 × St} (C0 : XC D ct p s m args meth c cX12_again 7 (some .int) RX12) (n0 : Nat) (ih0 : ∀ (v1 : Int32) (v2 : Int32) (v3 : Int32) (v4 : Int32) (S : St) (H : Heap) (locs : List Loc) (ls : Array Slot), (lp n0 (l_X12_again_35) (v1, v2, v3, v4, S)).bind some = some V → MP D ct B Hb S H → va_S (AB B) s.heap H locs → lv_has ls 7 [(0, .ref (B + 136)), (1, .int v1), (2, .int v2), (3, .int v3), (4, .int v4)] → W p l e { frames := 7, cells := 0, slots := 0, locals := 160 } s m args below meth c H locs 0 0 (MQ below (qIw D ct B Hb V) args s 0 0 (AB B)) (F0 m 35 ls [])) (v1 : Int32) (v3 : Int32) (v4 : Int32) (s0 : Int32) (S : St) {H : Heap} {locs : List Loc} {ls : Array Slot} (h : (b_X12_again_156 v1 v3 v4 s0 S).bind (lpF n0 (l_X12_again_35) some) = some V) (hP : MP D ct B Hb S H) (hS : va_S (AB B) s.heap H locs) (hl : lv_has ls 7 [(0, .ref (B + 136)), (1, .int v1), (3, .int v3), (4, .int v4)]) : W p l e { frames := 7, cells := 0, slots := 0, locals := 160 } s m args below meth c H locs 0 0 (MQ below (qIw D ct B Hb V) args s 0 0 (AB B)) (F0 m 156 ls [.int s0]) := by
  obtain ⟨hx, hb, hr, hml, hown, hts, hK, hlocks, hN⟩ := id C0
  unfold b_X12_again_156 at h
  refine lv_istore_n (lv' := [(2, .int s0), (0, .ref (B + 136)), (1, .int v1), (3, .int v3), (4, .int v4)]) hx hb dX12_again_156 rfl hl (by decide) rfl (fun ls hl => ?_)
  refine lv_iinc (v := v4 + 1) (lv' := [(4, .int (v4 + 1)), (2, .int s0), (0, .ref (B + 136)), (1, .int v1), (3, .int v3)]) hx hb dX12_again_157 hl (k := 4) rfl rfl (by decide) rfl (fun ls hl => ?_)
  refine lv_goto (tgt := 35) hx hb dX12_again_160 (by decide) ?_
  exact ih0 v1 s0 v3 (v4 + 1) S _ _ _ h hP hS (lv_sub hl [2, 3, 1, 4, 0] rfl)
set_option maxRecDepth 100000 in
set_option maxHeartbeats 4000000 in
theorem w_X12_again_132 (l : Launch) {V : Int32 × St} (C0 : XC D ct p s m args meth c cX12_again 7 (some .int) RX12) (n0 : Nat) (ih0 : ∀ (v1 : Int32) (v2 : Int32) (v3 : Int32) (v4 : Int32) (S : St) (H : Heap) (locs : List Loc) (ls : Array Slot), (lp n0 (l_X12_again_35) (v1, v2, v3, v4, S)).bind some = some V → MP D ct B Hb S H → va_S (AB B) s.heap H locs → lv_has ls 7 [(0, .ref (B + 136)), (1, .int v1), (2, .int v2), (3, .int v3), (4, .int v4)] → W p l e { frames := 7, cells := 0, slots := 0, locals := 160 } s m args below meth c H locs 0 0 (MQ below (qIw D ct B Hb V) args s 0 0 (AB B)) (F0 m 35 ls [])) (v1 : Int32) (v4 : Int32) (S : St) {H : Heap} {locs : List Loc} {ls : Array Slot} (h : (b_X12_again_132 v1 v4 S).bind (lpF n0 (l_X12_again_35) some) = some V) (hP : MP D ct B Hb S H) (hS : va_S (AB B) s.heap H locs) (hl : lv_has ls 7 [(0, .ref (B + 136)), (1, .int v1), (4, .int v4)]) : W p l e { frames := 7, cells := 0, slots := 0, locals := 160 } s m args below meth c H locs 0 0 (MQ below (qIw D ct B Hb V) args s 0 0 (AB B)) (F0 m 132 ls []) := by
  obtain ⟨hx, hb, hr, hml, hown, hts, hK, hlocks, hN⟩ := id C0
  unfold b_X12_again_132 at h
  refine lv_aload_n hx hb dX12_again_132 rfl (lv_at hl 0 rfl) ?_
  refine lv_iload hx hb dX12_again_133 (lv_at hl 2 rfl) ?_
  obtain ⟨r1, hr1, h⟩ := ob_bd h
  refine n_Vw (kV (As := [.int v4]) C0 (c_X12_keepMoods l v4 hr1) ⟨wd_1715, wd_1712, wd_1714, wp_64, wd_6⟩ kd_X12_keepMoods ⟨Nat.le_of_ble_eq_true rfl, Nat.le_of_ble_eq_true rfl⟩ hP (lay_X12 B ct S) rfl rfl hl.1 rfl (Nat.le_of_ble_eq_true rfl) dX12_again_135 ⟨Nat.le_of_ble_eq_true rfl, Nat.le_of_ble_eq_true rfl⟩) hS (fun H locs hP hS => ?_)
  refine lv_aload_n hx hb dX12_again_138 rfl (lv_at hl 0 rfl) ?_
  refine lv_iload hx hb dX12_again_139 (lv_at hl 2 rfl) ?_
  obtain ⟨r2, hr2, h⟩ := ob_bd h
  refine n_I (kV (As := [.int v4]) C0 (c_X12_likeAhead l v4 hr2) ⟨wd_1719, wd_1716, wd_1718, wp_65, wd_6⟩ kd_X12_likeAhead ⟨Nat.le_of_ble_eq_true rfl, Nat.le_of_ble_eq_true rfl⟩ hP (lay_X12 B ct r1) rfl rfl hl.1 rfl (Nat.le_of_ble_eq_true rfl) dX12_again_141 ⟨Nat.le_of_ble_eq_true rfl, Nat.le_of_ble_eq_true rfl⟩) hS (fun H locs hP hS => ?_)
  refine lv_istore_n (lv' := [(3, .int r2), (0, .ref (B + 136)), (1, .int v1), (4, .int v4)]) hx hb dX12_again_144 rfl hl (by decide) rfl (fun ls hl => ?_)
  refine lv_iload_n hx hb dX12_again_145 rfl (lv_at hl 0 rfl) ?_
  refine lv_if_lt (tgt := 154) hx hb dX12_again_146 (by decide) (fun z3 => ?_) (fun z3 => ?_)
  · have h := ob_t h z3
    refine lv_bipush (v := (-4)) hx hb dX12_again_154 (by decide) ?_
    exact w_X12_again_156 l C0 n0 ih0 v1 r2 v4 ((-4)) r1 h hP hS (lv_sub hl [1, 2, 0, 3] rfl)
  · have h := ob_f h z3
    refine lv_iload hx hb dX12_again_149 (lv_at hl 3 rfl) ?_
    refine lv_goto (tgt := 156) hx hb dX12_again_151 (by decide) ?_
    exact w_X12_again_156 l C0 n0 ih0 v1 r2 v4 v4 r1 h hP hS (lv_sub hl [1, 2, 0, 3] rfl)
set_option maxRecDepth 100000 in
set_option maxHeartbeats 4000000 in
theorem w_X12_again_125 (l : Launch) {V : Int32 × St} (C0 : XC D ct p s m args meth c cX12_again 7 (some .int) RX12) (n0 : Nat) (ih0 : ∀ (v1 : Int32) (v2 : Int32) (v3 : Int32) (v4 : Int32) (S : St) (H : Heap) (locs : List Loc) (ls : Array Slot), (lp n0 (l_X12_again_35) (v1, v2, v3, v4, S)).bind some = some V → MP D ct B Hb S H → va_S (AB B) s.heap H locs → lv_has ls 7 [(0, .ref (B + 136)), (1, .int v1), (2, .int v2), (3, .int v3), (4, .int v4)] → W p l e { frames := 7, cells := 0, slots := 0, locals := 160 } s m args below meth c H locs 0 0 (MQ below (qIw D ct B Hb V) args s 0 0 (AB B)) (F0 m 35 ls [])) (n1 : Nat) (ih1 : ∀ (v1 : Int32) (v4 : Int32) (v5 : Int32) (S : St) (H : Heap) (locs : List Loc) (ls : Array Slot), (lp n1 (l_X12_again_53) (v1, v4, v5, S)).bind (lpF n0 (l_X12_again_35) some) = some V → MP D ct B Hb S H → va_S (AB B) s.heap H locs → lv_has ls 7 [(0, .ref (B + 136)), (1, .int v1), (4, .int v4), (5, .int v5)] → W p l e { frames := 7, cells := 0, slots := 0, locals := 160 } s m args below meth c H locs 0 0 (MQ below (qIw D ct B Hb V) args s 0 0 (AB B)) (F0 m 53 ls [])) (v1 : Int32) (v4 : Int32) (v5 : Int32) (s0 : Int32) (s1 : Int32) (S : St) {H : Heap} {locs : List Loc} {ls : Array Slot} (h : (b_X12_again_125 v1 v4 v5 s0 s1 S).bind (lpF n1 (l_X12_again_53) (lpF n0 (l_X12_again_35) some)) = some V) (hP : MP D ct B Hb S H) (hS : va_S (AB B) s.heap H locs) (hl : lv_has ls 7 [(0, .ref (B + 136)), (1, .int v1), (4, .int v4), (5, .int v5)]) : W p l e { frames := 7, cells := 0, slots := 0, locals := 160 } s m args below meth c H locs 0 0 (MQ below (qIw D ct B Hb V) args s 0 0 (AB B)) (F0 m 125 ls [.int s0, .int s1, .ref (B + 151)]) := by
  obtain ⟨hx, hb, hr, hml, hown, hts, hK, hlocks, hN⟩ := id C0
  unfold b_X12_again_125 at h
  obtain ⟨g1, h⟩ := ob_gd h
  obtain ⟨S2, eS2, h⟩ := ob_nm h
  refine x_iast C0 hP hS (fun S => lay_151 B ct S) g1 dX12_again_125 (fun H locs hP hS => ?_)
  rw [← eS2] at hP
  refine lv_iinc (v := v5 + 1) (lv' := [(5, .int (v5 + 1)), (0, .ref (B + 136)), (1, .int v1), (4, .int v4)]) hx hb dX12_again_126 hl (k := 3) rfl rfl (by decide) rfl (fun ls hl => ?_)
  refine lv_goto (tgt := 53) hx hb dX12_again_129 (by decide) ?_
  exact ih1 v1 v4 (v5 + 1) S2 _ _ _ h hP hS (lv_sub hl [1, 2, 3, 0] rfl)
set_option maxRecDepth 100000 in
set_option maxHeartbeats 4000000 in
theorem w_X12_again_90 (l : Launch) {V : Int32 × St} (C0 : XC D ct p s m args meth c cX12_again 7 (some .int) RX12) (n0 : Nat) (ih0 : ∀ (v1 : Int32) (v2 : Int32) (v3 : Int32) (v4 : Int32) (S : St) (H : Heap) (locs : List Loc) (ls : Array Slot), (lp n0 (l_X12_again_35) (v1, v2, v3, v4, S)).bind some = some V → MP D ct B Hb S H → va_S (AB B) s.heap H locs → lv_has ls 7 [(0, .ref (B + 136)), (1, .int v1), (2, .int v2), (3, .int v3), (4, .int v4)] → W p l e { frames := 7, cells := 0, slots := 0, locals := 160 } s m args below meth c H locs 0 0 (MQ below (qIw D ct B Hb V) args s 0 0 (AB B)) (F0 m 35 ls [])) (n1 : Nat) (ih1 : ∀ (v1 : Int32) (v4 : Int32) (v5 : Int32) (S : St) (H : Heap) (locs : List Loc) (ls : Array Slot), (lp n1 (l_X12_again_53) (v1, v4, v5, S)).bind (lpF n0 (l_X12_again_35) some) = some V → MP D ct B Hb S H → va_S (AB B) s.heap H locs → lv_has ls 7 [(0, .ref (B + 136)), (1, .int v1), (4, .int v4), (5, .int v5)] → W p l e { frames := 7, cells := 0, slots := 0, locals := 160 } s m args below meth c H locs 0 0 (MQ below (qIw D ct B Hb V) args s 0 0 (AB B)) (F0 m 53 ls [])) (v1 : Int32) (v4 : Int32) (v5 : Int32) (s0 : Int32) (s1 : Int32) (S : St) {H : Heap} {locs : List Loc} {ls : Array Slot} (h : (b_X12_again_90 v1 v4 v5 s0 s1 S).bind (lpF n1 (l_X12_again_53) (lpF n0 (l_X12_again_35) some)) = some V) (hP : MP D ct B Hb S H) (hS : va_S (AB B) s.heap H locs) (hl : lv_has ls 7 [(0, .ref (B + 136)), (1, .int v1), (4, .int v4), (5, .int v5)]) : W p l e { frames := 7, cells := 0, slots := 0, locals := 160 } s m args below meth c H locs 0 0 (MQ below (qIw D ct B Hb V) args s 0 0 (AB B)) (F0 m 90 ls [.int s0, .int s1]) := by
  obtain ⟨hx, hb, hr, hml, hown, hts, hK, hlocks, hN⟩ := id C0
  unfold b_X12_again_90 at h
  refine lv_iadd hx hb dX12_again_90 ?_
  refine lv_istore (lv' := [(6, .int (s1 + s0)), (0, .ref (B + 136)), (1, .int v1), (4, .int v4), (5, .int v5)]) hx hb dX12_again_91 hl (by decide) rfl (fun ls hl => ?_)
  refine lv_aload_n hx hb dX12_again_93 rfl (lv_at hl 1 rfl) ?_
  refine x_get C0 hP (lay_X12 B ct S) rfl inG12 20 (by decide) wd_1161 (fun _ h => h) rfl dX12_again_94 ?_
  refine lv_iload hx hb dX12_again_97 (lv_at hl 4 rfl) ?_
  refine lv_iload hx hb dX12_again_99 (lv_at hl 0 rfl) ?_
  refine lv_bipush (v := (-9)) hx hb dX12_again_101 (by decide) ?_
  refine lv_icmp_ge (tgt := 111) hx hb dX12_again_103 (by decide) (fun z1 => ?_) (fun z1 => ?_)
  · have h := ob_t h z1
    refine lv_iload hx hb dX12_again_111 (lv_at hl 0 rfl) ?_
    refine lv_bipush (v := 9) hx hb dX12_again_113 (by decide) ?_
    refine lv_icmp_le (tgt := 123) hx hb dX12_again_115 (by decide) (fun z2 => ?_) (fun z2 => ?_)
    · have h := ob_t h z2
      refine lv_iload hx hb dX12_again_123 (lv_at hl 0 rfl) ?_
      exact w_X12_again_125 l C0 n0 ih0 n1 ih1 v1 v4 v5 (s1 + s0) v5 S h hP hS (lv_sub hl [1, 2, 3, 4] rfl)
    · have h := ob_f h z2
      refine lv_bipush (v := 9) hx hb dX12_again_118 (by decide) ?_
      refine lv_goto (tgt := 125) hx hb dX12_again_120 (by decide) ?_
      exact w_X12_again_125 l C0 n0 ih0 n1 ih1 v1 v4 v5 9 v5 S h hP hS (lv_sub hl [1, 2, 3, 4] rfl)
  · have h := ob_f h z1
    refine lv_bipush (v := (-9)) hx hb dX12_again_106 (by decide) ?_
    refine lv_goto (tgt := 125) hx hb dX12_again_108 (by decide) ?_
    exact w_X12_again_125 l C0 n0 ih0 n1 ih1 v1 v4 v5 ((-9)) v5 S h hP hS (lv_sub hl [1, 2, 3, 4] rfl)
set_option maxRecDepth 100000 in
set_option maxHeartbeats 4000000 in
theorem w_X12_again_53 (l : Launch) {V : Int32 × St} (C0 : XC D ct p s m args meth c cX12_again 7 (some .int) RX12) (n0 : Nat) (ih0 : ∀ (v1 : Int32) (v2 : Int32) (v3 : Int32) (v4 : Int32) (S : St) (H : Heap) (locs : List Loc) (ls : Array Slot), (lp n0 (l_X12_again_35) (v1, v2, v3, v4, S)).bind some = some V → MP D ct B Hb S H → va_S (AB B) s.heap H locs → lv_has ls 7 [(0, .ref (B + 136)), (1, .int v1), (2, .int v2), (3, .int v3), (4, .int v4)] → W p l e { frames := 7, cells := 0, slots := 0, locals := 160 } s m args below meth c H locs 0 0 (MQ below (qIw D ct B Hb V) args s 0 0 (AB B)) (F0 m 35 ls [])) (n1 : Nat) (ih1 : ∀ (v1 : Int32) (v4 : Int32) (v5 : Int32) (S : St) (H : Heap) (locs : List Loc) (ls : Array Slot), (lp n1 (l_X12_again_53) (v1, v4, v5, S)).bind (lpF n0 (l_X12_again_35) some) = some V → MP D ct B Hb S H → va_S (AB B) s.heap H locs → lv_has ls 7 [(0, .ref (B + 136)), (1, .int v1), (4, .int v4), (5, .int v5)] → W p l e { frames := 7, cells := 0, slots := 0, locals := 160 } s m args below meth c H locs 0 0 (MQ below (qIw D ct B Hb V) args s 0 0 (AB B)) (F0 m 53 ls [])) (v1 : Int32) (v4 : Int32) (v5 : Int32) (S : St) {H : Heap} {locs : List Loc} {ls : Array Slot} (h : (b_X12_again_53 v1 v4 v5 S).bind (lpF n1 (l_X12_again_53) (lpF n0 (l_X12_again_35) some)) = some V) (hP : MP D ct B Hb S H) (hS : va_S (AB B) s.heap H locs) (hl : lv_has ls 7 [(0, .ref (B + 136)), (1, .int v1), (4, .int v4), (5, .int v5)]) : W p l e { frames := 7, cells := 0, slots := 0, locals := 160 } s m args below meth c H locs 0 0 (MQ below (qIw D ct B Hb V) args s 0 0 (AB B)) (F0 m 53 ls []) := by
  obtain ⟨hx, hb, hr, hml, hown, hts, hK, hlocks, hN⟩ := id C0
  unfold b_X12_again_53 at h
  refine lv_iload hx hb dX12_again_53 (lv_at hl 3 rfl) ?_
  refine lv_aload_n hx hb dX12_again_55 rfl (lv_at hl 0 rfl) ?_
  refine x_get C0 hP (lay_X12 B ct S) rfl inG12 15 (by decide) wd_1156 (fun _ h => h) rfl dX12_again_56 ?_
  refine lv_icmp_ge (tgt := 132) hx hb dX12_again_59 (by decide) (fun z1 => ?_) (fun z1 => ?_)
  · have h := ob_t h z1
    have h := ob_mp h
    exact w_X12_again_132 l C0 n0 ih0 v1 v4 S h hP hS (lv_sub hl [0, 1, 2] rfl)
  · have h := ob_f h z1
    refine lv_aload_n hx hb dX12_again_62 rfl (lv_at hl 0 rfl) ?_
    refine x_get C0 hP (lay_X12 B ct S) rfl inG12 20 (by decide) wd_1161 (fun _ h => h) rfl dX12_again_63 ?_
    refine lv_iload hx hb dX12_again_66 (lv_at hl 3 rfl) ?_
    obtain ⟨g2, h⟩ := ob_gd h
    refine x_iald C0 hP ((fun S => lay_151 B ct S) S) g2 dX12_again_68 ?_
    refine lv_aload_n hx hb dX12_again_69 rfl (lv_at hl 0 rfl) ?_
    refine x_get C0 hP (lay_X12 B ct S) rfl inG12 37 (by decide) wd_1178 (fun _ h => h) rfl dX12_again_70 ?_
    refine lv_iload hx hb dX12_again_73 (lv_at hl 3 rfl) ?_
    obtain ⟨g3, h⟩ := ob_gd h
    refine x_zald C0 hP ((fun S => lay_165 B ct S) S) g3 dX12_again_75 ?_
    refine lv_if_eq (tgt := 89) hx hb dX12_again_76 (by decide) (fun z4 => ?_) (fun z4 => ?_)
    · have h := ob_t h z4
      refine lv_iconst (v := 0) hx hb dX12_again_89 (by decide) ?_
      exact w_X12_again_90 l C0 n0 ih0 n1 ih1 v1 v4 v5 0 (gi S 151 v5.toNatClampNeg) S h hP hS (lv_sub hl [0, 1, 2, 3] rfl)
    · have h := ob_f h z4
      refine lv_aload_n hx hb dX12_again_79 rfl (lv_at hl 0 rfl) ?_
      refine x_get C0 hP (lay_X12 B ct S) rfl inG12 40 (by decide) wd_1181 (fun _ h => h) rfl dX12_again_80 ?_
      refine lv_iload hx hb dX12_again_83 (lv_at hl 3 rfl) ?_
      obtain ⟨g5, h⟩ := ob_gd h
      refine x_iald C0 hP ((fun S => lay_168 B ct S) S) g5 dX12_again_85 ?_
      refine lv_goto (tgt := 90) hx hb dX12_again_86 (by decide) ?_
      exact w_X12_again_90 l C0 n0 ih0 n1 ih1 v1 v4 v5 (gi S 168 v5.toNatClampNeg) (gi S 151 v5.toNatClampNeg) S h hP hS (lv_sub hl [0, 1, 2, 3] rfl)
set_option maxRecDepth 100000 in
set_option maxHeartbeats 4000000 in
theorem wl_X12_again_53 (l : Launch) {V : Int32 × St} (C0 : XC D ct p s m args meth c cX12_again 7 (some .int) RX12) (n0 : Nat) (ih0 : ∀ (v1 : Int32) (v2 : Int32) (v3 : Int32) (v4 : Int32) (S : St) (H : Heap) (locs : List Loc) (ls : Array Slot), (lp n0 (l_X12_again_35) (v1, v2, v3, v4, S)).bind some = some V → MP D ct B Hb S H → va_S (AB B) s.heap H locs → lv_has ls 7 [(0, .ref (B + 136)), (1, .int v1), (2, .int v2), (3, .int v3), (4, .int v4)] → W p l e { frames := 7, cells := 0, slots := 0, locals := 160 } s m args below meth c H locs 0 0 (MQ below (qIw D ct B Hb V) args s 0 0 (AB B)) (F0 m 35 ls []))  : ∀ (n1 : Nat) (v1 : Int32) (v4 : Int32) (v5 : Int32) (S : St) {H : Heap} {locs : List Loc} {ls : Array Slot}, (lp n1 (l_X12_again_53) (v1, v4, v5, S)).bind (lpF n0 (l_X12_again_35) some) = some V → MP D ct B Hb S H → va_S (AB B) s.heap H locs → lv_has ls 7 [(0, .ref (B + 136)), (1, .int v1), (4, .int v4), (5, .int v5)] → W p l e { frames := 7, cells := 0, slots := 0, locals := 160 } s m args below meth c H locs 0 0 (MQ below (qIw D ct B Hb V) args s 0 0 (AB B)) (F0 m 53 ls []) := by
  intro n1
  induction n1 with
  | zero =>
    intro v1 v4 v5 S H locs ls h hP hS hl
    exact (lp_0 h).elim
  | succ n1 ih1 =>
    intro v1 v4 v5 S H locs ls h hP hS hl
    have h := lp_s h
    exact w_X12_again_53 l C0 n0 ih0 n1 (fun v1 v4 v5 S H locs ls h hP hS hl => ih1 v1 v4 v5 S h hP hS hl) v1 v4 v5 S h hP hS hl
set_option maxRecDepth 100000 in
set_option maxHeartbeats 4000000 in
theorem w_X12_again_35 (l : Launch) {V : Int32 × St} (C0 : XC D ct p s m args meth c cX12_again 7 (some .int) RX12) (n0 : Nat) (ih0 : ∀ (v1 : Int32) (v2 : Int32) (v3 : Int32) (v4 : Int32) (S : St) (H : Heap) (locs : List Loc) (ls : Array Slot), (lp n0 (l_X12_again_35) (v1, v2, v3, v4, S)).bind some = some V → MP D ct B Hb S H → va_S (AB B) s.heap H locs → lv_has ls 7 [(0, .ref (B + 136)), (1, .int v1), (2, .int v2), (3, .int v3), (4, .int v4)] → W p l e { frames := 7, cells := 0, slots := 0, locals := 160 } s m args below meth c H locs 0 0 (MQ below (qIw D ct B Hb V) args s 0 0 (AB B)) (F0 m 35 ls [])) (v1 : Int32) (v2 : Int32) (v3 : Int32) (v4 : Int32) (S : St) {H : Heap} {locs : List Loc} {ls : Array Slot} (h : (b_X12_again_35 v1 v2 v3 v4 S).bind (lpF n0 (l_X12_again_35) some) = some V) (hP : MP D ct B Hb S H) (hS : va_S (AB B) s.heap H locs) (hl : lv_has ls 7 [(0, .ref (B + 136)), (1, .int v1), (2, .int v2), (3, .int v3), (4, .int v4)]) : W p l e { frames := 7, cells := 0, slots := 0, locals := 160 } s m args below meth c H locs 0 0 (MQ below (qIw D ct B Hb V) args s 0 0 (AB B)) (F0 m 35 ls []) := by
  obtain ⟨hx, hb, hr, hml, hown, hts, hK, hlocks, hN⟩ := id C0
  unfold b_X12_again_35 at h
  refine lv_iload hx hb dX12_again_35 (lv_at hl 4 rfl) ?_
  refine lv_bipush (v := 40) hx hb dX12_again_37 (by decide) ?_
  refine lv_icmp_gt (tgt := 163) hx hb dX12_again_39 (by decide) (fun z1 => ?_) (fun z1 => ?_)
  · have h := ob_t h z1
    have h := ob_mp h
    exact w_X12_again_163 l C0 v1 v2 v3 S h hP hS (lv_sub hl [0, 1, 2, 3] rfl)
  · have h := ob_f h z1
    refine lv_iload_n hx hb dX12_again_42 rfl (lv_at hl 2 rfl) ?_
    refine lv_if_ge (tgt := 163) hx hb dX12_again_43 (by decide) (fun z2 => ?_) (fun z2 => ?_)
    · have h := ob_t h z2
      have h := ob_mp h
      exact w_X12_again_163 l C0 v1 v2 v3 S h hP hS (lv_sub hl [0, 1, 2, 3] rfl)
    · have h := ob_f h z2
      refine lv_aload_n hx hb dX12_again_46 rfl (lv_at hl 0 rfl) ?_
      obtain ⟨r3, hr3, h⟩ := ob_bd h
      refine n_Vw (kV (As := []) C0 (c_X12_day l hr3) ⟨wd_1539, wd_1536, wd_1538, wp_43, wd_6⟩ kd_X12_day ⟨Nat.le_of_ble_eq_true rfl, Nat.le_of_ble_eq_true rfl⟩ hP (lay_X12 B ct S) rfl rfl hl.1 rfl (Nat.le_of_ble_eq_true rfl) dX12_again_47 ⟨Nat.le_of_ble_eq_true rfl, Nat.le_of_ble_eq_true rfl⟩) hS (fun H locs hP hS => ?_)
      refine lv_iconst (v := 0) hx hb dX12_again_50 (by decide) ?_
      refine lv_istore (lv' := [(5, .int 0), (0, .ref (B + 136)), (1, .int v1), (2, .int v2), (3, .int v3), (4, .int v4)]) hx hb dX12_again_51 hl (by decide) rfl (fun ls hl => ?_)
      exact wl_X12_again_53 l C0 n0 ih0 1000 v1 v4 0 r3 h hP hS (lv_sub hl [1, 2, 5, 0] rfl)
set_option maxRecDepth 100000 in
set_option maxHeartbeats 4000000 in
theorem wl_X12_again_35 (l : Launch) {V : Int32 × St} (C0 : XC D ct p s m args meth c cX12_again 7 (some .int) RX12)  : ∀ (n0 : Nat) (v1 : Int32) (v2 : Int32) (v3 : Int32) (v4 : Int32) (S : St) {H : Heap} {locs : List Loc} {ls : Array Slot}, (lp n0 (l_X12_again_35) (v1, v2, v3, v4, S)).bind some = some V → MP D ct B Hb S H → va_S (AB B) s.heap H locs → lv_has ls 7 [(0, .ref (B + 136)), (1, .int v1), (2, .int v2), (3, .int v3), (4, .int v4)] → W p l e { frames := 7, cells := 0, slots := 0, locals := 160 } s m args below meth c H locs 0 0 (MQ below (qIw D ct B Hb V) args s 0 0 (AB B)) (F0 m 35 ls []) := by
  intro n0
  induction n0 with
  | zero =>
    intro v1 v2 v3 v4 S H locs ls h hP hS hl
    exact (lp_0 h).elim
  | succ n0 ih0 =>
    intro v1 v2 v3 v4 S H locs ls h hP hS hl
    have h := lp_s h
    exact w_X12_again_35 l C0 n0 (fun v1 v2 v3 v4 S H locs ls h hP hS hl => ih0 v1 v2 v3 v4 S h hP hS hl) v1 v2 v3 v4 S h hP hS hl
set_option maxRecDepth 100000 in
set_option maxHeartbeats 4000000 in
theorem w_X12_again_0 (l : Launch) {V : Int32 × St} (C0 : XC D ct p s m args meth c cX12_again 7 (some .int) RX12) (v1 : Int32) (S : St) {H : Heap} {locs : List Loc} {ls : Array Slot} (h : (b_X12_again_0 v1 S).bind some = some V) (hP : MP D ct B Hb S H) (hS : va_S (AB B) s.heap H locs) (hl : lv_has ls 7 [(0, .ref (B + 136)), (1, .int v1)]) : W p l e { frames := 7, cells := 0, slots := 0, locals := 160 } s m args below meth c H locs 0 0 (MQ below (qIw D ct B Hb V) args s 0 0 (AB B)) (F0 m 0 ls []) := by
  obtain ⟨hx, hb, hr, hml, hown, hts, hK, hlocks, hN⟩ := id C0
  unfold b_X12_again_0 at h
  refine lv_aload_n hx hb dX12_again_0 rfl (lv_at hl 0 rfl) ?_
  refine lv_iconst (v := 0) hx hb dX12_again_1 (by decide) ?_
  obtain ⟨S1, eS1, h⟩ := ob_nm h
  refine x_put (S' := si S 136 28 0) (FS := (fs12 B)) C0 hP hS (fun S => lay_X12 B ct S) rfl inG12 tyX12 tyX12_ok nmX12 28 (by decide) wd_1169 rfl rfl (fun a ha => lay_local (gi_si_n _ _ _ ha) rfl rfl rfl) (put_12_28 B _ _) rfl rfl (Nat.le_of_ble_eq_true rfl) dX12_again_2 (fun H locs hP hS => ?_)
  rw [← eS1] at hP
  refine lv_iload_n hx hb dX12_again_5 rfl (lv_at hl 1 rfl) ?_
  refine lv_i2l hx hb dX12_again_6 rfl ?_
  refine lv_lconst (v := 0) hx hb dX12_again_7 (by decide) ?_
  refine lv_lconst (v := 1) hx hb dX12_again_8 (by decide) ?_
  obtain ⟨r2, hr2, h⟩ := ob_bd h
  refine n_I (kS (As := [.long v1.toInt64, .long 0, .long 1]) C0 (c_X12_in l v1.toInt64 0 1 hr2) ⟨wd_1370, wd_1368, wd_1369, wd_6⟩ kd_X12_in ⟨Nat.le_of_ble_eq_true rfl, Nat.le_of_ble_eq_true rfl⟩ hP rfl hl.1 rfl (Nat.le_of_ble_eq_true rfl) dX12_again_9 ⟨Nat.le_of_ble_eq_true rfl, Nat.le_of_ble_eq_true rfl⟩) hS (fun H locs hP hS => ?_)
  refine lv_if_ne (tgt := 17) hx hb dX12_again_12 (by decide) (fun z3 => ?_) (fun z3 => ?_)
  · have h := ob_f h z3
    refine lv_aload_n hx hb dX12_again_17 rfl (lv_at hl 0 rfl) ?_
    obtain ⟨r4, hr4, h⟩ := ob_bd h
    refine n_Vw (kV (As := []) C0 (c_X12_open l hr4) ⟨wd_1399, wd_1396, wd_1398, wp_28, wd_6⟩ kd_X12_open ⟨Nat.le_of_ble_eq_true rfl, Nat.le_of_ble_eq_true rfl⟩ hP (lay_X12 B ct S1) rfl rfl hl.1 rfl (Nat.le_of_ble_eq_true rfl) dX12_again_18 ⟨Nat.le_of_ble_eq_true rfl, Nat.le_of_ble_eq_true rfl⟩) hS (fun H locs hP hS => ?_)
    refine lv_aload_n hx hb dX12_again_21 rfl (lv_at hl 0 rfl) ?_
    refine lv_iconst (v := 0) hx hb dX12_again_22 (by decide) ?_
    obtain ⟨r5, hr5, h⟩ := ob_bd h
    refine n_Vw (kV (As := [.int 0]) C0 (c_X12_keepMoods l 0 hr5) ⟨wd_1715, wd_1712, wd_1714, wp_64, wd_6⟩ kd_X12_keepMoods ⟨Nat.le_of_ble_eq_true rfl, Nat.le_of_ble_eq_true rfl⟩ hP (lay_X12 B ct r4) rfl rfl hl.1 rfl (Nat.le_of_ble_eq_true rfl) dX12_again_23 ⟨Nat.le_of_ble_eq_true rfl, Nat.le_of_ble_eq_true rfl⟩) hS (fun H locs hP hS => ?_)
    refine lv_bipush (v := (-4)) hx hb dX12_again_26 (by decide) ?_
    refine lv_istore_n (lv' := [(2, .int ((-4))), (0, .ref (B + 136)), (1, .int v1)]) hx hb dX12_again_28 rfl hl (by decide) rfl (fun ls hl => ?_)
    refine lv_bipush (v := (-4)) hx hb dX12_again_29 (by decide) ?_
    refine lv_istore_n (lv' := [(3, .int ((-4))), (2, .int ((-4))), (0, .ref (B + 136)), (1, .int v1)]) hx hb dX12_again_31 rfl hl (by decide) rfl (fun ls hl => ?_)
    refine lv_iconst (v := 1) hx hb dX12_again_32 (by decide) ?_
    refine lv_istore (lv' := [(4, .int 1), (3, .int ((-4))), (2, .int ((-4))), (0, .ref (B + 136)), (1, .int v1)]) hx hb dX12_again_33 hl (by decide) rfl (fun ls hl => ?_)
    exact wl_X12_again_35 l C0 1000 v1 ((-4)) ((-4)) 1 r5 h hP hS (lv_sub hl [3, 4, 2, 1, 0] rfl)
  · have h := ob_t h z3
    refine lv_iconst (v := (-1)) hx hb dX12_again_15 (by decide) ?_
    exact r_Iw C0 hP hS h dX12_again_16
set_option maxRecDepth 100000 in
set_option maxHeartbeats 4000000 in
theorem c_X12_again (l : Launch) (a1 : Int32) {D : va_G} {ct : Nat → ClassId} {B : Nat} {Hb : Heap} {S : St} {V : Int32 × St} (h : L_X12_again a1 S = some V) : Met l yX12_again (Cond.code yX12_again cX12_again 7 (some .int) :: tG) { frames := 7, cells := 0, slots := 0, locals := 160 } (va_Pc [.ref (B + 136), .int a1] (MPK D ct B Hb S)) (qIw D ct B Hb V) 0 0 (AB B) := by
  refine mk_met (by decide +kernel) (Nat.le_of_ble_eq_true rfl) (fun p e s m args below meth c ls C0 hP hl _ => ?_)
  have h := ob_of h
  exact w_X12_again_0 l C0 a1 S h hP va_S.rf (lv_sub hl [0, 1] rfl)
set_option maxRecDepth 100000 in
set_option maxHeartbeats 4000000 in
theorem w_X12_skipped_0 (l : Launch) {V : Int64} (C0 : XC D ct p s m args meth c cX12_skipped 2 (some .long) RX12) (v1 : Int32) (S : St) {H : Heap} {locs : List Loc} {ls : Array Slot} (h : (b_X12_skipped_0 v1 S).bind some = some V) (hP : MP D ct B Hb S H) (hS : va_S (AB B) s.heap H locs) (hl : lv_has ls 2 [(0, .ref (B + 136)), (1, .int v1)]) : W p l e { frames := 0, cells := 0, slots := 0, locals := 0 } s m args below meth c H locs 0 0 (MQ below (qL D ct B Hb S V) args s 0 0 (AB B)) (F0 m 0 ls []) := by
  obtain ⟨hx, hb, hr, hml, hown, hts, hK, hlocks, hN⟩ := id C0
  unfold b_X12_skipped_0 at h
  refine lv_aload_n hx hb dX12_skipped_0 rfl (lv_at hl 0 rfl) ?_
  refine x_get C0 hP (lay_X12 B ct S) rfl inG12 25 (by decide) wd_1166 (fun _ h => h) rfl dX12_skipped_1 ?_
  refine lv_iload_n hx hb dX12_skipped_4 rfl (lv_at hl 1 rfl) ?_
  obtain ⟨g1, h⟩ := ob_gd h
  refine x_iald C0 hP ((fun S => lay_156 B ct S) S) g1 dX12_skipped_5 ?_
  refine lv_if_ne (tgt := 15) hx hb dX12_skipped_6 (by decide) (fun z2 => ?_) (fun z2 => ?_)
  · have h := ob_f h z2
    refine lv_aload_n hx hb dX12_skipped_15 rfl (lv_at hl 0 rfl) ?_
    refine x_get C0 hP (lay_X12 B ct S) rfl inG12 25 (by decide) wd_1166 (fun _ h => h) rfl dX12_skipped_16 ?_
    refine lv_iload_n hx hb dX12_skipped_19 rfl (lv_at hl 1 rfl) ?_
    obtain ⟨g3, h⟩ := ob_gd h
    refine x_iald C0 hP ((fun S => lay_156 B ct S) S) g3 dX12_skipped_20 ?_
    refine lv_iconst (v := 1) hx hb dX12_skipped_21 (by decide) ?_
    refine lv_icmp_ne (tgt := 31) hx hb dX12_skipped_22 (by decide) (fun z4 => ?_) (fun z4 => ?_)
    · have h := ob_f h z4
      refine lv_ldc2 (v := (-2147483648)) hx hb hown (hts _ wd_1742) dX12_skipped_31 ?_
      exact r_L C0 hP hS h dX12_skipped_34
    · have h := ob_t h z4
      refine lv_ldc2 (v := (-32768)) hx hb hown (hts _ wd_1741) dX12_skipped_25 ?_
      refine lv_goto (tgt := 34) hx hb dX12_skipped_28 (by decide) ?_
      exact r_L C0 hP hS h dX12_skipped_34
  · have h := ob_t h z2
    refine lv_ldc2 (v := (-128)) hx hb hown (hts _ wd_1740) dX12_skipped_9 ?_
    refine lv_goto (tgt := 34) hx hb dX12_skipped_12 (by decide) ?_
    exact r_L C0 hP hS h dX12_skipped_34
set_option maxRecDepth 100000 in
set_option maxHeartbeats 4000000 in
theorem c_X12_skipped (l : Launch) (a1 : Int32) {D : va_G} {ct : Nat → ClassId} {B : Nat} {Hb : Heap} {S : St} {V : Int64} (h : L_X12_skipped a1 S = some V) : Met l yX12_skipped (Cond.code yX12_skipped cX12_skipped 2 (some .long) :: tG) { frames := 0, cells := 0, slots := 0, locals := 0 } (va_Pc [.ref (B + 136), .int a1] (MPK D ct B Hb S)) (qL D ct B Hb S V) 0 0 (AB B) := by
  refine mk_met (by decide +kernel) (Nat.le_of_ble_eq_true rfl) (fun p e s m args below meth c ls C0 hP hl _ => ?_)
  have h := ob_of h
  exact w_X12_skipped_0 l C0 a1 S h hP va_S.rf (lv_sub hl [0, 1] rfl)
set_option maxRecDepth 100000 in
set_option maxHeartbeats 4000000 in
theorem w_X12_fitsUpTo_61 (l : Launch) {V : Int32 × St} (C0 : XC D ct p s m args meth c cX12_fitsUpTo 3 (some .int) RX12) (n0 : Nat) (ih0 : ∀ (v1 : Int32) (v2 : Int32) (S : St) (H : Heap) (locs : List Loc) (ls : Array Slot), (lp n0 (l_X12_fitsUpTo_6) (v1, v2, S)).bind some = some V → MP D ct B Hb S H → va_S (AB B) s.heap H locs → lv_has ls 3 [(0, .ref (B + 136)), (1, .int v1), (2, .int v2)] → W p l e { frames := 7, cells := 0, slots := 0, locals := 160 } s m args below meth c H locs 0 0 (MQ below (qIw D ct B Hb V) args s 0 0 (AB B)) (F0 m 6 ls [])) (v1 : Int32) (v2 : Int32) (S : St) {H : Heap} {locs : List Loc} {ls : Array Slot} (h : (b_X12_fitsUpTo_61 v1 v2 S).bind (lpF n0 (l_X12_fitsUpTo_6) some) = some V) (hP : MP D ct B Hb S H) (hS : va_S (AB B) s.heap H locs) (hl : lv_has ls 3 [(0, .ref (B + 136)), (1, .int v1), (2, .int v2)]) : W p l e { frames := 7, cells := 0, slots := 0, locals := 160 } s m args below meth c H locs 0 0 (MQ below (qIw D ct B Hb V) args s 0 0 (AB B)) (F0 m 61 ls []) := by
  obtain ⟨hx, hb, hr, hml, hown, hts, hK, hlocks, hN⟩ := id C0
  unfold b_X12_fitsUpTo_61 at h
  refine lv_iinc (v := v2 + 1) (lv' := [(2, .int (v2 + 1)), (0, .ref (B + 136)), (1, .int v1)]) hx hb dX12_fitsUpTo_61 hl (k := 2) rfl rfl (by decide) rfl (fun ls hl => ?_)
  refine lv_goto (tgt := 6) hx hb dX12_fitsUpTo_64 (by decide) ?_
  exact ih0 v1 (v2 + 1) S _ _ _ h hP hS (lv_sub hl [1, 2, 0] rfl)
set_option maxRecDepth 100000 in
set_option maxHeartbeats 4000000 in
theorem w_X12_fitsUpTo_6 (l : Launch) {V : Int32 × St} (C0 : XC D ct p s m args meth c cX12_fitsUpTo 3 (some .int) RX12) (n0 : Nat) (ih0 : ∀ (v1 : Int32) (v2 : Int32) (S : St) (H : Heap) (locs : List Loc) (ls : Array Slot), (lp n0 (l_X12_fitsUpTo_6) (v1, v2, S)).bind some = some V → MP D ct B Hb S H → va_S (AB B) s.heap H locs → lv_has ls 3 [(0, .ref (B + 136)), (1, .int v1), (2, .int v2)] → W p l e { frames := 7, cells := 0, slots := 0, locals := 160 } s m args below meth c H locs 0 0 (MQ below (qIw D ct B Hb V) args s 0 0 (AB B)) (F0 m 6 ls [])) (v1 : Int32) (v2 : Int32) (S : St) {H : Heap} {locs : List Loc} {ls : Array Slot} (h : (b_X12_fitsUpTo_6 v1 v2 S).bind (lpF n0 (l_X12_fitsUpTo_6) some) = some V) (hP : MP D ct B Hb S H) (hS : va_S (AB B) s.heap H locs) (hl : lv_has ls 3 [(0, .ref (B + 136)), (1, .int v1), (2, .int v2)]) : W p l e { frames := 7, cells := 0, slots := 0, locals := 160 } s m args below meth c H locs 0 0 (MQ below (qIw D ct B Hb V) args s 0 0 (AB B)) (F0 m 6 ls []) := by
  obtain ⟨hx, hb, hr, hml, hown, hts, hK, hlocks, hN⟩ := id C0
  unfold b_X12_fitsUpTo_6 at h
  refine lv_iload_n hx hb dX12_fitsUpTo_6 rfl (lv_at hl 2 rfl) ?_
  refine lv_aload_n hx hb dX12_fitsUpTo_7 rfl (lv_at hl 0 rfl) ?_
  refine x_get C0 hP (lay_X12 B ct S) rfl inG12 26 (by decide) wd_1167 (fun _ h => h) rfl dX12_fitsUpTo_8 ?_
  refine lv_iload_n hx hb dX12_fitsUpTo_11 rfl (lv_at hl 1 rfl) ?_
  obtain ⟨g1, h⟩ := ob_gd h
  refine x_iald C0 hP ((fun S => lay_157 B ct S) S) g1 dX12_fitsUpTo_12 ?_
  refine lv_icmp_ge (tgt := 67) hx hb dX12_fitsUpTo_13 (by decide) (fun z2 => ?_) (fun z2 => ?_)
  · have h := ob_t h z2
    refine lv_iload_n hx hb dX12_fitsUpTo_67 rfl (lv_at hl 2 rfl) ?_
    exact r_Iw C0 hP hS h dX12_fitsUpTo_68
  · have h := ob_f h z2
    refine lv_aload_n hx hb dX12_fitsUpTo_16 rfl (lv_at hl 0 rfl) ?_
    refine x_get C0 hP (lay_X12 B ct S) rfl inG12 27 (by decide) wd_1168 (fun _ h => h) rfl dX12_fitsUpTo_17 ?_
    refine lv_bipush (v := 100) hx hb dX12_fitsUpTo_20 (by decide) ?_
    refine lv_iload_n hx hb dX12_fitsUpTo_22 rfl (lv_at hl 1 rfl) ?_
    refine lv_imul hx hb dX12_fitsUpTo_23 ?_
    refine lv_iload_n hx hb dX12_fitsUpTo_24 rfl (lv_at hl 2 rfl) ?_
    refine lv_iadd hx hb dX12_fitsUpTo_25 ?_
    obtain ⟨g3, h⟩ := ob_gd h
    refine x_lald C0 hP ((fun S => lay_158 B ct S) S) g3 dX12_fitsUpTo_26 ?_
    refine lv_aload_n hx hb dX12_fitsUpTo_27 rfl (lv_at hl 0 rfl) ?_
    refine lv_iload_n hx hb dX12_fitsUpTo_28 rfl (lv_at hl 1 rfl) ?_
    obtain ⟨r4, hr4, h⟩ := ob_bd h
    refine n_L (kV (As := [.int v1]) C0 (c_X12_skipped l v1 hr4) ⟨wd_1739, wd_1736, wd_1738, wp_69, wd_6⟩ kd_X12_skipped ⟨Nat.le_of_ble_eq_true rfl, Nat.le_of_ble_eq_true rfl⟩ hP (lay_X12 B ct S) rfl rfl hl.1 rfl (Nat.le_of_ble_eq_true rfl) dX12_fitsUpTo_29 ⟨Nat.le_of_ble_eq_true rfl, Nat.le_of_ble_eq_true rfl⟩) hS (fun H locs hP hS => ?_)
    refine W.lcmp hx hb dX12_fitsUpTo_32 ?_
    refine lv_if_eq (tgt := 61) hx hb dX12_fitsUpTo_33 (by decide) (fun z5 => ?_) (fun z5 => ?_)
    · have h := ob_t h z5
      exact w_X12_fitsUpTo_61 l C0 n0 ih0 v1 v2 S h hP hS (lv_sub hl [0, 1, 2] rfl)
    · have h := ob_f h z5
      refine lv_aload_n hx hb dX12_fitsUpTo_36 rfl (lv_at hl 0 rfl) ?_
      refine x_get C0 hP (lay_X12 B ct S) rfl inG12 27 (by decide) wd_1168 (fun _ h => h) rfl dX12_fitsUpTo_37 ?_
      refine lv_bipush (v := 100) hx hb dX12_fitsUpTo_40 (by decide) ?_
      refine lv_iload_n hx hb dX12_fitsUpTo_42 rfl (lv_at hl 1 rfl) ?_
      refine lv_imul hx hb dX12_fitsUpTo_43 ?_
      refine lv_iload_n hx hb dX12_fitsUpTo_44 rfl (lv_at hl 2 rfl) ?_
      refine lv_iadd hx hb dX12_fitsUpTo_45 ?_
      obtain ⟨g6, h⟩ := ob_gd h
      refine x_lald C0 hP ((fun S => lay_158 B ct S) S) g6 dX12_fitsUpTo_46 ?_
      refine lv_aload_n hx hb dX12_fitsUpTo_47 rfl (lv_at hl 0 rfl) ?_
      refine x_get C0 hP (lay_X12 B ct S) rfl inG12 32 (by decide) wd_1173 (fun _ h => h) rfl dX12_fitsUpTo_48 ?_
      refine lv_iload_n hx hb dX12_fitsUpTo_51 rfl (lv_at hl 2 rfl) ?_
      obtain ⟨g7, h⟩ := ob_gd h
      refine x_iald C0 hP ((fun S => lay_160 B ct S) S) g7 dX12_fitsUpTo_52 ?_
      obtain ⟨r8, hr8, h⟩ := ob_bd h
      refine n_I (kS (As := [.int (gi S 160 v2.toNatClampNeg)]) C0 (c_X12_told l (gi S 160 v2.toNatClampNeg) hr8) ⟨wd_1585, wd_1583, wd_1584, wd_6⟩ kd_X12_told ⟨Nat.le_of_ble_eq_true rfl, Nat.le_of_ble_eq_true rfl⟩ hP rfl hl.1 rfl (Nat.le_of_ble_eq_true rfl) dX12_fitsUpTo_53 ⟨Nat.le_of_ble_eq_true rfl, Nat.le_of_ble_eq_true rfl⟩) hS (fun H locs hP hS => ?_)
      refine lv_i2l hx hb dX12_fitsUpTo_56 rfl ?_
      refine W.lcmp hx hb dX12_fitsUpTo_57 ?_
      refine lv_if_ne (tgt := 67) hx hb dX12_fitsUpTo_58 (by decide) (fun z9 => ?_) (fun z9 => ?_)
      · have h := ob_f h z9
        refine lv_iload_n hx hb dX12_fitsUpTo_67 rfl (lv_at hl 2 rfl) ?_
        exact r_Iw C0 hP hS h dX12_fitsUpTo_68
      · have h := ob_t h z9
        exact w_X12_fitsUpTo_61 l C0 n0 ih0 v1 v2 S h hP hS (lv_sub hl [0, 1, 2] rfl)
set_option maxRecDepth 100000 in
set_option maxHeartbeats 4000000 in
theorem wl_X12_fitsUpTo_6 (l : Launch) {V : Int32 × St} (C0 : XC D ct p s m args meth c cX12_fitsUpTo 3 (some .int) RX12)  : ∀ (n0 : Nat) (v1 : Int32) (v2 : Int32) (S : St) {H : Heap} {locs : List Loc} {ls : Array Slot}, (lp n0 (l_X12_fitsUpTo_6) (v1, v2, S)).bind some = some V → MP D ct B Hb S H → va_S (AB B) s.heap H locs → lv_has ls 3 [(0, .ref (B + 136)), (1, .int v1), (2, .int v2)] → W p l e { frames := 7, cells := 0, slots := 0, locals := 160 } s m args below meth c H locs 0 0 (MQ below (qIw D ct B Hb V) args s 0 0 (AB B)) (F0 m 6 ls []) := by
  intro n0
  induction n0 with
  | zero =>
    intro v1 v2 S H locs ls h hP hS hl
    exact (lp_0 h).elim
  | succ n0 ih0 =>
    intro v1 v2 S H locs ls h hP hS hl
    have h := lp_s h
    exact w_X12_fitsUpTo_6 l C0 n0 (fun v1 v2 S H locs ls h hP hS hl => ih0 v1 v2 S h hP hS hl) v1 v2 S h hP hS hl
set_option maxRecDepth 100000 in
set_option maxHeartbeats 4000000 in
theorem w_X12_fitsUpTo_0 (l : Launch) {V : Int32 × St} (C0 : XC D ct p s m args meth c cX12_fitsUpTo 3 (some .int) RX12) (v1 : Int32) (S : St) {H : Heap} {locs : List Loc} {ls : Array Slot} (h : (b_X12_fitsUpTo_0 v1 S).bind some = some V) (hP : MP D ct B Hb S H) (hS : va_S (AB B) s.heap H locs) (hl : lv_has ls 3 [(0, .ref (B + 136)), (1, .int v1)]) : W p l e { frames := 7, cells := 0, slots := 0, locals := 160 } s m args below meth c H locs 0 0 (MQ below (qIw D ct B Hb V) args s 0 0 (AB B)) (F0 m 0 ls []) := by
  obtain ⟨hx, hb, hr, hml, hown, hts, hK, hlocks, hN⟩ := id C0
  unfold b_X12_fitsUpTo_0 at h
  refine lv_aload_n hx hb dX12_fitsUpTo_0 rfl (lv_at hl 0 rfl) ?_
  obtain ⟨r1, hr1, h⟩ := ob_bd h
  refine n_Vw (kV (As := []) C0 (c_X12_day l hr1) ⟨wd_1539, wd_1536, wd_1538, wp_43, wd_6⟩ kd_X12_day ⟨Nat.le_of_ble_eq_true rfl, Nat.le_of_ble_eq_true rfl⟩ hP (lay_X12 B ct S) rfl rfl hl.1 rfl (Nat.le_of_ble_eq_true rfl) dX12_fitsUpTo_1 ⟨Nat.le_of_ble_eq_true rfl, Nat.le_of_ble_eq_true rfl⟩) hS (fun H locs hP hS => ?_)
  refine lv_iconst (v := 0) hx hb dX12_fitsUpTo_4 (by decide) ?_
  refine lv_istore_n (lv' := [(2, .int 0), (0, .ref (B + 136)), (1, .int v1)]) hx hb dX12_fitsUpTo_5 rfl hl (by decide) rfl (fun ls hl => ?_)
  exact wl_X12_fitsUpTo_6 l C0 1000 v1 0 r1 h hP hS (lv_sub hl [1, 2, 0] rfl)
set_option maxRecDepth 100000 in
set_option maxHeartbeats 4000000 in
theorem c_X12_fitsUpTo (l : Launch) (a1 : Int32) {D : va_G} {ct : Nat → ClassId} {B : Nat} {Hb : Heap} {S : St} {V : Int32 × St} (h : L_X12_fitsUpTo a1 S = some V) : Met l yX12_fitsUpTo (Cond.code yX12_fitsUpTo cX12_fitsUpTo 3 (some .int) :: tG) { frames := 7, cells := 0, slots := 0, locals := 160 } (va_Pc [.ref (B + 136), .int a1] (MPK D ct B Hb S)) (qIw D ct B Hb V) 0 0 (AB B) := by
  refine mk_met (by decide +kernel) (Nat.le_of_ble_eq_true rfl) (fun p e s m args below meth c ls C0 hP hl _ => ?_)
  have h := ob_of h
  exact w_X12_fitsUpTo_0 l C0 a1 S h hP va_S.rf (lv_sub hl [0, 1] rfl)
set_option maxRecDepth 100000 in
set_option maxHeartbeats 4000000 in
theorem w_X12_wrongChoices_28 (l : Launch) {V : Int32} (C0 : XC D ct p s m args meth c cX12_wrongChoices 3 (some .int) RX12) (v2 : Int32) (S : St) {H : Heap} {locs : List Loc} {ls : Array Slot} (h : (b_X12_wrongChoices_28 v2 S).bind some = some V) (hP : MP D ct B Hb S H) (hS : va_S (AB B) s.heap H locs) (hl : lv_has ls 3 [(2, .int v2)]) : W p l e { frames := 2, cells := 0, slots := 0, locals := 46 } s m args below meth c H locs 0 0 (MQ below (qI D ct B Hb S V) args s 0 0 (AB B)) (F0 m 28 ls []) := by
  obtain ⟨hx, hb, hr, hml, hown, hts, hK, hlocks, hN⟩ := id C0
  unfold b_X12_wrongChoices_28 at h
  refine lv_iload_n hx hb dX12_wrongChoices_28 rfl (lv_at hl 0 rfl) ?_
  exact r_I C0 hP hS h dX12_wrongChoices_29
set_option maxRecDepth 100000 in
set_option maxHeartbeats 4000000 in
theorem w_X12_wrongChoices_0 (l : Launch) {V : Int32} (C0 : XC D ct p s m args meth c cX12_wrongChoices 3 (some .int) RX12) (v1 : Int32) (S : St) {H : Heap} {locs : List Loc} {ls : Array Slot} (h : (b_X12_wrongChoices_0 v1 S).bind some = some V) (hP : MP D ct B Hb S H) (hS : va_S (AB B) s.heap H locs) (hl : lv_has ls 3 [(0, .ref (B + 136)), (1, .int v1)]) : W p l e { frames := 2, cells := 0, slots := 0, locals := 46 } s m args below meth c H locs 0 0 (MQ below (qI D ct B Hb S V) args s 0 0 (AB B)) (F0 m 0 ls []) := by
  obtain ⟨hx, hb, hr, hml, hown, hts, hK, hlocks, hN⟩ := id C0
  unfold b_X12_wrongChoices_0 at h
  refine lv_aload_n hx hb dX12_wrongChoices_0 rfl (lv_at hl 0 rfl) ?_
  refine lv_iload_n hx hb dX12_wrongChoices_1 rfl (lv_at hl 1 rfl) ?_
  obtain ⟨r1, hr1, h⟩ := ob_bd h
  refine n_I (kV (As := [.int v1]) C0 (c_X12_wrongRow l v1 hr1) ⟨wd_1366, wd_1363, wd_1365, wp_22, wd_6⟩ kd_X12_wrongRow ⟨Nat.le_of_ble_eq_true rfl, Nat.le_of_ble_eq_true rfl⟩ hP (lay_X12 B ct S) rfl rfl hl.1 rfl (Nat.le_of_ble_eq_true rfl) dX12_wrongChoices_2 ⟨Nat.le_of_ble_eq_true rfl, Nat.le_of_ble_eq_true rfl⟩) hS (fun H locs hP hS => ?_)
  refine lv_istore_n (lv' := [(2, .int r1), (0, .ref (B + 136)), (1, .int v1)]) hx hb dX12_wrongChoices_5 rfl hl (by decide) rfl (fun ls hl => ?_)
  refine lv_iload_n hx hb dX12_wrongChoices_6 rfl (lv_at hl 0 rfl) ?_
  refine lv_if_ne (tgt := 28) hx hb dX12_wrongChoices_7 (by decide) (fun z2 => ?_) (fun z2 => ?_)
  · have h := ob_f h z2
    exact w_X12_wrongChoices_28 l C0 r1 S h hP hS (lv_sub hl [0] rfl)
  · have h := ob_t h z2
    refine lv_aload_n hx hb dX12_wrongChoices_10 rfl (lv_at hl 1 rfl) ?_
    refine x_get C0 hP (lay_X12 B ct S) rfl inG12 26 (by decide) wd_1167 (fun _ h => h) rfl dX12_wrongChoices_11 ?_
    refine lv_iload_n hx hb dX12_wrongChoices_14 rfl (lv_at hl 2 rfl) ?_
    obtain ⟨g3, h⟩ := ob_gd h
    refine x_iald C0 hP ((fun S => lay_157 B ct S) S) g3 dX12_wrongChoices_15 ?_
    refine lv_aload_n hx hb dX12_wrongChoices_16 rfl (lv_at hl 1 rfl) ?_
    refine x_get C0 hP (lay_X12 B ct S) rfl inG12 15 (by decide) wd_1156 (fun _ h => h) rfl dX12_wrongChoices_17 ?_
    refine lv_icmp_le (tgt := 28) hx hb dX12_wrongChoices_20 (by decide) (fun z4 => ?_) (fun z4 => ?_)
    · have h := ob_t h z4
      exact w_X12_wrongChoices_28 l C0 r1 S h hP hS (lv_sub hl [0] rfl)
    · have h := ob_f h z4
      refine lv_bipush (v := (-13)) hx hb dX12_wrongChoices_23 (by decide) ?_
      refine lv_goto (tgt := 29) hx hb dX12_wrongChoices_25 (by decide) ?_
      exact r_I C0 hP hS h dX12_wrongChoices_29
set_option maxRecDepth 100000 in
set_option maxHeartbeats 4000000 in
theorem c_X12_wrongChoices (l : Launch) (a1 : Int32) {D : va_G} {ct : Nat → ClassId} {B : Nat} {Hb : Heap} {S : St} {V : Int32} (h : L_X12_wrongChoices a1 S = some V) : Met l yX12_wrongChoices (Cond.code yX12_wrongChoices cX12_wrongChoices 3 (some .int) :: tG) { frames := 2, cells := 0, slots := 0, locals := 46 } (va_Pc [.ref (B + 136), .int a1] (MPK D ct B Hb S)) (qI D ct B Hb S V) 0 0 (AB B) := by
  refine mk_met (by decide +kernel) (Nat.le_of_ble_eq_true rfl) (fun p e s m args below meth c ls C0 hP hl _ => ?_)
  have h := ob_of h
  exact w_X12_wrongChoices_0 l C0 a1 S h hP va_S.rf (lv_sub hl [0, 1] rfl)
end WALKS
