theorem dX11_two_0 : decode cX11_two 0 = .ok (.aload_n 0, 1) := by decide +kernel
theorem dX11_two_1 : decode cX11_two 1 = .ok (.iload_n 1, 1) := by decide +kernel
theorem dX11_two_2 : decode cX11_two 2 = .ok (.invokevirtual 81, 3) := by decide +kernel
theorem dX11_two_5 : decode cX11_two 5 = .ok (.ifCond .ne 16, 3) := by decide +kernel
theorem dX11_two_8 : decode cX11_two 8 = .ok (.aload_n 0, 1) := by decide +kernel
theorem dX11_two_9 : decode cX11_two 9 = .ok (.iload_n 2, 1) := by decide +kernel
theorem dX11_two_10 : decode cX11_two 10 = .ok (.invokevirtual 81, 3) := by decide +kernel
theorem dX11_two_13 : decode cX11_two 13 = .ok (.ifCond .ne 8, 3) := by decide +kernel
theorem dX11_two_16 : decode cX11_two 16 = .ok (.iload_n 1, 1) := by decide +kernel
theorem dX11_two_17 : decode cX11_two 17 = .ok (.iload_n 2, 1) := by decide +kernel
theorem dX11_two_18 : decode cX11_two 18 = .ok (.if_icmp .ne 5, 3) := by decide +kernel
theorem dX11_two_21 : decode cX11_two 21 = .ok (.iconst (-1), 1) := by decide +kernel
theorem dX11_two_22 : decode cX11_two 22 = .ok (.ireturn, 1) := by decide +kernel
theorem dX11_two_23 : decode cX11_two 23 = .ok (.aload_n 0, 1) := by decide +kernel
theorem dX11_two_24 : decode cX11_two 24 = .ok (.getfield 16, 3) := by decide +kernel
theorem dX11_two_27 : decode cX11_two 27 = .ok (.aload_n 0, 1) := by decide +kernel
theorem dX11_two_28 : decode cX11_two 28 = .ok (.getfield 12, 3) := by decide +kernel
theorem dX11_two_31 : decode cX11_two 31 = .ok (.invokevirtual 74, 3) := by decide +kernel
theorem dX11_two_34 : decode cX11_two 34 = .ok (.iconst 0, 1) := by decide +kernel
theorem dX11_two_35 : decode cX11_two 35 = .ok (.istore_n 3, 1) := by decide +kernel
theorem dX11_two_36 : decode cX11_two 36 = .ok (.iload_n 3, 1) := by decide +kernel
theorem dX11_two_37 : decode cX11_two 37 = .ok (.iconst 3, 1) := by decide +kernel
theorem dX11_two_38 : decode cX11_two 38 = .ok (.if_icmp .ge 125, 3) := by decide +kernel
theorem dX11_two_41 : decode cX11_two 41 = .ok (.iconst 0, 1) := by decide +kernel
theorem dX11_two_42 : decode cX11_two 42 = .ok (.istore 4, 2) := by decide +kernel
theorem dX11_two_44 : decode cX11_two 44 = .ok (.iload 4, 2) := by decide +kernel
theorem dX11_two_46 : decode cX11_two 46 = .ok (.iconst 3, 1) := by decide +kernel
theorem dX11_two_47 : decode cX11_two 47 = .ok (.if_icmp .ge 110, 3) := by decide +kernel
theorem dX11_two_50 : decode cX11_two 50 = .ok (.aload_n 0, 1) := by decide +kernel
theorem dX11_two_51 : decode cX11_two 51 = .ok (.getfield 16, 3) := by decide +kernel
theorem dX11_two_54 : decode cX11_two 54 = .ok (.getfield 97, 3) := by decide +kernel
theorem dX11_two_57 : decode cX11_two 57 = .ok (.iload_n 1, 1) := by decide +kernel
theorem dX11_two_58 : decode cX11_two 58 = .ok (.bipush 23, 2) := by decide +kernel
theorem dX11_two_60 : decode cX11_two 60 = .ok (.aload_n 0, 1) := by decide +kernel
theorem dX11_two_61 : decode cX11_two 61 = .ok (.getfield 12, 3) := by decide +kernel
theorem dX11_two_64 : decode cX11_two 64 = .ok (.getfield 97, 3) := by decide +kernel
theorem dX11_two_67 : decode cX11_two 67 = .ok (.iload_n 1, 1) := by decide +kernel
theorem dX11_two_68 : decode cX11_two 68 = .ok (.iaload, 1) := by decide +kernel
theorem dX11_two_69 : decode cX11_two 69 = .ok (.iload_n 3, 1) := by decide +kernel
theorem dX11_two_70 : decode cX11_two 70 = .ok (.iadd, 1) := by decide +kernel
theorem dX11_two_71 : decode cX11_two 71 = .ok (.invokestatic 242, 3) := by decide +kernel
theorem dX11_two_74 : decode cX11_two 74 = .ok (.iastore, 1) := by decide +kernel
theorem dX11_two_75 : decode cX11_two 75 = .ok (.aload_n 0, 1) := by decide +kernel
theorem dX11_two_76 : decode cX11_two 76 = .ok (.getfield 16, 3) := by decide +kernel
theorem dX11_two_79 : decode cX11_two 79 = .ok (.getfield 97, 3) := by decide +kernel
theorem dX11_two_82 : decode cX11_two 82 = .ok (.iload_n 2, 1) := by decide +kernel
theorem dX11_two_83 : decode cX11_two 83 = .ok (.bipush 23, 2) := by decide +kernel
theorem dX11_two_85 : decode cX11_two 85 = .ok (.aload_n 0, 1) := by decide +kernel
theorem dX11_two_86 : decode cX11_two 86 = .ok (.getfield 12, 3) := by decide +kernel
theorem dX11_two_89 : decode cX11_two 89 = .ok (.getfield 97, 3) := by decide +kernel
theorem dX11_two_92 : decode cX11_two 92 = .ok (.iload_n 2, 1) := by decide +kernel
theorem dX11_two_93 : decode cX11_two 93 = .ok (.iaload, 1) := by decide +kernel
theorem dX11_two_94 : decode cX11_two 94 = .ok (.iload 4, 2) := by decide +kernel
theorem dX11_two_96 : decode cX11_two 96 = .ok (.iadd, 1) := by decide +kernel
theorem dX11_two_97 : decode cX11_two 97 = .ok (.invokestatic 242, 3) := by decide +kernel
theorem dX11_two_100 : decode cX11_two 100 = .ok (.iastore, 1) := by decide +kernel
theorem dX11_two_101 : decode cX11_two 101 = .ok (.aload_n 0, 1) := by decide +kernel
theorem dX11_two_102 : decode cX11_two 102 = .ok (.getfield 31, 3) := by decide +kernel
theorem dX11_two_105 : decode cX11_two 105 = .ok (.aload_n 0, 1) := by decide +kernel
theorem dX11_two_106 : decode cX11_two 106 = .ok (.getfield 16, 3) := by decide +kernel
theorem dX11_two_109 : decode cX11_two 109 = .ok (.iconst (-1), 1) := by decide +kernel
theorem dX11_two_110 : decode cX11_two 110 = .ok (.invokevirtual 166, 3) := by decide +kernel
theorem dX11_two_113 : decode cX11_two 113 = .ok (.aload_n 0, 1) := by decide +kernel
theorem dX11_two_114 : decode cX11_two 114 = .ok (.getfield 60, 3) := by decide +kernel
theorem dX11_two_117 : decode cX11_two 117 = .ok (.iload_n 3, 1) := by decide +kernel
theorem dX11_two_118 : decode cX11_two 118 = .ok (.aaload, 1) := by decide +kernel
theorem dX11_two_119 : decode cX11_two 119 = .ok (.iload 4, 2) := by decide +kernel
theorem dX11_two_121 : decode cX11_two 121 = .ok (.aload_n 0, 1) := by decide +kernel
theorem dX11_two_122 : decode cX11_two 122 = .ok (.getfield 31, 3) := by decide +kernel
theorem dX11_two_125 : decode cX11_two 125 = .ok (.iload_n 1, 1) := by decide +kernel
theorem dX11_two_126 : decode cX11_two 126 = .ok (.bipush 23, 2) := by decide +kernel
theorem dX11_two_128 : decode cX11_two 128 = .ok (.invokevirtual 245, 3) := by decide +kernel
theorem dX11_two_131 : decode cX11_two 131 = .ok (.iastore, 1) := by decide +kernel
theorem dX11_two_132 : decode cX11_two 132 = .ok (.aload_n 0, 1) := by decide +kernel
theorem dX11_two_133 : decode cX11_two 133 = .ok (.getfield 63, 3) := by decide +kernel
theorem dX11_two_136 : decode cX11_two 136 = .ok (.iload 4, 2) := by decide +kernel
theorem dX11_two_138 : decode cX11_two 138 = .ok (.aaload, 1) := by decide +kernel
theorem dX11_two_139 : decode cX11_two 139 = .ok (.iload_n 3, 1) := by decide +kernel
theorem dX11_two_140 : decode cX11_two 140 = .ok (.aload_n 0, 1) := by decide +kernel
theorem dX11_two_141 : decode cX11_two 141 = .ok (.getfield 31, 3) := by decide +kernel
theorem dX11_two_144 : decode cX11_two 144 = .ok (.iload_n 2, 1) := by decide +kernel
theorem dX11_two_145 : decode cX11_two 145 = .ok (.bipush 23, 2) := by decide +kernel
theorem dX11_two_147 : decode cX11_two 147 = .ok (.invokevirtual 245, 3) := by decide +kernel
theorem dX11_two_150 : decode cX11_two 150 = .ok (.iastore, 1) := by decide +kernel
theorem dX11_two_151 : decode cX11_two 151 = .ok (.iinc 4 1, 3) := by decide +kernel
theorem dX11_two_154 : decode cX11_two 154 = .ok (.goto (-110), 3) := by decide +kernel
theorem dX11_two_157 : decode cX11_two 157 = .ok (.iinc 3 1, 3) := by decide +kernel
theorem dX11_two_160 : decode cX11_two 160 = .ok (.goto (-124), 3) := by decide +kernel
theorem dX11_two_163 : decode cX11_two 163 = .ok (.iconst 0, 1) := by decide +kernel
theorem dX11_two_164 : decode cX11_two 164 = .ok (.istore_n 3, 1) := by decide +kernel
theorem dX11_two_165 : decode cX11_two 165 = .ok (.iload_n 3, 1) := by decide +kernel
theorem dX11_two_166 : decode cX11_two 166 = .ok (.iconst 3, 1) := by decide +kernel
theorem dX11_two_167 : decode cX11_two 167 = .ok (.if_icmp .ge 58, 3) := by decide +kernel
theorem dX11_two_170 : decode cX11_two 170 = .ok (.iconst 0, 1) := by decide +kernel
theorem dX11_two_171 : decode cX11_two 171 = .ok (.istore 4, 2) := by decide +kernel
theorem dX11_two_173 : decode cX11_two 173 = .ok (.iload 4, 2) := by decide +kernel
theorem dX11_two_175 : decode cX11_two 175 = .ok (.iconst 3, 1) := by decide +kernel
theorem dX11_two_176 : decode cX11_two 176 = .ok (.if_icmp .ge 43, 3) := by decide +kernel
theorem dX11_two_179 : decode cX11_two 179 = .ok (.aload_n 0, 1) := by decide +kernel
theorem dX11_two_180 : decode cX11_two 180 = .ok (.getfield 60, 3) := by decide +kernel
theorem dX11_two_183 : decode cX11_two 183 = .ok (.iload_n 3, 1) := by decide +kernel
theorem dX11_two_184 : decode cX11_two 184 = .ok (.iload 4, 2) := by decide +kernel
theorem dX11_two_186 : decode cX11_two 186 = .ok (.invokestatic 248, 3) := by decide +kernel
theorem dX11_two_189 : decode cX11_two 189 = .ok (.ifCond .eq 24, 3) := by decide +kernel
theorem dX11_two_192 : decode cX11_two 192 = .ok (.aload_n 0, 1) := by decide +kernel
theorem dX11_two_193 : decode cX11_two 193 = .ok (.getfield 63, 3) := by decide +kernel
theorem dX11_two_196 : decode cX11_two 196 = .ok (.iload 4, 2) := by decide +kernel
theorem dX11_two_198 : decode cX11_two 198 = .ok (.iload_n 3, 1) := by decide +kernel
theorem dX11_two_199 : decode cX11_two 199 = .ok (.invokestatic 248, 3) := by decide +kernel
theorem dX11_two_202 : decode cX11_two 202 = .ok (.ifCond .eq 11, 3) := by decide +kernel
theorem dX11_two_205 : decode cX11_two 205 = .ok (.bipush 10, 2) := by decide +kernel
theorem dX11_two_207 : decode cX11_two 207 = .ok (.iload_n 3, 1) := by decide +kernel
theorem dX11_two_208 : decode cX11_two 208 = .ok (.imul, 1) := by decide +kernel
theorem dX11_two_209 : decode cX11_two 209 = .ok (.iload 4, 2) := by decide +kernel
theorem dX11_two_211 : decode cX11_two 211 = .ok (.iadd, 1) := by decide +kernel
theorem dX11_two_212 : decode cX11_two 212 = .ok (.ireturn, 1) := by decide +kernel
theorem dX11_two_213 : decode cX11_two 213 = .ok (.iinc 4 1, 3) := by decide +kernel
theorem dX11_two_216 : decode cX11_two 216 = .ok (.goto (-43), 3) := by decide +kernel
theorem dX11_two_219 : decode cX11_two 219 = .ok (.iinc 3 1, 3) := by decide +kernel
theorem dX11_two_222 : decode cX11_two 222 = .ok (.goto (-57), 3) := by decide +kernel
theorem dX11_two_225 : decode cX11_two 225 = .ok (.bipush (-4), 2) := by decide +kernel
theorem dX11_two_227 : decode cX11_two 227 = .ok (.ireturn, 1) := by decide +kernel
theorem dX11_without_0 : decode cX11_without 0 = .ok (.aload_n 0, 1) := by decide +kernel
theorem dX11_without_1 : decode cX11_without 1 = .ok (.getfield 31, 3) := by decide +kernel
theorem dX11_without_4 : decode cX11_without 4 = .ok (.aload_n 0, 1) := by decide +kernel
theorem dX11_without_5 : decode cX11_without 5 = .ok (.getfield 12, 3) := by decide +kernel
theorem dX11_without_8 : decode cX11_without 8 = .ok (.iconst (-1), 1) := by decide +kernel
theorem dX11_without_9 : decode cX11_without 9 = .ok (.invokevirtual 166, 3) := by decide +kernel
theorem dX11_without_12 : decode cX11_without 12 = .ok (.iconst 0, 1) := by decide +kernel
theorem dX11_without_13 : decode cX11_without 13 = .ok (.istore_n 1, 1) := by decide +kernel
theorem dX11_without_14 : decode cX11_without 14 = .ok (.iconst 0, 1) := by decide +kernel
theorem dX11_without_15 : decode cX11_without 15 = .ok (.istore_n 2, 1) := by decide +kernel
theorem dX11_without_16 : decode cX11_without 16 = .ok (.iload_n 2, 1) := by decide +kernel
theorem dX11_without_17 : decode cX11_without 17 = .ok (.aload_n 0, 1) := by decide +kernel
theorem dX11_without_18 : decode cX11_without 18 = .ok (.getfield 12, 3) := by decide +kernel
theorem dX11_without_21 : decode cX11_without 21 = .ok (.getfield 185, 3) := by decide +kernel
theorem dX11_without_24 : decode cX11_without 24 = .ok (.if_icmp .ge 36, 3) := by decide +kernel
theorem dX11_without_27 : decode cX11_without 27 = .ok (.aload_n 0, 1) := by decide +kernel
theorem dX11_without_28 : decode cX11_without 28 = .ok (.getfield 31, 3) := by decide +kernel
theorem dX11_without_31 : decode cX11_without 31 = .ok (.getfield 193, 3) := by decide +kernel
theorem dX11_without_34 : decode cX11_without 34 = .ok (.iload_n 2, 1) := by decide +kernel
theorem dX11_without_35 : decode cX11_without 35 = .ok (.iaload, 1) := by decide +kernel
theorem dX11_without_36 : decode cX11_without 36 = .ok (.aload_n 0, 1) := by decide +kernel
theorem dX11_without_37 : decode cX11_without 37 = .ok (.getfield 31, 3) := by decide +kernel
theorem dX11_without_40 : decode cX11_without 40 = .ok (.getfield 173, 3) := by decide +kernel
theorem dX11_without_43 : decode cX11_without 43 = .ok (.iload_n 2, 1) := by decide +kernel
theorem dX11_without_44 : decode cX11_without 44 = .ok (.iaload, 1) := by decide +kernel
theorem dX11_without_45 : decode cX11_without 45 = .ok (.invokestatic 252, 3) := by decide +kernel
theorem dX11_without_48 : decode cX11_without 48 = .ok (.if_icmp .eq 6, 3) := by decide +kernel
theorem dX11_without_51 : decode cX11_without 51 = .ok (.iinc 1 1, 3) := by decide +kernel
theorem dX11_without_54 : decode cX11_without 54 = .ok (.iinc 2 1, 3) := by decide +kernel
theorem dX11_without_57 : decode cX11_without 57 = .ok (.goto (-41), 3) := by decide +kernel
theorem dX11_without_60 : decode cX11_without 60 = .ok (.iload_n 1, 1) := by decide +kernel
theorem dX11_without_61 : decode cX11_without 61 = .ok (.ireturn, 1) := by decide +kernel
theorem dX11_dayBegunAlike_0 : decode cX11_dayBegunAlike 0 = .ok (.iconst 0, 1) := by decide +kernel
theorem dX11_dayBegunAlike_1 : decode cX11_dayBegunAlike 1 = .ok (.istore_n 2, 1) := by decide +kernel
theorem dX11_dayBegunAlike_2 : decode cX11_dayBegunAlike 2 = .ok (.iload_n 2, 1) := by decide +kernel
theorem dX11_dayBegunAlike_3 : decode cX11_dayBegunAlike 3 = .ok (.iload_n 1, 1) := by decide +kernel
theorem dX11_dayBegunAlike_4 : decode cX11_dayBegunAlike 4 = .ok (.if_icmp .ge 67, 3) := by decide +kernel
theorem dX11_dayBegunAlike_7 : decode cX11_dayBegunAlike 7 = .ok (.iconst 1, 1) := by decide +kernel
theorem dX11_dayBegunAlike_8 : decode cX11_dayBegunAlike 8 = .ok (.istore_n 3, 1) := by decide +kernel
theorem dX11_dayBegunAlike_9 : decode cX11_dayBegunAlike 9 = .ok (.iconst 0, 1) := by decide +kernel
theorem dX11_dayBegunAlike_10 : decode cX11_dayBegunAlike 10 = .ok (.istore 4, 2) := by decide +kernel
theorem dX11_dayBegunAlike_12 : decode cX11_dayBegunAlike 12 = .ok (.iload 4, 2) := by decide +kernel
theorem dX11_dayBegunAlike_14 : decode cX11_dayBegunAlike 14 = .ok (.aload_n 0, 1) := by decide +kernel
theorem dX11_dayBegunAlike_15 : decode cX11_dayBegunAlike 15 = .ok (.getfield 16, 3) := by decide +kernel
theorem dX11_dayBegunAlike_18 : decode cX11_dayBegunAlike 18 = .ok (.getfield 185, 3) := by decide +kernel
theorem dX11_dayBegunAlike_21 : decode cX11_dayBegunAlike 21 = .ok (.if_icmp .ge 38, 3) := by decide +kernel
theorem dX11_dayBegunAlike_24 : decode cX11_dayBegunAlike 24 = .ok (.iload_n 3, 1) := by decide +kernel
theorem dX11_dayBegunAlike_25 : decode cX11_dayBegunAlike 25 = .ok (.aload_n 0, 1) := by decide +kernel
theorem dX11_dayBegunAlike_26 : decode cX11_dayBegunAlike 26 = .ok (.getfield 57, 3) := by decide +kernel
theorem dX11_dayBegunAlike_29 : decode cX11_dayBegunAlike 29 = .ok (.iload_n 2, 1) := by decide +kernel
theorem dX11_dayBegunAlike_30 : decode cX11_dayBegunAlike 30 = .ok (.aaload, 1) := by decide +kernel
theorem dX11_dayBegunAlike_31 : decode cX11_dayBegunAlike 31 = .ok (.iload 4, 2) := by decide +kernel
theorem dX11_dayBegunAlike_33 : decode cX11_dayBegunAlike 33 = .ok (.iaload, 1) := by decide +kernel
theorem dX11_dayBegunAlike_34 : decode cX11_dayBegunAlike 34 = .ok (.aload_n 0, 1) := by decide +kernel
theorem dX11_dayBegunAlike_35 : decode cX11_dayBegunAlike 35 = .ok (.getfield 57, 3) := by decide +kernel
theorem dX11_dayBegunAlike_38 : decode cX11_dayBegunAlike 38 = .ok (.iload_n 1, 1) := by decide +kernel
theorem dX11_dayBegunAlike_39 : decode cX11_dayBegunAlike 39 = .ok (.aaload, 1) := by decide +kernel
theorem dX11_dayBegunAlike_40 : decode cX11_dayBegunAlike 40 = .ok (.iload 4, 2) := by decide +kernel
theorem dX11_dayBegunAlike_42 : decode cX11_dayBegunAlike 42 = .ok (.iaload, 1) := by decide +kernel
theorem dX11_dayBegunAlike_43 : decode cX11_dayBegunAlike 43 = .ok (.if_icmp .ne 7, 3) := by decide +kernel
theorem dX11_dayBegunAlike_46 : decode cX11_dayBegunAlike 46 = .ok (.iconst 1, 1) := by decide +kernel
theorem dX11_dayBegunAlike_47 : decode cX11_dayBegunAlike 47 = .ok (.goto 4, 3) := by decide +kernel
theorem dX11_dayBegunAlike_50 : decode cX11_dayBegunAlike 50 = .ok (.iconst 0, 1) := by decide +kernel
theorem dX11_dayBegunAlike_51 : decode cX11_dayBegunAlike 51 = .ok (.iand, 1) := by decide +kernel
theorem dX11_dayBegunAlike_52 : decode cX11_dayBegunAlike 52 = .ok (.istore_n 3, 1) := by decide +kernel
theorem dX11_dayBegunAlike_53 : decode cX11_dayBegunAlike 53 = .ok (.iinc 4 1, 3) := by decide +kernel
theorem dX11_dayBegunAlike_56 : decode cX11_dayBegunAlike 56 = .ok (.goto (-44), 3) := by decide +kernel
theorem dX11_dayBegunAlike_59 : decode cX11_dayBegunAlike 59 = .ok (.iload_n 3, 1) := by decide +kernel
theorem dX11_dayBegunAlike_60 : decode cX11_dayBegunAlike 60 = .ok (.ifCond .eq 5, 3) := by decide +kernel
theorem dX11_dayBegunAlike_63 : decode cX11_dayBegunAlike 63 = .ok (.iload_n 2, 1) := by decide +kernel
theorem dX11_dayBegunAlike_64 : decode cX11_dayBegunAlike 64 = .ok (.ireturn, 1) := by decide +kernel
theorem dX11_dayBegunAlike_65 : decode cX11_dayBegunAlike 65 = .ok (.iinc 2 1, 3) := by decide +kernel
theorem dX11_dayBegunAlike_68 : decode cX11_dayBegunAlike 68 = .ok (.goto (-66), 3) := by decide +kernel
theorem dX11_dayBegunAlike_71 : decode cX11_dayBegunAlike 71 = .ok (.bipush (-4), 2) := by decide +kernel
theorem dX11_dayBegunAlike_73 : decode cX11_dayBegunAlike 73 = .ok (.ireturn, 1) := by decide +kernel
theorem dX11_again_0 : decode cX11_again 0 = .ok (.iload_n 1, 1) := by decide +kernel
theorem dX11_again_1 : decode cX11_again 1 = .ok (.iconst 0, 1) := by decide +kernel
theorem dX11_again_2 : decode cX11_again 2 = .ok (.iconst 1, 1) := by decide +kernel
theorem dX11_again_3 : decode cX11_again 3 = .ok (.invokestatic 110, 3) := by decide +kernel
theorem dX11_again_6 : decode cX11_again 6 = .ok (.ifCond .eq 5, 3) := by decide +kernel
theorem dX11_again_9 : decode cX11_again 9 = .ok (.iconst (-1), 1) := by decide +kernel
theorem dX11_again_10 : decode cX11_again 10 = .ok (.ireturn, 1) := by decide +kernel
theorem dX11_again_11 : decode cX11_again 11 = .ok (.aload_n 0, 1) := by decide +kernel
theorem dX11_again_12 : decode cX11_again 12 = .ok (.getfield 16, 3) := by decide +kernel
theorem dX11_again_15 : decode cX11_again 15 = .ok (.aload_n 0, 1) := by decide +kernel
theorem dX11_again_16 : decode cX11_again 16 = .ok (.getfield 12, 3) := by decide +kernel
theorem dX11_again_19 : decode cX11_again 19 = .ok (.invokevirtual 74, 3) := by decide +kernel
theorem dX11_again_22 : decode cX11_again 22 = .ok (.iconst 0, 1) := by decide +kernel
theorem dX11_again_23 : decode cX11_again 23 = .ok (.istore_n 2, 1) := by decide +kernel
theorem dX11_again_24 : decode cX11_again 24 = .ok (.iload_n 2, 1) := by decide +kernel
theorem dX11_again_25 : decode cX11_again 25 = .ok (.bipush 40, 2) := by decide +kernel
theorem dX11_again_27 : decode cX11_again 27 = .ok (.if_icmp .gt 132, 3) := by decide +kernel
theorem dX11_again_30 : decode cX11_again 30 = .ok (.aload_n 0, 1) := by decide +kernel
theorem dX11_again_31 : decode cX11_again 31 = .ok (.getfield 16, 3) := by decide +kernel
theorem dX11_again_34 : decode cX11_again 34 = .ok (.getfield 107, 3) := by decide +kernel
theorem dX11_again_37 : decode cX11_again 37 = .ok (.iconst 0, 1) := by decide +kernel
theorem dX11_again_38 : decode cX11_again 38 = .ok (.aload_n 0, 1) := by decide +kernel
theorem dX11_again_39 : decode cX11_again 39 = .ok (.getfield 57, 3) := by decide +kernel
theorem dX11_again_42 : decode cX11_again 42 = .ok (.iload_n 2, 1) := by decide +kernel
theorem dX11_again_43 : decode cX11_again 43 = .ok (.aaload, 1) := by decide +kernel
theorem dX11_again_44 : decode cX11_again 44 = .ok (.iconst 0, 1) := by decide +kernel
theorem dX11_again_45 : decode cX11_again 45 = .ok (.aload_n 0, 1) := by decide +kernel
theorem dX11_again_46 : decode cX11_again 46 = .ok (.getfield 16, 3) := by decide +kernel
theorem dX11_again_49 : decode cX11_again 49 = .ok (.getfield 185, 3) := by decide +kernel
theorem dX11_again_52 : decode cX11_again 52 = .ok (.invokestatic 255, 3) := by decide +kernel
theorem dX11_again_55 : decode cX11_again 55 = .ok (.aload_n 0, 1) := by decide +kernel
theorem dX11_again_56 : decode cX11_again 56 = .ok (.iload_n 2, 1) := by decide +kernel
theorem dX11_again_57 : decode cX11_again 57 = .ok (.invokevirtual 261, 3) := by decide +kernel
theorem dX11_again_60 : decode cX11_again 60 = .ok (.istore_n 3, 1) := by decide +kernel
theorem dX11_again_61 : decode cX11_again 61 = .ok (.iload_n 3, 1) := by decide +kernel
theorem dX11_again_62 : decode cX11_again 62 = .ok (.ifCond .lt 13, 3) := by decide +kernel
theorem dX11_again_65 : decode cX11_again 65 = .ok (.iload_n 1, 1) := by decide +kernel
theorem dX11_again_66 : decode cX11_again 66 = .ok (.ifCond .ne 7, 3) := by decide +kernel
theorem dX11_again_69 : decode cX11_again 69 = .ok (.iload_n 2, 1) := by decide +kernel
theorem dX11_again_70 : decode cX11_again 70 = .ok (.goto 4, 3) := by decide +kernel
theorem dX11_again_73 : decode cX11_again 73 = .ok (.iload_n 3, 1) := by decide +kernel
theorem dX11_again_74 : decode cX11_again 74 = .ok (.ireturn, 1) := by decide +kernel
theorem dX11_again_75 : decode cX11_again 75 = .ok (.aload_n 0, 1) := by decide +kernel
theorem dX11_again_76 : decode cX11_again 76 = .ok (.getfield 31, 3) := by decide +kernel
theorem dX11_again_79 : decode cX11_again 79 = .ok (.aload_n 0, 1) := by decide +kernel
theorem dX11_again_80 : decode cX11_again 80 = .ok (.getfield 16, 3) := by decide +kernel
theorem dX11_again_83 : decode cX11_again 83 = .ok (.iconst (-1), 1) := by decide +kernel
theorem dX11_again_84 : decode cX11_again 84 = .ok (.invokevirtual 166, 3) := by decide +kernel
theorem dX11_again_87 : decode cX11_again 87 = .ok (.iconst 0, 1) := by decide +kernel
theorem dX11_again_88 : decode cX11_again 88 = .ok (.istore 4, 2) := by decide +kernel
theorem dX11_again_90 : decode cX11_again 90 = .ok (.iload 4, 2) := by decide +kernel
theorem dX11_again_92 : decode cX11_again 92 = .ok (.aload_n 0, 1) := by decide +kernel
theorem dX11_again_93 : decode cX11_again 93 = .ok (.getfield 16, 3) := by decide +kernel
theorem dX11_again_96 : decode cX11_again 96 = .ok (.getfield 185, 3) := by decide +kernel
theorem dX11_again_99 : decode cX11_again 99 = .ok (.if_icmp .ge 54, 3) := by decide +kernel
theorem dX11_again_102 : decode cX11_again 102 = .ok (.aload_n 0, 1) := by decide +kernel
theorem dX11_again_103 : decode cX11_again 103 = .ok (.getfield 16, 3) := by decide +kernel
theorem dX11_again_106 : decode cX11_again 106 = .ok (.getfield 107, 3) := by decide +kernel
theorem dX11_again_109 : decode cX11_again 109 = .ok (.iload 4, 2) := by decide +kernel
theorem dX11_again_111 : decode cX11_again 111 = .ok (.iaload, 1) := by decide +kernel
theorem dX11_again_112 : decode cX11_again 112 = .ok (.aload_n 0, 1) := by decide +kernel
theorem dX11_again_113 : decode cX11_again 113 = .ok (.getfield 31, 3) := by decide +kernel
theorem dX11_again_116 : decode cX11_again 116 = .ok (.getfield 264, 3) := by decide +kernel
theorem dX11_again_119 : decode cX11_again 119 = .ok (.iload 4, 2) := by decide +kernel
theorem dX11_again_121 : decode cX11_again 121 = .ok (.iaload, 1) := by decide +kernel
theorem dX11_again_122 : decode cX11_again 122 = .ok (.iadd, 1) := by decide +kernel
theorem dX11_again_123 : decode cX11_again 123 = .ok (.istore 5, 2) := by decide +kernel
theorem dX11_again_125 : decode cX11_again 125 = .ok (.aload_n 0, 1) := by decide +kernel
theorem dX11_again_126 : decode cX11_again 126 = .ok (.getfield 16, 3) := by decide +kernel
theorem dX11_again_129 : decode cX11_again 129 = .ok (.getfield 107, 3) := by decide +kernel
theorem dX11_again_132 : decode cX11_again 132 = .ok (.iload 4, 2) := by decide +kernel
theorem dX11_again_134 : decode cX11_again 134 = .ok (.bipush (-9), 2) := by decide +kernel
theorem dX11_again_136 : decode cX11_again 136 = .ok (.bipush 9, 2) := by decide +kernel
theorem dX11_again_138 : decode cX11_again 138 = .ok (.iload 5, 2) := by decide +kernel
theorem dX11_again_140 : decode cX11_again 140 = .ok (.invokestatic 242, 3) := by decide +kernel
theorem dX11_again_143 : decode cX11_again 143 = .ok (.invokestatic 188, 3) := by decide +kernel
theorem dX11_again_146 : decode cX11_again 146 = .ok (.iastore, 1) := by decide +kernel
theorem dX11_again_147 : decode cX11_again 147 = .ok (.iinc 4 1, 3) := by decide +kernel
theorem dX11_again_150 : decode cX11_again 150 = .ok (.goto (-60), 3) := by decide +kernel
theorem dX11_again_153 : decode cX11_again 153 = .ok (.iinc 2 1, 3) := by decide +kernel
theorem dX11_again_156 : decode cX11_again 156 = .ok (.goto (-132), 3) := by decide +kernel
theorem dX11_again_159 : decode cX11_again 159 = .ok (.bipush (-4), 2) := by decide +kernel
theorem dX11_again_161 : decode cX11_again 161 = .ok (.ireturn, 1) := by decide +kernel
theorem dX11_toldChoicesRefusal_0 : decode cX11_toldChoicesRefusal 0 = .ok (.aload_n 0, 1) := by decide +kernel
theorem dX11_toldChoicesRefusal_1 : decode cX11_toldChoicesRefusal 1 = .ok (.iload_n 1, 1) := by decide +kernel
theorem dX11_toldChoicesRefusal_2 : decode cX11_toldChoicesRefusal 2 = .ok (.iconst 2, 1) := by decide +kernel
theorem dX11_toldChoicesRefusal_3 : decode cX11_toldChoicesRefusal 3 = .ok (.invokevirtual 66, 3) := by decide +kernel
theorem dX11_toldChoicesRefusal_6 : decode cX11_toldChoicesRefusal 6 = .ok (.istore_n 2, 1) := by decide +kernel
theorem dX11_toldChoicesRefusal_7 : decode cX11_toldChoicesRefusal 7 = .ok (.iload_n 2, 1) := by decide +kernel
theorem dX11_toldChoicesRefusal_8 : decode cX11_toldChoicesRefusal 8 = .ok (.ifCond .eq 5, 3) := by decide +kernel
theorem dX11_toldChoicesRefusal_11 : decode cX11_toldChoicesRefusal 11 = .ok (.iload_n 2, 1) := by decide +kernel
theorem dX11_toldChoicesRefusal_12 : decode cX11_toldChoicesRefusal 12 = .ok (.ireturn, 1) := by decide +kernel
theorem dX11_toldChoicesRefusal_13 : decode cX11_toldChoicesRefusal 13 = .ok (.aload_n 0, 1) := by decide +kernel
theorem dX11_toldChoicesRefusal_14 : decode cX11_toldChoicesRefusal 14 = .ok (.getfield 47, 3) := by decide +kernel
theorem dX11_toldChoicesRefusal_17 : decode cX11_toldChoicesRefusal 17 = .ok (.iload_n 1, 1) := by decide +kernel
theorem dX11_toldChoicesRefusal_18 : decode cX11_toldChoicesRefusal 18 = .ok (.aaload, 1) := by decide +kernel
theorem dX11_toldChoicesRefusal_19 : decode cX11_toldChoicesRefusal 19 = .ok (.getfield 274, 3) := by decide +kernel
theorem dX11_toldChoicesRefusal_22 : decode cX11_toldChoicesRefusal 22 = .ok (.aload_n 0, 1) := by decide +kernel
theorem dX11_toldChoicesRefusal_23 : decode cX11_toldChoicesRefusal 23 = .ok (.getfield 12, 3) := by decide +kernel
theorem dX11_toldChoicesRefusal_26 : decode cX11_toldChoicesRefusal 26 = .ok (.getfield 185, 3) := by decide +kernel
theorem dX11_toldChoicesRefusal_29 : decode cX11_toldChoicesRefusal 29 = .ok (.if_icmp .le 8, 3) := by decide +kernel
theorem dX11_toldChoicesRefusal_32 : decode cX11_toldChoicesRefusal 32 = .ok (.bipush (-13), 2) := by decide +kernel
theorem dX11_toldChoicesRefusal_34 : decode cX11_toldChoicesRefusal 34 = .ok (.goto 4, 3) := by decide +kernel
theorem dX11_toldChoicesRefusal_37 : decode cX11_toldChoicesRefusal 37 = .ok (.iconst 0, 1) := by decide +kernel
theorem dX11_toldChoicesRefusal_38 : decode cX11_toldChoicesRefusal 38 = .ok (.ireturn, 1) := by decide +kernel
theorem dX11_firstMisfit_0 : decode cX11_firstMisfit 0 = .ok (.aload_n 0, 1) := by decide +kernel
theorem dX11_firstMisfit_1 : decode cX11_firstMisfit 1 = .ok (.getfield 16, 3) := by decide +kernel
theorem dX11_firstMisfit_4 : decode cX11_firstMisfit 4 = .ok (.getfield 121, 3) := by decide +kernel
theorem dX11_firstMisfit_7 : decode cX11_firstMisfit 7 = .ok (.iconst 1, 1) := by decide +kernel
theorem dX11_firstMisfit_8 : decode cX11_firstMisfit 8 = .ok (.iload_n 2, 1) := by decide +kernel
theorem dX11_firstMisfit_9 : decode cX11_firstMisfit 9 = .ok (.iastore, 1) := by decide +kernel
theorem dX11_firstMisfit_10 : decode cX11_firstMisfit 10 = .ok (.aload_n 0, 1) := by decide +kernel
theorem dX11_firstMisfit_11 : decode cX11_firstMisfit 11 = .ok (.getfield 16, 3) := by decide +kernel
theorem dX11_firstMisfit_14 : decode cX11_firstMisfit 14 = .ok (.getfield 121, 3) := by decide +kernel
theorem dX11_firstMisfit_17 : decode cX11_firstMisfit 17 = .ok (.iconst 0, 1) := by decide +kernel
theorem dX11_firstMisfit_18 : decode cX11_firstMisfit 18 = .ok (.iload_n 3, 1) := by decide +kernel
theorem dX11_firstMisfit_19 : decode cX11_firstMisfit 19 = .ok (.iastore, 1) := by decide +kernel
theorem dX11_firstMisfit_20 : decode cX11_firstMisfit 20 = .ok (.aload_n 0, 1) := by decide +kernel
theorem dX11_firstMisfit_21 : decode cX11_firstMisfit 21 = .ok (.getfield 31, 3) := by decide +kernel
theorem dX11_firstMisfit_24 : decode cX11_firstMisfit 24 = .ok (.aload_n 0, 1) := by decide +kernel
theorem dX11_firstMisfit_25 : decode cX11_firstMisfit 25 = .ok (.getfield 16, 3) := by decide +kernel
theorem dX11_firstMisfit_28 : decode cX11_firstMisfit 28 = .ok (.iconst (-1), 1) := by decide +kernel
theorem dX11_firstMisfit_29 : decode cX11_firstMisfit 29 = .ok (.invokevirtual 166, 3) := by decide +kernel
theorem dX11_firstMisfit_32 : decode cX11_firstMisfit 32 = .ok (.iconst 0, 1) := by decide +kernel
theorem dX11_firstMisfit_33 : decode cX11_firstMisfit 33 = .ok (.istore 4, 2) := by decide +kernel
theorem dX11_firstMisfit_35 : decode cX11_firstMisfit 35 = .ok (.iload 4, 2) := by decide +kernel
theorem dX11_firstMisfit_37 : decode cX11_firstMisfit 37 = .ok (.aload_n 1, 1) := by decide +kernel
theorem dX11_firstMisfit_38 : decode cX11_firstMisfit 38 = .ok (.getfield 274, 3) := by decide +kernel
theorem dX11_firstMisfit_41 : decode cX11_firstMisfit 41 = .ok (.if_icmp .ge 51, 3) := by decide +kernel
theorem dX11_firstMisfit_44 : decode cX11_firstMisfit 44 = .ok (.iload 4, 2) := by decide +kernel
theorem dX11_firstMisfit_46 : decode cX11_firstMisfit 46 = .ok (.aload_n 0, 1) := by decide +kernel
theorem dX11_firstMisfit_47 : decode cX11_firstMisfit 47 = .ok (.getfield 16, 3) := by decide +kernel
theorem dX11_firstMisfit_50 : decode cX11_firstMisfit 50 = .ok (.getfield 185, 3) := by decide +kernel
theorem dX11_firstMisfit_53 : decode cX11_firstMisfit 53 = .ok (.if_icmp .ge 39, 3) := by decide +kernel
theorem dX11_firstMisfit_56 : decode cX11_firstMisfit 56 = .ok (.aload_n 1, 1) := by decide +kernel
theorem dX11_firstMisfit_57 : decode cX11_firstMisfit 57 = .ok (.iload 4, 2) := by decide +kernel
theorem dX11_firstMisfit_59 : decode cX11_firstMisfit 59 = .ok (.invokevirtual 277, 3) := by decide +kernel
theorem dX11_firstMisfit_62 : decode cX11_firstMisfit 62 = .ok (.ifCond .ne 24, 3) := by decide +kernel
theorem dX11_firstMisfit_65 : decode cX11_firstMisfit 65 = .ok (.aload_n 1, 1) := by decide +kernel
theorem dX11_firstMisfit_66 : decode cX11_firstMisfit 66 = .ok (.iload 4, 2) := by decide +kernel
theorem dX11_firstMisfit_68 : decode cX11_firstMisfit 68 = .ok (.invokevirtual 280, 3) := by decide +kernel
theorem dX11_firstMisfit_71 : decode cX11_firstMisfit 71 = .ok (.aload_n 0, 1) := by decide +kernel
theorem dX11_firstMisfit_72 : decode cX11_firstMisfit 72 = .ok (.getfield 31, 3) := by decide +kernel
theorem dX11_firstMisfit_75 : decode cX11_firstMisfit 75 = .ok (.iload 4, 2) := by decide +kernel
theorem dX11_firstMisfit_77 : decode cX11_firstMisfit 77 = .ok (.invokevirtual 347, 3) := by decide +kernel
theorem dX11_firstMisfit_80 : decode cX11_firstMisfit 80 = .ok (.if_icmp .eq 6, 3) := by decide +kernel
theorem dX11_firstMisfit_83 : decode cX11_firstMisfit 83 = .ok (.iload 4, 2) := by decide +kernel
theorem dX11_firstMisfit_85 : decode cX11_firstMisfit 85 = .ok (.ireturn, 1) := by decide +kernel
theorem dX11_firstMisfit_86 : decode cX11_firstMisfit 86 = .ok (.iinc 4 1, 3) := by decide +kernel
theorem dX11_firstMisfit_89 : decode cX11_firstMisfit 89 = .ok (.goto (-54), 3) := by decide +kernel
theorem dX11_firstMisfit_92 : decode cX11_firstMisfit 92 = .ok (.aload_n 1, 1) := by decide +kernel
theorem dX11_firstMisfit_93 : decode cX11_firstMisfit 93 = .ok (.getfield 274, 3) := by decide +kernel
theorem dX11_firstMisfit_96 : decode cX11_firstMisfit 96 = .ok (.ireturn, 1) := by decide +kernel
theorem dX11_explained_0 : decode cX11_explained 0 = .ok (.iload_n 2, 1) := by decide +kernel
theorem dX11_explained_1 : decode cX11_explained 1 = .ok (.iconst 0, 1) := by decide +kernel
theorem dX11_explained_2 : decode cX11_explained 2 = .ok (.iconst 1, 1) := by decide +kernel
theorem dX11_explained_3 : decode cX11_explained 3 = .ok (.invokestatic 110, 3) := by decide +kernel
theorem dX11_explained_6 : decode cX11_explained 6 = .ok (.ifCond .eq 5, 3) := by decide +kernel
theorem dX11_explained_9 : decode cX11_explained 9 = .ok (.iconst (-1), 1) := by decide +kernel
theorem dX11_explained_10 : decode cX11_explained 10 = .ok (.ireturn, 1) := by decide +kernel
theorem dX11_explained_11 : decode cX11_explained 11 = .ok (.aload_n 0, 1) := by decide +kernel
theorem dX11_explained_12 : decode cX11_explained 12 = .ok (.iload_n 1, 1) := by decide +kernel
theorem dX11_explained_13 : decode cX11_explained 13 = .ok (.invokevirtual 267, 3) := by decide +kernel
theorem dX11_explained_16 : decode cX11_explained 16 = .ok (.istore_n 3, 1) := by decide +kernel
theorem dX11_explained_17 : decode cX11_explained 17 = .ok (.iload_n 3, 1) := by decide +kernel
theorem dX11_explained_18 : decode cX11_explained 18 = .ok (.ifCond .eq 5, 3) := by decide +kernel
theorem dX11_explained_21 : decode cX11_explained 21 = .ok (.iload_n 3, 1) := by decide +kernel
theorem dX11_explained_22 : decode cX11_explained 22 = .ok (.ireturn, 1) := by decide +kernel
theorem dX11_explained_23 : decode cX11_explained 23 = .ok (.aload_n 0, 1) := by decide +kernel
theorem dX11_explained_24 : decode cX11_explained 24 = .ok (.getfield 16, 3) := by decide +kernel
theorem dX11_explained_27 : decode cX11_explained 27 = .ok (.aload_n 0, 1) := by decide +kernel
theorem dX11_explained_28 : decode cX11_explained 28 = .ok (.getfield 12, 3) := by decide +kernel
theorem dX11_explained_31 : decode cX11_explained 31 = .ok (.invokevirtual 74, 3) := by decide +kernel
theorem dX11_explained_34 : decode cX11_explained 34 = .ok (.iconst 0, 1) := by decide +kernel
theorem dX11_explained_35 : decode cX11_explained 35 = .ok (.istore 4, 2) := by decide +kernel
theorem dX11_explained_37 : decode cX11_explained 37 = .ok (.bipush (-4), 2) := by decide +kernel
theorem dX11_explained_39 : decode cX11_explained 39 = .ok (.istore 5, 2) := by decide +kernel
theorem dX11_explained_41 : decode cX11_explained 41 = .ok (.bipush 9, 2) := by decide +kernel
theorem dX11_explained_43 : decode cX11_explained 43 = .ok (.istore 6, 2) := by decide +kernel
theorem dX11_explained_45 : decode cX11_explained 45 = .ok (.iload 6, 2) := by decide +kernel
theorem dX11_explained_47 : decode cX11_explained 47 = .ok (.ifCond .lt 63, 3) := by decide +kernel
theorem dX11_explained_50 : decode cX11_explained 50 = .ok (.bipush 23, 2) := by decide +kernel
theorem dX11_explained_52 : decode cX11_explained 52 = .ok (.istore 7, 2) := by decide +kernel
theorem dX11_explained_54 : decode cX11_explained 54 = .ok (.iload 7, 2) := by decide +kernel
theorem dX11_explained_56 : decode cX11_explained 56 = .ok (.ifCond .lt 48, 3) := by decide +kernel
theorem dX11_explained_59 : decode cX11_explained 59 = .ok (.aload_n 0, 1) := by decide +kernel
theorem dX11_explained_60 : decode cX11_explained 60 = .ok (.aload_n 0, 1) := by decide +kernel
theorem dX11_explained_61 : decode cX11_explained 61 = .ok (.getfield 47, 3) := by decide +kernel
theorem dX11_explained_64 : decode cX11_explained 64 = .ok (.iload_n 1, 1) := by decide +kernel
theorem dX11_explained_65 : decode cX11_explained 65 = .ok (.aaload, 1) := by decide +kernel
theorem dX11_explained_66 : decode cX11_explained 66 = .ok (.iload 6, 2) := by decide +kernel
theorem dX11_explained_68 : decode cX11_explained 68 = .ok (.iload 7, 2) := by decide +kernel
theorem dX11_explained_70 : decode cX11_explained 70 = .ok (.invokevirtual 270, 3) := by decide +kernel
theorem dX11_explained_73 : decode cX11_explained 73 = .ok (.aload_n 0, 1) := by decide +kernel
theorem dX11_explained_74 : decode cX11_explained 74 = .ok (.getfield 47, 3) := by decide +kernel
theorem dX11_explained_77 : decode cX11_explained 77 = .ok (.iload_n 1, 1) := by decide +kernel
theorem dX11_explained_78 : decode cX11_explained 78 = .ok (.aaload, 1) := by decide +kernel
theorem dX11_explained_79 : decode cX11_explained 79 = .ok (.getfield 274, 3) := by decide +kernel
theorem dX11_explained_82 : decode cX11_explained 82 = .ok (.if_icmp .ne 16, 3) := by decide +kernel
theorem dX11_explained_85 : decode cX11_explained 85 = .ok (.iinc 4 1, 3) := by decide +kernel
theorem dX11_explained_88 : decode cX11_explained 88 = .ok (.bipush 100, 2) := by decide +kernel
theorem dX11_explained_90 : decode cX11_explained 90 = .ok (.iload 6, 2) := by decide +kernel
theorem dX11_explained_92 : decode cX11_explained 92 = .ok (.imul, 1) := by decide +kernel
theorem dX11_explained_93 : decode cX11_explained 93 = .ok (.iload 7, 2) := by decide +kernel
theorem dX11_explained_95 : decode cX11_explained 95 = .ok (.iadd, 1) := by decide +kernel
theorem dX11_explained_96 : decode cX11_explained 96 = .ok (.istore 5, 2) := by decide +kernel
theorem dX11_explained_98 : decode cX11_explained 98 = .ok (.iinc 7 (-1), 3) := by decide +kernel
theorem dX11_explained_101 : decode cX11_explained 101 = .ok (.goto (-47), 3) := by decide +kernel
theorem dX11_explained_104 : decode cX11_explained 104 = .ok (.iinc 6 (-1), 3) := by decide +kernel
theorem dX11_explained_107 : decode cX11_explained 107 = .ok (.goto (-62), 3) := by decide +kernel
theorem dX11_explained_110 : decode cX11_explained 110 = .ok (.iload_n 2, 1) := by decide +kernel
theorem dX11_explained_111 : decode cX11_explained 111 = .ok (.ifCond .ne 8, 3) := by decide +kernel
theorem dX11_explained_114 : decode cX11_explained 114 = .ok (.iload 4, 2) := by decide +kernel
theorem dX11_explained_116 : decode cX11_explained 116 = .ok (.goto 5, 3) := by decide +kernel
theorem dX11_explained_119 : decode cX11_explained 119 = .ok (.iload 5, 2) := by decide +kernel
theorem dX11_explained_121 : decode cX11_explained 121 = .ok (.ireturn, 1) := by decide +kernel
def b_X11_two_219 (v3 : Int32) (S : St) : Option ((Int32 × St) ⊕ (Int32 × St)) := some (.inl ((v3 + 1), S))
def b_X11_two_213 (v3 : Int32) (v4 : Int32) (S : St) : Option ((Int32 × Int32 × St) ⊕ ((Int32 × St) ⊕ (Int32 × St))) := some (.inl (v3, (v4 + 1), S))
def b_X11_two_173 (v3 : Int32) (v4 : Int32) (S : St) : Option ((Int32 × Int32 × St) ⊕ ((Int32 × St) ⊕ (Int32 × St))) := (if (3 : Int32) ≤ v4 then ((b_X11_two_219 v3 S).map Sum.inr) else (L_X11_isBestWait 128 v3 v4 S).bind fun r2 => (if (r2 : Int32) = 0 then (b_X11_two_213 v3 v4 S) else (L_X11_isBestWait 132 v4 v3 S).bind fun r4 => (if (r4 : Int32) = 0 then (b_X11_two_213 v3 v4 S) else some (.inr (.inr ((10 * v3) + v4, S))))))
def l_X11_two_173 (x : (Int32 × Int32 × St)) : Option ((Int32 × Int32 × St) ⊕ ((Int32 × St) ⊕ (Int32 × St))) := b_X11_two_173 x.1 x.2.1 x.2.2
def b_X11_two_165 (v3 : Int32) (S : St) : Option ((Int32 × St) ⊕ (Int32 × St)) := (if (3 : Int32) ≤ v3 then some (.inr ((-4), S)) else (lp 1000 (l_X11_two_173) (v3, 0, S)))
def l_X11_two_165 (x : (Int32 × St)) : Option ((Int32 × St) ⊕ (Int32 × St)) := b_X11_two_165 x.1 x.2
def b_X11_two_163 (S : St) : Option (Int32 × St) := (lp 1000 (l_X11_two_165) (0, S))
def b_X11_two_157 (v1 : Int32) (v2 : Int32) (v3 : Int32) (S : St) : Option ((Int32 × Int32 × Int32 × St) ⊕ (Int32 × St)) := some (.inl (v1, v2, (v3 + 1), S))
def b_X11_two_44 (v1 : Int32) (v2 : Int32) (v3 : Int32) (v4 : Int32) (S : St) : Option ((Int32 × Int32 × Int32 × Int32 × St) ⊕ ((Int32 × Int32 × Int32 × St) ⊕ (Int32 × St))) := (if (3 : Int32) ≤ v4 then ((b_X11_two_157 v1 v2 v3 S).map Sum.inr) else gd (inb v1 8) (nm (if ((gi S (1 + 4) v1.toNatClampNeg) + v3 : Int32) < 23 then (gi S (1 + 4) v1.toNatClampNeg) + v3 else 23) fun m3 => gd (inb v1 8) (nm (si S (19 + 4) v1.toNatClampNeg m3) fun S5 => gd (inb v2 8) (nm (if ((gi S5 (1 + 4) v2.toNatClampNeg) + v4 : Int32) < 23 then (gi S5 (1 + 4) v2.toNatClampNeg) + v4 else 23) fun m7 => gd (inb v2 8) (nm (si S5 (19 + 4) v2.toNatClampNeg m7) fun S9 => (L_X2_run 19 ((-1)) S9).bind fun r10 => gd (inb v3 3) ((L_X2_coinsAt v1 23 r10).bind fun r12 => gd (inb v4 3) (nm (si r10 ((128 + 1) + 1 * v3.toNatClampNeg) v4.toNatClampNeg r12) fun S14 => gd (inb v4 3) ((L_X2_coinsAt v2 23 S14).bind fun r16 => gd (inb v3 3) (nm (si S14 ((132 + 1) + 1 * v4.toNatClampNeg) v3.toNatClampNeg r16) fun S18 => some (.inl (v1, v2, v3, (v4 + 1), S18)))))))))))
def l_X11_two_44 (x : (Int32 × Int32 × Int32 × Int32 × St)) : Option ((Int32 × Int32 × Int32 × Int32 × St) ⊕ ((Int32 × Int32 × Int32 × St) ⊕ (Int32 × St))) := b_X11_two_44 x.1 x.2.1 x.2.2.1 x.2.2.2.1 x.2.2.2.2
def b_X11_two_36 (v1 : Int32) (v2 : Int32) (v3 : Int32) (S : St) : Option ((Int32 × Int32 × Int32 × St) ⊕ (Int32 × St)) := (if (3 : Int32) ≤ v3 then ((b_X11_two_163 S).map Sum.inr) else (lp 1000 (l_X11_two_44) (v1, v2, v3, 0, S)))
def l_X11_two_36 (x : (Int32 × Int32 × Int32 × St)) : Option ((Int32 × Int32 × Int32 × St) ⊕ (Int32 × St)) := b_X11_two_36 x.1 x.2.1 x.2.2.1 x.2.2.2
def b_X11_two_0 (v1 : Int32) (v2 : Int32) (S : St) : Option (Int32 × St) := (L_X11_isNobody v1 S).bind fun r1 => (if (r1 : Int32) = 0 then (L_X11_isNobody v2 S).bind fun r3 => (if (r3 : Int32) = 0 then (if (v1 : Int32) = v2 then some ((-1), S) else (L_X10_become 19 1 S).bind fun r6 => (lp 1000 (l_X11_two_36) (v1, v2, 0, r6))) else some ((-1), S)) else some ((-1), S))
def L_X11_two (a1 : Int32) (a2 : Int32) (S : St) : Option (Int32 × St) := b_X11_two_0 a1 a2 S
def b_X11_without_54 (v1 : Int32) (v2 : Int32) (S : St) : Option ((Int32 × Int32 × St) ⊕ (Int32 × St)) := some (.inl (v1, (v2 + 1), S))
def b_X11_without_16 (v1 : Int32) (v2 : Int32) (S : St) : Option ((Int32 × Int32 × St) ⊕ (Int32 × St)) := (if (gi S 1 0 : Int32) ≤ v2 then some (.inr (v1, S)) else gd (inb v2 8) (gd (inb v2 8) ((L_X11_sideOf (gi S 57 v2.toNatClampNeg) S).bind fun r4 => (if (gi S 58 v2.toNatClampNeg : Int32) = r4 then (b_X11_without_54 v1 v2 S) else (b_X11_without_54 (v1 + 1) v2 S)))))
def l_X11_without_16 (x : (Int32 × Int32 × St)) : Option ((Int32 × Int32 × St) ⊕ (Int32 × St)) := b_X11_without_16 x.1 x.2.1 x.2.2
def b_X11_without_0 (S : St) : Option (Int32 × St) := (L_X2_run 1 ((-1)) S).bind fun r1 => (lp 1000 (l_X11_without_16) (0, 0, r1))
def L_X11_without (S : St) : Option (Int32 × St) := b_X11_without_0 S
def b_X11_dayBegunAlike_59 (v1 : Int32) (v2 : Int32) (v3 : Int32) (S : St) : Option ((Int32 × Int32) ⊕ Int32) := (if (v3 : Int32) = 0 then some (.inl (v1, (v2 + 1))) else some (.inr v2))
def b_X11_dayBegunAlike_51 (v1 : Int32) (v2 : Int32) (v4 : Int32) (s0 : Int32) (s1 : Int32) (S : St) : Option ((Int32 × Int32 × Int32 × Int32) ⊕ ((Int32 × Int32) ⊕ Int32)) := some (.inl (v1, v2, (s1 &&& s0), (v4 + 1)))
def b_X11_dayBegunAlike_12 (v1 : Int32) (v2 : Int32) (v3 : Int32) (v4 : Int32) (S : St) : Option ((Int32 × Int32 × Int32 × Int32) ⊕ ((Int32 × Int32) ⊕ Int32)) := (if (gi S 19 0 : Int32) ≤ v4 then ((b_X11_dayBegunAlike_59 v1 v2 v3 S).map Sum.inr) else gd (inb v2 41) (gd (inb v4 8) (gd (inb v1 41) (gd (inb v4 8) ((if (gi S (87 + 1 * v2.toNatClampNeg) v4.toNatClampNeg : Int32) = (gi S (87 + 1 * v1.toNatClampNeg) v4.toNatClampNeg) then (b_X11_dayBegunAlike_51 v1 v2 v4 1 v3 S) else (b_X11_dayBegunAlike_51 v1 v2 v4 0 v3 S)))))))
def l_X11_dayBegunAlike_12 (S : St) (x : (Int32 × Int32 × Int32 × Int32)) : Option ((Int32 × Int32 × Int32 × Int32) ⊕ ((Int32 × Int32) ⊕ Int32)) := b_X11_dayBegunAlike_12 x.1 x.2.1 x.2.2.1 x.2.2.2 S
def b_X11_dayBegunAlike_2 (v1 : Int32) (v2 : Int32) (S : St) : Option ((Int32 × Int32) ⊕ Int32) := (if (v1 : Int32) ≤ v2 then some (.inr ((-4))) else (lp 1000 (l_X11_dayBegunAlike_12 S) (v1, v2, 1, 0)))
def l_X11_dayBegunAlike_2 (S : St) (x : (Int32 × Int32)) : Option ((Int32 × Int32) ⊕ Int32) := b_X11_dayBegunAlike_2 x.1 x.2 S
def b_X11_dayBegunAlike_0 (v1 : Int32) (S : St) : Option Int32 := (lp 1000 (l_X11_dayBegunAlike_2 S) (v1, 0))
def L_X11_dayBegunAlike (a1 : Int32) (S : St) : Option Int32 := b_X11_dayBegunAlike_0 a1 S
def b_X11_again_153 (v1 : Int32) (v2 : Int32) (S : St) : Option ((Int32 × Int32 × St) ⊕ (Int32 × St)) := some (.inl (v1, (v2 + 1), S))
def b_X11_again_90 (v1 : Int32) (v2 : Int32) (v4 : Int32) (S : St) : Option ((Int32 × Int32 × Int32 × St) ⊕ ((Int32 × Int32 × St) ⊕ (Int32 × St))) := (if (gi S 19 0 : Int32) ≤ v4 then ((b_X11_again_153 v1 v2 S).map Sum.inr) else gd (inb v4 8) (gd (inb v4 11) (nm (if ((gi S (19 + 5) v4.toNatClampNeg) + (gi S 61 v4.toNatClampNeg) : Int32) < 9 then (gi S (19 + 5) v4.toNatClampNeg) + (gi S 61 v4.toNatClampNeg) else 9) fun m4 => nm (if ((-9) : Int32) < m4 then m4 else (-9)) fun m5 => gd (inb v4 8) (nm (si S (19 + 5) v4.toNatClampNeg m5) fun S7 => some (.inl (v1, v2, (v4 + 1), S7))))))
def l_X11_again_90 (x : (Int32 × Int32 × Int32 × St)) : Option ((Int32 × Int32 × Int32 × St) ⊕ ((Int32 × Int32 × St) ⊕ (Int32 × St))) := b_X11_again_90 x.1 x.2.1 x.2.2.1 x.2.2.2
def b_X11_again_65 (v1 : Int32) (v2 : Int32) (v3 : Int32) (S : St) : Option (Int32 × St) := (if (v1 : Int32) = 0 then some (v2, S) else some (v3, S))
def b_X11_again_24 (v1 : Int32) (v2 : Int32) (S : St) : Option ((Int32 × Int32 × St) ⊕ (Int32 × St)) := (if (40 : Int32) < v2 then some (.inr ((-4), S)) else gd (inb v2 41) (gd (cpb 0 0 (gi S 19 0) 8 8) (nm (sc S (19 + 5) (0 : Int32).toNatClampNeg (87 + 1 * v2.toNatClampNeg) (0 : Int32).toNatClampNeg (gi S 19 0).toNatClampNeg) fun S4 => (L_X11_dayBegunAlike v2 S4).bind fun r5 => (if (r5 : Int32) < 0 then (L_X2_run 19 ((-1)) S4).bind fun r7 => (lp 1000 (l_X11_again_90) (v1, v2, 0, r7)) else ((b_X11_again_65 v1 v2 r5 S4).map Sum.inr)))))
def l_X11_again_24 (x : (Int32 × Int32 × St)) : Option ((Int32 × Int32 × St) ⊕ (Int32 × St)) := b_X11_again_24 x.1 x.2.1 x.2.2
def b_X11_again_0 (v1 : Int32) (S : St) : Option (Int32 × St) := (L_X11_isOut v1 0 1 S).bind fun r1 => (if (r1 : Int32) = 0 then (L_X10_become 19 1 S).bind fun r3 => (lp 1000 (l_X11_again_24) (v1, 0, r3)) else some ((-1), S))
def L_X11_again (a1 : Int32) (S : St) : Option (Int32 × St) := b_X11_again_0 a1 S
def b_X11_toldChoicesRefusal_0 (v1 : Int32) (S : St) : Option Int32 := (L_X11_shelfRefusal v1 2 S).bind fun r1 => (if (r1 : Int32) = 0 then gd (inb v1 8) ((if (gi S (70 + 2 * v1.toNatClampNeg) 1 : Int32) ≤ (gi S 1 0) then some 0 else some ((-13)))) else some r1)
def L_X11_toldChoicesRefusal (a1 : Int32) (S : St) : Option Int32 := b_X11_toldChoicesRefusal_0 a1 S
def b_X11_firstMisfit_86 (u1 : Nat) (v4 : Int32) (S : St) : Option ((Int32 × St) ⊕ (Int32 × St)) := some (.inl ((v4 + 1), S))
def b_X11_firstMisfit_35 (u1 : Nat) (v4 : Int32) (S : St) : Option ((Int32 × St) ⊕ (Int32 × St)) := (if (gi S u1 1 : Int32) ≤ v4 then some (.inr (gi S u1 1, S)) else (if (gi S 19 0 : Int32) ≤ v4 then some (.inr (gi S u1 1, S)) else (L_X8_isSkipped u1 v4 S).bind fun r3 => (if (r3 : Int32) = 0 then (L_X8_at u1 v4 S).bind fun r5 => (L_X2_toldChoice v4 S).bind fun r6 => (if (r5 : Int32) = r6 then (b_X11_firstMisfit_86 u1 v4 S) else some (.inr (v4, S))) else (b_X11_firstMisfit_86 u1 v4 S))))
def l_X11_firstMisfit_35 (u1 : Nat) (x : (Int32 × St)) : Option ((Int32 × St) ⊕ (Int32 × St)) := b_X11_firstMisfit_35 u1 x.1 x.2
def b_X11_firstMisfit_0 (u1 : Nat) (v2 : Int32) (v3 : Int32) (S : St) : Option (Int32 × St) := gd (inb 1 3) (nm (si S (19 + 17) (1 : Int32).toNatClampNeg v2) fun S2 => gd (inb 0 3) (nm (si S2 (19 + 17) (0 : Int32).toNatClampNeg v3) fun S4 => (L_X2_run 19 ((-1)) S4).bind fun r5 => (lp 1000 (l_X11_firstMisfit_35 u1) (0, r5))))
def L_X11_firstMisfit (u1 : Nat) (a2 : Int32) (a3 : Int32) (S : St) : Option (Int32 × St) := b_X11_firstMisfit_0 u1 a2 a3 S
def b_X11_explained_110 (v2 : Int32) (v4 : Int32) (v5 : Int32) (S : St) : Option (Int32 × St) := (if (v2 : Int32) = 0 then some (v4, S) else some (v5, S))
def b_X11_explained_104 (v1 : Int32) (v2 : Int32) (v4 : Int32) (v5 : Int32) (v6 : Int32) (S : St) : Option ((Int32 × Int32 × Int32 × Int32 × Int32 × St) ⊕ (Int32 × St)) := some (.inl (v1, v2, v4, v5, (v6 + (-1)), S))
def b_X11_explained_98 (v1 : Int32) (v2 : Int32) (v4 : Int32) (v5 : Int32) (v6 : Int32) (v7 : Int32) (S : St) : Option ((Int32 × Int32 × Int32 × Int32 × Int32 × Int32 × St) ⊕ ((Int32 × Int32 × Int32 × Int32 × Int32 × St) ⊕ (Int32 × St))) := some (.inl (v1, v2, v4, v5, v6, (v7 + (-1)), S))
def b_X11_explained_54 (v1 : Int32) (v2 : Int32) (v4 : Int32) (v5 : Int32) (v6 : Int32) (v7 : Int32) (S : St) : Option ((Int32 × Int32 × Int32 × Int32 × Int32 × Int32 × St) ⊕ ((Int32 × Int32 × Int32 × Int32 × Int32 × St) ⊕ (Int32 × St))) := (if (v7 : Int32) < 0 then ((b_X11_explained_104 v1 v2 v4 v5 v6 S).map Sum.inr) else gd (inb v1 8) ((L_X11_firstMisfit (70 + 2 * v1.toNatClampNeg) v6 v7 S).bind fun r3 => gd (inb v1 8) ((if (r3.1 : Int32) = (gi r3.2 (70 + 2 * v1.toNatClampNeg) 1) then (b_X11_explained_98 v1 v2 (v4 + 1) ((100 * v6) + v7) v6 v7 r3.2) else (b_X11_explained_98 v1 v2 v4 v5 v6 v7 r3.2)))))
def l_X11_explained_54 (x : (Int32 × Int32 × Int32 × Int32 × Int32 × Int32 × St)) : Option ((Int32 × Int32 × Int32 × Int32 × Int32 × Int32 × St) ⊕ ((Int32 × Int32 × Int32 × Int32 × Int32 × St) ⊕ (Int32 × St))) := b_X11_explained_54 x.1 x.2.1 x.2.2.1 x.2.2.2.1 x.2.2.2.2.1 x.2.2.2.2.2.1 x.2.2.2.2.2.2
def b_X11_explained_45 (v1 : Int32) (v2 : Int32) (v4 : Int32) (v5 : Int32) (v6 : Int32) (S : St) : Option ((Int32 × Int32 × Int32 × Int32 × Int32 × St) ⊕ (Int32 × St)) := (if (v6 : Int32) < 0 then ((b_X11_explained_110 v2 v4 v5 S).map Sum.inr) else (lp 1000 (l_X11_explained_54) (v1, v2, v4, v5, v6, 23, S)))
def l_X11_explained_45 (x : (Int32 × Int32 × Int32 × Int32 × Int32 × St)) : Option ((Int32 × Int32 × Int32 × Int32 × Int32 × St) ⊕ (Int32 × St)) := b_X11_explained_45 x.1 x.2.1 x.2.2.1 x.2.2.2.1 x.2.2.2.2.1 x.2.2.2.2.2
def b_X11_explained_0 (v1 : Int32) (v2 : Int32) (S : St) : Option (Int32 × St) := (L_X11_isOut v2 0 1 S).bind fun r1 => (if (r1 : Int32) = 0 then (L_X11_toldChoicesRefusal v1 S).bind fun r3 => (if (r3 : Int32) = 0 then (L_X10_become 19 1 S).bind fun r5 => (lp 1000 (l_X11_explained_45) (v1, v2, 0, ((-4)), 9, r5)) else some (r3, S)) else some ((-1), S))
def L_X11_explained (a1 : Int32) (a2 : Int32) (S : St) : Option (Int32 × St) := b_X11_explained_0 a1 a2 S
section WALKS
variable {p : Program} {e : Env} {s : State} {m : MethodId} {args : Array Value} {below : List Frame} {meth : Method} {c : Code} {D : va_G} {ct : Nat → ClassId} {B : Nat} {Hb : Heap}
set_option maxRecDepth 100000 in
set_option maxHeartbeats 4000000 in
theorem w_X11_two_219 (l : Launch) {V : Int32 × St} (C0 : XC D ct p s m args meth c cX11_two 5 (some .int) RX11) (n0 : Nat) (ih0 : ∀ (v3 : Int32) (S : St) (H : Heap) (locs : List Loc) (ls : Array Slot), (lp n0 (l_X11_two_165) (v3, S)).bind some = some V → MP D ct B Hb S H → va_S (AB B) s.heap H locs → lv_has ls 5 [(0, .ref (B + 0)), (3, .int v3)] → W p l e { frames := 5, cells := 0, slots := 0, locals := 117 } s m args below meth c H locs 0 0 (MQ below (qIw D ct B Hb V) args s 0 0 (AB B)) (F0 m 165 ls [])) (v3 : Int32) (S : St) {H : Heap} {locs : List Loc} {ls : Array Slot} (h : (b_X11_two_219 v3 S).bind (lpF n0 (l_X11_two_165) some) = some V) (hP : MP D ct B Hb S H) (hS : va_S (AB B) s.heap H locs) (hl : lv_has ls 5 [(0, .ref (B + 0)), (3, .int v3)]) : W p l e { frames := 5, cells := 0, slots := 0, locals := 117 } s m args below meth c H locs 0 0 (MQ below (qIw D ct B Hb V) args s 0 0 (AB B)) (F0 m 219 ls []) := by
  obtain ⟨hx, hb, hr, hml, hown, hts, hK, hlocks, hN⟩ := id C0
  unfold b_X11_two_219 at h
  refine lv_iinc (v := v3 + 1) (lv' := [(3, .int (v3 + 1)), (0, .ref (B + 0))]) hx hb dX11_two_219 hl (k := 1) rfl rfl (by decide) rfl (fun ls hl => ?_)
  refine lv_goto (tgt := 165) hx hb dX11_two_222 (by decide) ?_
  exact ih0 (v3 + 1) S _ _ _ h hP hS (lv_sub hl [1, 0] rfl)
set_option maxRecDepth 100000 in
set_option maxHeartbeats 4000000 in
theorem w_X11_two_213 (l : Launch) {V : Int32 × St} (C0 : XC D ct p s m args meth c cX11_two 5 (some .int) RX11) (n0 : Nat) (ih0 : ∀ (v3 : Int32) (S : St) (H : Heap) (locs : List Loc) (ls : Array Slot), (lp n0 (l_X11_two_165) (v3, S)).bind some = some V → MP D ct B Hb S H → va_S (AB B) s.heap H locs → lv_has ls 5 [(0, .ref (B + 0)), (3, .int v3)] → W p l e { frames := 5, cells := 0, slots := 0, locals := 117 } s m args below meth c H locs 0 0 (MQ below (qIw D ct B Hb V) args s 0 0 (AB B)) (F0 m 165 ls [])) (n1 : Nat) (ih1 : ∀ (v3 : Int32) (v4 : Int32) (S : St) (H : Heap) (locs : List Loc) (ls : Array Slot), (lp n1 (l_X11_two_173) (v3, v4, S)).bind (lpF n0 (l_X11_two_165) some) = some V → MP D ct B Hb S H → va_S (AB B) s.heap H locs → lv_has ls 5 [(0, .ref (B + 0)), (3, .int v3), (4, .int v4)] → W p l e { frames := 5, cells := 0, slots := 0, locals := 117 } s m args below meth c H locs 0 0 (MQ below (qIw D ct B Hb V) args s 0 0 (AB B)) (F0 m 173 ls [])) (v3 : Int32) (v4 : Int32) (S : St) {H : Heap} {locs : List Loc} {ls : Array Slot} (h : (b_X11_two_213 v3 v4 S).bind (lpF n1 (l_X11_two_173) (lpF n0 (l_X11_two_165) some)) = some V) (hP : MP D ct B Hb S H) (hS : va_S (AB B) s.heap H locs) (hl : lv_has ls 5 [(0, .ref (B + 0)), (3, .int v3), (4, .int v4)]) : W p l e { frames := 5, cells := 0, slots := 0, locals := 117 } s m args below meth c H locs 0 0 (MQ below (qIw D ct B Hb V) args s 0 0 (AB B)) (F0 m 213 ls []) := by
  obtain ⟨hx, hb, hr, hml, hown, hts, hK, hlocks, hN⟩ := id C0
  unfold b_X11_two_213 at h
  refine lv_iinc (v := v4 + 1) (lv' := [(4, .int (v4 + 1)), (0, .ref (B + 0)), (3, .int v3)]) hx hb dX11_two_213 hl (k := 2) rfl rfl (by decide) rfl (fun ls hl => ?_)
  refine lv_goto (tgt := 173) hx hb dX11_two_216 (by decide) ?_
  exact ih1 v3 (v4 + 1) S _ _ _ h hP hS (lv_sub hl [1, 2, 0] rfl)
set_option maxRecDepth 100000 in
set_option maxHeartbeats 4000000 in
theorem w_X11_two_173 (l : Launch) {V : Int32 × St} (C0 : XC D ct p s m args meth c cX11_two 5 (some .int) RX11) (n0 : Nat) (ih0 : ∀ (v3 : Int32) (S : St) (H : Heap) (locs : List Loc) (ls : Array Slot), (lp n0 (l_X11_two_165) (v3, S)).bind some = some V → MP D ct B Hb S H → va_S (AB B) s.heap H locs → lv_has ls 5 [(0, .ref (B + 0)), (3, .int v3)] → W p l e { frames := 5, cells := 0, slots := 0, locals := 117 } s m args below meth c H locs 0 0 (MQ below (qIw D ct B Hb V) args s 0 0 (AB B)) (F0 m 165 ls [])) (n1 : Nat) (ih1 : ∀ (v3 : Int32) (v4 : Int32) (S : St) (H : Heap) (locs : List Loc) (ls : Array Slot), (lp n1 (l_X11_two_173) (v3, v4, S)).bind (lpF n0 (l_X11_two_165) some) = some V → MP D ct B Hb S H → va_S (AB B) s.heap H locs → lv_has ls 5 [(0, .ref (B + 0)), (3, .int v3), (4, .int v4)] → W p l e { frames := 5, cells := 0, slots := 0, locals := 117 } s m args below meth c H locs 0 0 (MQ below (qIw D ct B Hb V) args s 0 0 (AB B)) (F0 m 173 ls [])) (v3 : Int32) (v4 : Int32) (S : St) {H : Heap} {locs : List Loc} {ls : Array Slot} (h : (b_X11_two_173 v3 v4 S).bind (lpF n1 (l_X11_two_173) (lpF n0 (l_X11_two_165) some)) = some V) (hP : MP D ct B Hb S H) (hS : va_S (AB B) s.heap H locs) (hl : lv_has ls 5 [(0, .ref (B + 0)), (3, .int v3), (4, .int v4)]) : W p l e { frames := 5, cells := 0, slots := 0, locals := 117 } s m args below meth c H locs 0 0 (MQ below (qIw D ct B Hb V) args s 0 0 (AB B)) (F0 m 173 ls []) := by
  obtain ⟨hx, hb, hr, hml, hown, hts, hK, hlocks, hN⟩ := id C0
  unfold b_X11_two_173 at h
  refine lv_iload hx hb dX11_two_173 (lv_at hl 2 rfl) ?_
  refine lv_iconst (v := 3) hx hb dX11_two_175 (by decide) ?_
  refine lv_icmp_ge (tgt := 219) hx hb dX11_two_176 (by decide) (fun z1 => ?_) (fun z1 => ?_)
  · have h := ob_t h z1
    have h := ob_mp h
    exact w_X11_two_219 l C0 n0 ih0 v3 S h hP hS (lv_sub hl [0, 1] rfl)
  · have h := ob_f h z1
    refine lv_aload_n hx hb dX11_two_179 rfl (lv_at hl 0 rfl) ?_
    refine x_get C0 hP (lay_X11 B ct S) rfl inG11 9 (by decide) wd_228 (fun _ h => h) rfl dX11_two_180 ?_
    refine lv_iload_n hx hb dX11_two_183 rfl (lv_at hl 1 rfl) ?_
    refine lv_iload hx hb dX11_two_184 (lv_at hl 2 rfl) ?_
    obtain ⟨r2, hr2, h⟩ := ob_bd h
    refine n_I (kS (As := [.ref (B + 128), .int v3, .int v4]) C0 (c_X11_isBestWait l 128 (Or.inl rfl) v3 v4 hr2) ⟨wd_864, wd_862, wd_863, wd_1⟩ kd_X11_isBestWait ⟨Nat.le_of_ble_eq_true rfl, Nat.le_of_ble_eq_true rfl⟩ hP rfl hl.1 rfl (Nat.le_of_ble_eq_true rfl) dX11_two_186 ⟨Nat.le_of_ble_eq_true rfl, Nat.le_of_ble_eq_true rfl⟩) hS (fun H locs hP hS => ?_)
    refine lv_if_eq (tgt := 213) hx hb dX11_two_189 (by decide) (fun z3 => ?_) (fun z3 => ?_)
    · have h := ob_t h z3
      exact w_X11_two_213 l C0 n0 ih0 n1 ih1 v3 v4 S h hP hS (lv_sub hl [0, 1, 2] rfl)
    · have h := ob_f h z3
      refine lv_aload_n hx hb dX11_two_192 rfl (lv_at hl 0 rfl) ?_
      refine x_get C0 hP (lay_X11 B ct S) rfl inG11 10 (by decide) wd_229 (fun _ h => h) rfl dX11_two_193 ?_
      refine lv_iload hx hb dX11_two_196 (lv_at hl 2 rfl) ?_
      refine lv_iload_n hx hb dX11_two_198 rfl (lv_at hl 1 rfl) ?_
      obtain ⟨r4, hr4, h⟩ := ob_bd h
      refine n_I (kS (As := [.ref (B + 132), .int v4, .int v3]) C0 (c_X11_isBestWait l 132 (Or.inr rfl) v4 v3 hr4) ⟨wd_864, wd_862, wd_863, wd_1⟩ kd_X11_isBestWait ⟨Nat.le_of_ble_eq_true rfl, Nat.le_of_ble_eq_true rfl⟩ hP rfl hl.1 rfl (Nat.le_of_ble_eq_true rfl) dX11_two_199 ⟨Nat.le_of_ble_eq_true rfl, Nat.le_of_ble_eq_true rfl⟩) hS (fun H locs hP hS => ?_)
      refine lv_if_eq (tgt := 213) hx hb dX11_two_202 (by decide) (fun z5 => ?_) (fun z5 => ?_)
      · have h := ob_t h z5
        exact w_X11_two_213 l C0 n0 ih0 n1 ih1 v3 v4 S h hP hS (lv_sub hl [0, 1, 2] rfl)
      · have h := ob_f h z5
        refine lv_bipush (v := 10) hx hb dX11_two_205 (by decide) ?_
        refine lv_iload_n hx hb dX11_two_207 rfl (lv_at hl 1 rfl) ?_
        refine lv_imul hx hb dX11_two_208 ?_
        refine lv_iload hx hb dX11_two_209 (lv_at hl 2 rfl) ?_
        refine lv_iadd hx hb dX11_two_211 ?_
        exact r_Iw C0 hP hS h dX11_two_212
set_option maxRecDepth 100000 in
set_option maxHeartbeats 4000000 in
theorem wl_X11_two_173 (l : Launch) {V : Int32 × St} (C0 : XC D ct p s m args meth c cX11_two 5 (some .int) RX11) (n0 : Nat) (ih0 : ∀ (v3 : Int32) (S : St) (H : Heap) (locs : List Loc) (ls : Array Slot), (lp n0 (l_X11_two_165) (v3, S)).bind some = some V → MP D ct B Hb S H → va_S (AB B) s.heap H locs → lv_has ls 5 [(0, .ref (B + 0)), (3, .int v3)] → W p l e { frames := 5, cells := 0, slots := 0, locals := 117 } s m args below meth c H locs 0 0 (MQ below (qIw D ct B Hb V) args s 0 0 (AB B)) (F0 m 165 ls []))  : ∀ (n1 : Nat) (v3 : Int32) (v4 : Int32) (S : St) {H : Heap} {locs : List Loc} {ls : Array Slot}, (lp n1 (l_X11_two_173) (v3, v4, S)).bind (lpF n0 (l_X11_two_165) some) = some V → MP D ct B Hb S H → va_S (AB B) s.heap H locs → lv_has ls 5 [(0, .ref (B + 0)), (3, .int v3), (4, .int v4)] → W p l e { frames := 5, cells := 0, slots := 0, locals := 117 } s m args below meth c H locs 0 0 (MQ below (qIw D ct B Hb V) args s 0 0 (AB B)) (F0 m 173 ls []) := by
  intro n1
  induction n1 with
  | zero =>
    intro v3 v4 S H locs ls h hP hS hl
    exact (lp_0 h).elim
  | succ n1 ih1 =>
    intro v3 v4 S H locs ls h hP hS hl
    have h := lp_s h
    exact w_X11_two_173 l C0 n0 ih0 n1 (fun v3 v4 S H locs ls h hP hS hl => ih1 v3 v4 S h hP hS hl) v3 v4 S h hP hS hl
set_option maxRecDepth 100000 in
set_option maxHeartbeats 4000000 in
theorem w_X11_two_165 (l : Launch) {V : Int32 × St} (C0 : XC D ct p s m args meth c cX11_two 5 (some .int) RX11) (n0 : Nat) (ih0 : ∀ (v3 : Int32) (S : St) (H : Heap) (locs : List Loc) (ls : Array Slot), (lp n0 (l_X11_two_165) (v3, S)).bind some = some V → MP D ct B Hb S H → va_S (AB B) s.heap H locs → lv_has ls 5 [(0, .ref (B + 0)), (3, .int v3)] → W p l e { frames := 5, cells := 0, slots := 0, locals := 117 } s m args below meth c H locs 0 0 (MQ below (qIw D ct B Hb V) args s 0 0 (AB B)) (F0 m 165 ls [])) (v3 : Int32) (S : St) {H : Heap} {locs : List Loc} {ls : Array Slot} (h : (b_X11_two_165 v3 S).bind (lpF n0 (l_X11_two_165) some) = some V) (hP : MP D ct B Hb S H) (hS : va_S (AB B) s.heap H locs) (hl : lv_has ls 5 [(0, .ref (B + 0)), (3, .int v3)]) : W p l e { frames := 5, cells := 0, slots := 0, locals := 117 } s m args below meth c H locs 0 0 (MQ below (qIw D ct B Hb V) args s 0 0 (AB B)) (F0 m 165 ls []) := by
  obtain ⟨hx, hb, hr, hml, hown, hts, hK, hlocks, hN⟩ := id C0
  unfold b_X11_two_165 at h
  refine lv_iload_n hx hb dX11_two_165 rfl (lv_at hl 1 rfl) ?_
  refine lv_iconst (v := 3) hx hb dX11_two_166 (by decide) ?_
  refine lv_icmp_ge (tgt := 225) hx hb dX11_two_167 (by decide) (fun z1 => ?_) (fun z1 => ?_)
  · have h := ob_t h z1
    refine lv_bipush (v := (-4)) hx hb dX11_two_225 (by decide) ?_
    exact r_Iw C0 hP hS h dX11_two_227
  · have h := ob_f h z1
    refine lv_iconst (v := 0) hx hb dX11_two_170 (by decide) ?_
    refine lv_istore (lv' := [(4, .int 0), (0, .ref (B + 0)), (3, .int v3)]) hx hb dX11_two_171 hl (by decide) rfl (fun ls hl => ?_)
    exact wl_X11_two_173 l C0 n0 ih0 1000 v3 0 S h hP hS (lv_sub hl [1, 2, 0] rfl)
set_option maxRecDepth 100000 in
set_option maxHeartbeats 4000000 in
theorem wl_X11_two_165 (l : Launch) {V : Int32 × St} (C0 : XC D ct p s m args meth c cX11_two 5 (some .int) RX11)  : ∀ (n0 : Nat) (v3 : Int32) (S : St) {H : Heap} {locs : List Loc} {ls : Array Slot}, (lp n0 (l_X11_two_165) (v3, S)).bind some = some V → MP D ct B Hb S H → va_S (AB B) s.heap H locs → lv_has ls 5 [(0, .ref (B + 0)), (3, .int v3)] → W p l e { frames := 5, cells := 0, slots := 0, locals := 117 } s m args below meth c H locs 0 0 (MQ below (qIw D ct B Hb V) args s 0 0 (AB B)) (F0 m 165 ls []) := by
  intro n0
  induction n0 with
  | zero =>
    intro v3 S H locs ls h hP hS hl
    exact (lp_0 h).elim
  | succ n0 ih0 =>
    intro v3 S H locs ls h hP hS hl
    have h := lp_s h
    exact w_X11_two_165 l C0 n0 (fun v3 S H locs ls h hP hS hl => ih0 v3 S h hP hS hl) v3 S h hP hS hl
set_option maxRecDepth 100000 in
set_option maxHeartbeats 4000000 in
theorem w_X11_two_163 (l : Launch) {V : Int32 × St} (C0 : XC D ct p s m args meth c cX11_two 5 (some .int) RX11) (S : St) {H : Heap} {locs : List Loc} {ls : Array Slot} (h : (b_X11_two_163 S).bind some = some V) (hP : MP D ct B Hb S H) (hS : va_S (AB B) s.heap H locs) (hl : lv_has ls 5 [(0, .ref (B + 0))]) : W p l e { frames := 5, cells := 0, slots := 0, locals := 117 } s m args below meth c H locs 0 0 (MQ below (qIw D ct B Hb V) args s 0 0 (AB B)) (F0 m 163 ls []) := by
  obtain ⟨hx, hb, hr, hml, hown, hts, hK, hlocks, hN⟩ := id C0
  unfold b_X11_two_163 at h
  refine lv_iconst (v := 0) hx hb dX11_two_163 (by decide) ?_
  refine lv_istore_n (lv' := [(3, .int 0), (0, .ref (B + 0))]) hx hb dX11_two_164 rfl hl (by decide) rfl (fun ls hl => ?_)
  exact wl_X11_two_165 l C0 1000 0 S h hP hS (lv_sub hl [1, 0] rfl)
set_option maxRecDepth 100000 in
set_option maxHeartbeats 4000000 in
theorem w_X11_two_157 (l : Launch) {V : Int32 × St} (C0 : XC D ct p s m args meth c cX11_two 5 (some .int) RX11) (n0 : Nat) (ih0 : ∀ (v1 : Int32) (v2 : Int32) (v3 : Int32) (S : St) (H : Heap) (locs : List Loc) (ls : Array Slot), (lp n0 (l_X11_two_36) (v1, v2, v3, S)).bind some = some V → MP D ct B Hb S H → va_S (AB B) s.heap H locs → lv_has ls 5 [(0, .ref (B + 0)), (1, .int v1), (2, .int v2), (3, .int v3)] → W p l e { frames := 5, cells := 0, slots := 0, locals := 117 } s m args below meth c H locs 0 0 (MQ below (qIw D ct B Hb V) args s 0 0 (AB B)) (F0 m 36 ls [])) (v1 : Int32) (v2 : Int32) (v3 : Int32) (S : St) {H : Heap} {locs : List Loc} {ls : Array Slot} (h : (b_X11_two_157 v1 v2 v3 S).bind (lpF n0 (l_X11_two_36) some) = some V) (hP : MP D ct B Hb S H) (hS : va_S (AB B) s.heap H locs) (hl : lv_has ls 5 [(0, .ref (B + 0)), (1, .int v1), (2, .int v2), (3, .int v3)]) : W p l e { frames := 5, cells := 0, slots := 0, locals := 117 } s m args below meth c H locs 0 0 (MQ below (qIw D ct B Hb V) args s 0 0 (AB B)) (F0 m 157 ls []) := by
  obtain ⟨hx, hb, hr, hml, hown, hts, hK, hlocks, hN⟩ := id C0
  unfold b_X11_two_157 at h
  refine lv_iinc (v := v3 + 1) (lv' := [(3, .int (v3 + 1)), (0, .ref (B + 0)), (1, .int v1), (2, .int v2)]) hx hb dX11_two_157 hl (k := 3) rfl rfl (by decide) rfl (fun ls hl => ?_)
  refine lv_goto (tgt := 36) hx hb dX11_two_160 (by decide) ?_
  exact ih0 v1 v2 (v3 + 1) S _ _ _ h hP hS (lv_sub hl [1, 2, 3, 0] rfl)
set_option maxRecDepth 100000 in
set_option maxHeartbeats 4000000 in
theorem w_X11_two_44 (l : Launch) {V : Int32 × St} (C0 : XC D ct p s m args meth c cX11_two 5 (some .int) RX11) (n0 : Nat) (ih0 : ∀ (v1 : Int32) (v2 : Int32) (v3 : Int32) (S : St) (H : Heap) (locs : List Loc) (ls : Array Slot), (lp n0 (l_X11_two_36) (v1, v2, v3, S)).bind some = some V → MP D ct B Hb S H → va_S (AB B) s.heap H locs → lv_has ls 5 [(0, .ref (B + 0)), (1, .int v1), (2, .int v2), (3, .int v3)] → W p l e { frames := 5, cells := 0, slots := 0, locals := 117 } s m args below meth c H locs 0 0 (MQ below (qIw D ct B Hb V) args s 0 0 (AB B)) (F0 m 36 ls [])) (n1 : Nat) (ih1 : ∀ (v1 : Int32) (v2 : Int32) (v3 : Int32) (v4 : Int32) (S : St) (H : Heap) (locs : List Loc) (ls : Array Slot), (lp n1 (l_X11_two_44) (v1, v2, v3, v4, S)).bind (lpF n0 (l_X11_two_36) some) = some V → MP D ct B Hb S H → va_S (AB B) s.heap H locs → lv_has ls 5 [(0, .ref (B + 0)), (1, .int v1), (2, .int v2), (3, .int v3), (4, .int v4)] → W p l e { frames := 5, cells := 0, slots := 0, locals := 117 } s m args below meth c H locs 0 0 (MQ below (qIw D ct B Hb V) args s 0 0 (AB B)) (F0 m 44 ls [])) (v1 : Int32) (v2 : Int32) (v3 : Int32) (v4 : Int32) (S : St) {H : Heap} {locs : List Loc} {ls : Array Slot} (h : (b_X11_two_44 v1 v2 v3 v4 S).bind (lpF n1 (l_X11_two_44) (lpF n0 (l_X11_two_36) some)) = some V) (hP : MP D ct B Hb S H) (hS : va_S (AB B) s.heap H locs) (hl : lv_has ls 5 [(0, .ref (B + 0)), (1, .int v1), (2, .int v2), (3, .int v3), (4, .int v4)]) : W p l e { frames := 5, cells := 0, slots := 0, locals := 117 } s m args below meth c H locs 0 0 (MQ below (qIw D ct B Hb V) args s 0 0 (AB B)) (F0 m 44 ls []) := by
  obtain ⟨hx, hb, hr, hml, hown, hts, hK, hlocks, hN⟩ := id C0
  unfold b_X11_two_44 at h
  refine lv_iload hx hb dX11_two_44 (lv_at hl 4 rfl) ?_
  refine lv_iconst (v := 3) hx hb dX11_two_46 (by decide) ?_
  refine lv_icmp_ge (tgt := 157) hx hb dX11_two_47 (by decide) (fun z1 => ?_) (fun z1 => ?_)
  · have h := ob_t h z1
    have h := ob_mp h
    exact w_X11_two_157 l C0 n0 ih0 v1 v2 v3 S h hP hS (lv_sub hl [0, 1, 2, 3] rfl)
  · have h := ob_f h z1
    refine lv_aload_n hx hb dX11_two_50 rfl (lv_at hl 0 rfl) ?_
    refine x_get C0 hP (lay_X11 B ct S) rfl inG11 1 (by decide) wd_220 (fun _ h => h) rfl dX11_two_51 ?_
    refine x_get C0 hP (lay_X10 B ct S (Or.inr (Or.inl rfl))) rfl inG10 3 (by decide) wd_72 (fun _ h => h) rfl dX11_two_54 ?_
    refine lv_iload_n hx hb dX11_two_57 rfl (lv_at hl 1 rfl) ?_
    refine lv_bipush (v := 23) hx hb dX11_two_58 (by decide) ?_
    refine lv_aload_n hx hb dX11_two_60 rfl (lv_at hl 0 rfl) ?_
    refine x_get C0 hP (lay_X11 B ct S) rfl inG11 0 (by decide) wd_219 (fun _ h => h) rfl dX11_two_61 ?_
    refine x_get C0 hP (lay_X10 B ct S (Or.inl rfl)) rfl inG10 3 (by decide) wd_72 (fun _ h => h) rfl dX11_two_64 ?_
    refine lv_iload_n hx hb dX11_two_67 rfl (lv_at hl 1 rfl) ?_
    obtain ⟨g2, h⟩ := ob_gd h
    refine x_iald C0 hP ((fun S => lay_t4 B ct S (Or.inl rfl)) S) g2 dX11_two_68 ?_
    refine lv_iload_n hx hb dX11_two_69 rfl (lv_at hl 3 rfl) ?_
    refine lv_iadd hx hb dX11_two_70 ?_
    refine x_min C0 hl.1 ⟨wd_860, wd_487, wd_19, wd_488⟩ (Nat.le_of_ble_eq_true rfl) (Nat.le_of_ble_eq_true rfl) ⟨Nat.le_of_ble_eq_true rfl, Nat.le_of_ble_eq_true rfl⟩ dX11_two_71 ?_
    obtain ⟨m3, em3, h⟩ := ob_nm h
    rw [← em3]
    obtain ⟨g4, h⟩ := ob_gd h
    obtain ⟨S5, eS5, h⟩ := ob_nm h
    refine x_iast C0 hP hS (fun S => lay_t4 B ct S (Or.inr (Or.inl rfl))) g4 dX11_two_74 (fun H locs hP hS => ?_)
    rw [← eS5] at hP
    refine lv_aload_n hx hb dX11_two_75 rfl (lv_at hl 0 rfl) ?_
    refine x_get C0 hP (lay_X11 B ct S5) rfl inG11 1 (by decide) wd_220 (fun _ h => h) rfl dX11_two_76 ?_
    refine x_get C0 hP (lay_X10 B ct S5 (Or.inr (Or.inl rfl))) rfl inG10 3 (by decide) wd_72 (fun _ h => h) rfl dX11_two_79 ?_
    refine lv_iload_n hx hb dX11_two_82 rfl (lv_at hl 2 rfl) ?_
    refine lv_bipush (v := 23) hx hb dX11_two_83 (by decide) ?_
    refine lv_aload_n hx hb dX11_two_85 rfl (lv_at hl 0 rfl) ?_
    refine x_get C0 hP (lay_X11 B ct S5) rfl inG11 0 (by decide) wd_219 (fun _ h => h) rfl dX11_two_86 ?_
    refine x_get C0 hP (lay_X10 B ct S5 (Or.inl rfl)) rfl inG10 3 (by decide) wd_72 (fun _ h => h) rfl dX11_two_89 ?_
    refine lv_iload_n hx hb dX11_two_92 rfl (lv_at hl 2 rfl) ?_
    obtain ⟨g6, h⟩ := ob_gd h
    refine x_iald C0 hP ((fun S => lay_t4 B ct S (Or.inl rfl)) S5) g6 dX11_two_93 ?_
    refine lv_iload hx hb dX11_two_94 (lv_at hl 4 rfl) ?_
    refine lv_iadd hx hb dX11_two_96 ?_
    refine x_min C0 hl.1 ⟨wd_860, wd_487, wd_19, wd_488⟩ (Nat.le_of_ble_eq_true rfl) (Nat.le_of_ble_eq_true rfl) ⟨Nat.le_of_ble_eq_true rfl, Nat.le_of_ble_eq_true rfl⟩ dX11_two_97 ?_
    obtain ⟨m7, em7, h⟩ := ob_nm h
    rw [← em7]
    obtain ⟨g8, h⟩ := ob_gd h
    obtain ⟨S9, eS9, h⟩ := ob_nm h
    refine x_iast C0 hP hS (fun S => lay_t4 B ct S (Or.inr (Or.inl rfl))) g8 dX11_two_100 (fun H locs hP hS => ?_)
    rw [← eS9] at hP
    refine lv_aload_n hx hb dX11_two_101 rfl (lv_at hl 0 rfl) ?_
    refine x_get C0 hP (lay_X11 B ct S9) rfl inG11 4 (by decide) wd_223 (fun _ h => h) rfl dX11_two_102 ?_
    refine lv_aload_n hx hb dX11_two_105 rfl (lv_at hl 0 rfl) ?_
    refine x_get C0 hP (lay_X11 B ct S9) rfl inG11 1 (by decide) wd_220 (fun _ h => h) rfl dX11_two_106 ?_
    refine lv_iconst (v := (-1)) hx hb dX11_two_109 (by decide) ?_
    obtain ⟨r10, hr10, h⟩ := ob_bd h
    refine n_Vw (kV (As := [.ref (B + 19), .int ((-1))]) C0 (c_X2_run l 19 (Or.inr (Or.inl rfl)) ((-1)) hr10) ⟨wd_628, wd_625, wd_626, wd_627, wd_4⟩ kd_X2_run ⟨Nat.le_of_ble_eq_true rfl, Nat.le_of_ble_eq_true rfl⟩ hP (lay_X2 B ct S9) rfl rfl hl.1 rfl (Nat.le_of_ble_eq_true rfl) dX11_two_110 ⟨Nat.le_of_ble_eq_true rfl, Nat.le_of_ble_eq_true rfl⟩) hS (fun H locs hP hS => ?_)
    refine lv_aload_n hx hb dX11_two_113 rfl (lv_at hl 0 rfl) ?_
    refine x_get C0 hP (lay_X11 B ct r10) rfl inG11 9 (by decide) wd_228 (fun _ h => h) rfl dX11_two_114 ?_
    refine lv_iload_n hx hb dX11_two_117 rfl (lv_at hl 3 rfl) ?_
    obtain ⟨g11, h⟩ := ob_gd h
    refine x_aald (v := .ref (B + ((128 + 1) + 1 * v3.toNatClampNeg))) C0 hP ((fun S => lay_c3 B ct S (Or.inl rfl)) r10) rfl rfl g11 rfl dX11_two_118 ?_
    refine lv_iload hx hb dX11_two_119 (lv_at hl 4 rfl) ?_
    refine lv_aload_n hx hb dX11_two_121 rfl (lv_at hl 0 rfl) ?_
    refine x_get C0 hP (lay_X11 B ct r10) rfl inG11 4 (by decide) wd_223 (fun _ h => h) rfl dX11_two_122 ?_
    refine lv_iload_n hx hb dX11_two_125 rfl (lv_at hl 1 rfl) ?_
    refine lv_bipush (v := 23) hx hb dX11_two_126 (by decide) ?_
    obtain ⟨r12, hr12, h⟩ := ob_bd h
    refine n_I (kV (As := [.int v1, .int 23]) C0 (c_X2_coinsAt l v1 23 hr12) ⟨wd_725, wd_861, wd_723, wd_724, wd_4⟩ kd_X2_coinsAt ⟨Nat.le_of_ble_eq_true rfl, Nat.le_of_ble_eq_true rfl⟩ hP (lay_X2 B ct r10) rfl rfl hl.1 rfl (Nat.le_of_ble_eq_true rfl) dX11_two_128 ⟨Nat.le_of_ble_eq_true rfl, Nat.le_of_ble_eq_true rfl⟩) hS (fun H locs hP hS => ?_)
    obtain ⟨g13, h⟩ := ob_gd h
    obtain ⟨S14, eS14, h⟩ := ob_nm h
    refine x_iast C0 hP hS (fun S => lay_c3i B ct S (Or.inl rfl) (inb_lt g11)) g13 dX11_two_131 (fun H locs hP hS => ?_)
    rw [← eS14] at hP
    refine lv_aload_n hx hb dX11_two_132 rfl (lv_at hl 0 rfl) ?_
    refine x_get C0 hP (lay_X11 B ct S14) rfl inG11 10 (by decide) wd_229 (fun _ h => h) rfl dX11_two_133 ?_
    refine lv_iload hx hb dX11_two_136 (lv_at hl 4 rfl) ?_
    obtain ⟨g15, h⟩ := ob_gd h
    refine x_aald (v := .ref (B + ((132 + 1) + 1 * v4.toNatClampNeg))) C0 hP ((fun S => lay_c3 B ct S (Or.inr rfl)) S14) rfl rfl g15 rfl dX11_two_138 ?_
    refine lv_iload_n hx hb dX11_two_139 rfl (lv_at hl 3 rfl) ?_
    refine lv_aload_n hx hb dX11_two_140 rfl (lv_at hl 0 rfl) ?_
    refine x_get C0 hP (lay_X11 B ct S14) rfl inG11 4 (by decide) wd_223 (fun _ h => h) rfl dX11_two_141 ?_
    refine lv_iload_n hx hb dX11_two_144 rfl (lv_at hl 2 rfl) ?_
    refine lv_bipush (v := 23) hx hb dX11_two_145 (by decide) ?_
    obtain ⟨r16, hr16, h⟩ := ob_bd h
    refine n_I (kV (As := [.int v2, .int 23]) C0 (c_X2_coinsAt l v2 23 hr16) ⟨wd_725, wd_861, wd_723, wd_724, wd_4⟩ kd_X2_coinsAt ⟨Nat.le_of_ble_eq_true rfl, Nat.le_of_ble_eq_true rfl⟩ hP (lay_X2 B ct S14) rfl rfl hl.1 rfl (Nat.le_of_ble_eq_true rfl) dX11_two_147 ⟨Nat.le_of_ble_eq_true rfl, Nat.le_of_ble_eq_true rfl⟩) hS (fun H locs hP hS => ?_)
    obtain ⟨g17, h⟩ := ob_gd h
    obtain ⟨S18, eS18, h⟩ := ob_nm h
    refine x_iast C0 hP hS (fun S => lay_c3i B ct S (Or.inr rfl) (inb_lt g15)) g17 dX11_two_150 (fun H locs hP hS => ?_)
    rw [← eS18] at hP
    refine lv_iinc (v := v4 + 1) (lv' := [(4, .int (v4 + 1)), (0, .ref (B + 0)), (1, .int v1), (2, .int v2), (3, .int v3)]) hx hb dX11_two_151 hl (k := 4) rfl rfl (by decide) rfl (fun ls hl => ?_)
    refine lv_goto (tgt := 44) hx hb dX11_two_154 (by decide) ?_
    exact ih1 v1 v2 v3 (v4 + 1) S18 _ _ _ h hP hS (lv_sub hl [1, 2, 3, 4, 0] rfl)
set_option maxRecDepth 100000 in
set_option maxHeartbeats 4000000 in
theorem wl_X11_two_44 (l : Launch) {V : Int32 × St} (C0 : XC D ct p s m args meth c cX11_two 5 (some .int) RX11) (n0 : Nat) (ih0 : ∀ (v1 : Int32) (v2 : Int32) (v3 : Int32) (S : St) (H : Heap) (locs : List Loc) (ls : Array Slot), (lp n0 (l_X11_two_36) (v1, v2, v3, S)).bind some = some V → MP D ct B Hb S H → va_S (AB B) s.heap H locs → lv_has ls 5 [(0, .ref (B + 0)), (1, .int v1), (2, .int v2), (3, .int v3)] → W p l e { frames := 5, cells := 0, slots := 0, locals := 117 } s m args below meth c H locs 0 0 (MQ below (qIw D ct B Hb V) args s 0 0 (AB B)) (F0 m 36 ls []))  : ∀ (n1 : Nat) (v1 : Int32) (v2 : Int32) (v3 : Int32) (v4 : Int32) (S : St) {H : Heap} {locs : List Loc} {ls : Array Slot}, (lp n1 (l_X11_two_44) (v1, v2, v3, v4, S)).bind (lpF n0 (l_X11_two_36) some) = some V → MP D ct B Hb S H → va_S (AB B) s.heap H locs → lv_has ls 5 [(0, .ref (B + 0)), (1, .int v1), (2, .int v2), (3, .int v3), (4, .int v4)] → W p l e { frames := 5, cells := 0, slots := 0, locals := 117 } s m args below meth c H locs 0 0 (MQ below (qIw D ct B Hb V) args s 0 0 (AB B)) (F0 m 44 ls []) := by
  intro n1
  induction n1 with
  | zero =>
    intro v1 v2 v3 v4 S H locs ls h hP hS hl
    exact (lp_0 h).elim
  | succ n1 ih1 =>
    intro v1 v2 v3 v4 S H locs ls h hP hS hl
    have h := lp_s h
    exact w_X11_two_44 l C0 n0 ih0 n1 (fun v1 v2 v3 v4 S H locs ls h hP hS hl => ih1 v1 v2 v3 v4 S h hP hS hl) v1 v2 v3 v4 S h hP hS hl
set_option maxRecDepth 100000 in
set_option maxHeartbeats 4000000 in
theorem w_X11_two_36 (l : Launch) {V : Int32 × St} (C0 : XC D ct p s m args meth c cX11_two 5 (some .int) RX11) (n0 : Nat) (ih0 : ∀ (v1 : Int32) (v2 : Int32) (v3 : Int32) (S : St) (H : Heap) (locs : List Loc) (ls : Array Slot), (lp n0 (l_X11_two_36) (v1, v2, v3, S)).bind some = some V → MP D ct B Hb S H → va_S (AB B) s.heap H locs → lv_has ls 5 [(0, .ref (B + 0)), (1, .int v1), (2, .int v2), (3, .int v3)] → W p l e { frames := 5, cells := 0, slots := 0, locals := 117 } s m args below meth c H locs 0 0 (MQ below (qIw D ct B Hb V) args s 0 0 (AB B)) (F0 m 36 ls [])) (v1 : Int32) (v2 : Int32) (v3 : Int32) (S : St) {H : Heap} {locs : List Loc} {ls : Array Slot} (h : (b_X11_two_36 v1 v2 v3 S).bind (lpF n0 (l_X11_two_36) some) = some V) (hP : MP D ct B Hb S H) (hS : va_S (AB B) s.heap H locs) (hl : lv_has ls 5 [(0, .ref (B + 0)), (1, .int v1), (2, .int v2), (3, .int v3)]) : W p l e { frames := 5, cells := 0, slots := 0, locals := 117 } s m args below meth c H locs 0 0 (MQ below (qIw D ct B Hb V) args s 0 0 (AB B)) (F0 m 36 ls []) := by
  obtain ⟨hx, hb, hr, hml, hown, hts, hK, hlocks, hN⟩ := id C0
  unfold b_X11_two_36 at h
  refine lv_iload_n hx hb dX11_two_36 rfl (lv_at hl 3 rfl) ?_
  refine lv_iconst (v := 3) hx hb dX11_two_37 (by decide) ?_
  refine lv_icmp_ge (tgt := 163) hx hb dX11_two_38 (by decide) (fun z1 => ?_) (fun z1 => ?_)
  · have h := ob_t h z1
    have h := ob_mp h
    exact w_X11_two_163 l C0 S h hP hS (lv_sub hl [0] rfl)
  · have h := ob_f h z1
    refine lv_iconst (v := 0) hx hb dX11_two_41 (by decide) ?_
    refine lv_istore (lv' := [(4, .int 0), (0, .ref (B + 0)), (1, .int v1), (2, .int v2), (3, .int v3)]) hx hb dX11_two_42 hl (by decide) rfl (fun ls hl => ?_)
    exact wl_X11_two_44 l C0 n0 ih0 1000 v1 v2 v3 0 S h hP hS (lv_sub hl [1, 2, 3, 4, 0] rfl)
set_option maxRecDepth 100000 in
set_option maxHeartbeats 4000000 in
theorem wl_X11_two_36 (l : Launch) {V : Int32 × St} (C0 : XC D ct p s m args meth c cX11_two 5 (some .int) RX11)  : ∀ (n0 : Nat) (v1 : Int32) (v2 : Int32) (v3 : Int32) (S : St) {H : Heap} {locs : List Loc} {ls : Array Slot}, (lp n0 (l_X11_two_36) (v1, v2, v3, S)).bind some = some V → MP D ct B Hb S H → va_S (AB B) s.heap H locs → lv_has ls 5 [(0, .ref (B + 0)), (1, .int v1), (2, .int v2), (3, .int v3)] → W p l e { frames := 5, cells := 0, slots := 0, locals := 117 } s m args below meth c H locs 0 0 (MQ below (qIw D ct B Hb V) args s 0 0 (AB B)) (F0 m 36 ls []) := by
  intro n0
  induction n0 with
  | zero =>
    intro v1 v2 v3 S H locs ls h hP hS hl
    exact (lp_0 h).elim
  | succ n0 ih0 =>
    intro v1 v2 v3 S H locs ls h hP hS hl
    have h := lp_s h
    exact w_X11_two_36 l C0 n0 (fun v1 v2 v3 S H locs ls h hP hS hl => ih0 v1 v2 v3 S h hP hS hl) v1 v2 v3 S h hP hS hl
set_option maxRecDepth 100000 in
set_option maxHeartbeats 4000000 in
theorem w_X11_two_0 (l : Launch) {V : Int32 × St} (C0 : XC D ct p s m args meth c cX11_two 5 (some .int) RX11) (v1 : Int32) (v2 : Int32) (S : St) {H : Heap} {locs : List Loc} {ls : Array Slot} (h : (b_X11_two_0 v1 v2 S).bind some = some V) (hP : MP D ct B Hb S H) (hS : va_S (AB B) s.heap H locs) (hl : lv_has ls 5 [(0, .ref (B + 0)), (1, .int v1), (2, .int v2)]) : W p l e { frames := 5, cells := 0, slots := 0, locals := 117 } s m args below meth c H locs 0 0 (MQ below (qIw D ct B Hb V) args s 0 0 (AB B)) (F0 m 0 ls []) := by
  obtain ⟨hx, hb, hr, hml, hown, hts, hK, hlocks, hN⟩ := id C0
  unfold b_X11_two_0 at h
  refine lv_aload_n hx hb dX11_two_0 rfl (lv_at hl 0 rfl) ?_
  refine lv_iload_n hx hb dX11_two_1 rfl (lv_at hl 1 rfl) ?_
  obtain ⟨r1, hr1, h⟩ := ob_bd h
  refine n_I (kV (As := [.int v1]) C0 (c_X11_isNobody l v1 hr1) ⟨wd_477, wd_474, wd_476, wp_2, wd_1⟩ kd_X11_isNobody ⟨Nat.le_of_ble_eq_true rfl, Nat.le_of_ble_eq_true rfl⟩ hP (lay_X11 B ct S) rfl rfl hl.1 rfl (Nat.le_of_ble_eq_true rfl) dX11_two_2 ⟨Nat.le_of_ble_eq_true rfl, Nat.le_of_ble_eq_true rfl⟩) hS (fun H locs hP hS => ?_)
  refine lv_if_ne (tgt := 21) hx hb dX11_two_5 (by decide) (fun z2 => ?_) (fun z2 => ?_)
  · have h := ob_f h z2
    refine lv_iconst (v := (-1)) hx hb dX11_two_21 (by decide) ?_
    exact r_Iw C0 hP hS h dX11_two_22
  · have h := ob_t h z2
    refine lv_aload_n hx hb dX11_two_8 rfl (lv_at hl 0 rfl) ?_
    refine lv_iload_n hx hb dX11_two_9 rfl (lv_at hl 2 rfl) ?_
    obtain ⟨r3, hr3, h⟩ := ob_bd h
    refine n_I (kV (As := [.int v2]) C0 (c_X11_isNobody l v2 hr3) ⟨wd_477, wd_474, wd_476, wp_2, wd_1⟩ kd_X11_isNobody ⟨Nat.le_of_ble_eq_true rfl, Nat.le_of_ble_eq_true rfl⟩ hP (lay_X11 B ct S) rfl rfl hl.1 rfl (Nat.le_of_ble_eq_true rfl) dX11_two_10 ⟨Nat.le_of_ble_eq_true rfl, Nat.le_of_ble_eq_true rfl⟩) hS (fun H locs hP hS => ?_)
    refine lv_if_ne (tgt := 21) hx hb dX11_two_13 (by decide) (fun z4 => ?_) (fun z4 => ?_)
    · have h := ob_f h z4
      refine lv_iconst (v := (-1)) hx hb dX11_two_21 (by decide) ?_
      exact r_Iw C0 hP hS h dX11_two_22
    · have h := ob_t h z4
      refine lv_iload_n hx hb dX11_two_16 rfl (lv_at hl 1 rfl) ?_
      refine lv_iload_n hx hb dX11_two_17 rfl (lv_at hl 2 rfl) ?_
      refine lv_icmp_ne (tgt := 23) hx hb dX11_two_18 (by decide) (fun z5 => ?_) (fun z5 => ?_)
      · have h := ob_f h z5
        refine lv_aload_n hx hb dX11_two_23 rfl (lv_at hl 0 rfl) ?_
        refine x_get C0 hP (lay_X11 B ct S) rfl inG11 1 (by decide) wd_220 (fun _ h => h) rfl dX11_two_24 ?_
        refine lv_aload_n hx hb dX11_two_27 rfl (lv_at hl 0 rfl) ?_
        refine x_get C0 hP (lay_X11 B ct S) rfl inG11 0 (by decide) wd_219 (fun _ h => h) rfl dX11_two_28 ?_
        obtain ⟨r6, hr6, h⟩ := ob_bd h
        refine n_Vw (kV (As := [.ref (B + 1)]) C0 (c_X10_become l 19 1 (Or.inr (Or.inl rfl)) (Or.inl rfl) hr6) ⟨wd_267, wd_264, wd_265, wd_266, wd_2⟩ kd_X10_become ⟨Nat.le_of_ble_eq_true rfl, Nat.le_of_ble_eq_true rfl⟩ hP (lay_X10 B ct S (Or.inr (Or.inl rfl))) rfl rfl hl.1 rfl (Nat.le_of_ble_eq_true rfl) dX11_two_31 ⟨Nat.le_of_ble_eq_true rfl, Nat.le_of_ble_eq_true rfl⟩) hS (fun H locs hP hS => ?_)
        refine lv_iconst (v := 0) hx hb dX11_two_34 (by decide) ?_
        refine lv_istore_n (lv' := [(3, .int 0), (0, .ref (B + 0)), (1, .int v1), (2, .int v2)]) hx hb dX11_two_35 rfl hl (by decide) rfl (fun ls hl => ?_)
        exact wl_X11_two_36 l C0 1000 v1 v2 0 r6 h hP hS (lv_sub hl [1, 2, 3, 0] rfl)
      · have h := ob_t h z5
        refine lv_iconst (v := (-1)) hx hb dX11_two_21 (by decide) ?_
        exact r_Iw C0 hP hS h dX11_two_22
set_option maxRecDepth 100000 in
set_option maxHeartbeats 4000000 in
theorem c_X11_two (l : Launch) (a1 : Int32) (a2 : Int32) {D : va_G} {ct : Nat → ClassId} {B : Nat} {Hb : Heap} {S : St} {V : Int32 × St} (h : L_X11_two a1 a2 S = some V) : Met l yX11_two (Cond.code yX11_two cX11_two 5 (some .int) :: tG) { frames := 5, cells := 0, slots := 0, locals := 117 } (va_Pc [.ref (B + 0), .int a1, .int a2] (MPK D ct B Hb S)) (qIw D ct B Hb V) 0 0 (AB B) := by
  refine mk_met (by decide +kernel) (Nat.le_of_ble_eq_true rfl) (fun p e s m args below meth c ls C0 hP hl _ => ?_)
  have h := ob_of h
  exact w_X11_two_0 l C0 a1 a2 S h hP va_S.rf (lv_sub hl [0, 1, 2] rfl)
set_option maxRecDepth 100000 in
set_option maxHeartbeats 4000000 in
theorem w_X11_without_54 (l : Launch) {V : Int32 × St} (C0 : XC D ct p s m args meth c cX11_without 3 (some .int) RX11) (n0 : Nat) (ih0 : ∀ (v1 : Int32) (v2 : Int32) (S : St) (H : Heap) (locs : List Loc) (ls : Array Slot), (lp n0 (l_X11_without_16) (v1, v2, S)).bind some = some V → MP D ct B Hb S H → va_S (AB B) s.heap H locs → lv_has ls 3 [(0, .ref (B + 0)), (1, .int v1), (2, .int v2)] → W p l e { frames := 5, cells := 0, slots := 0, locals := 117 } s m args below meth c H locs 0 0 (MQ below (qIw D ct B Hb V) args s 0 0 (AB B)) (F0 m 16 ls [])) (v1 : Int32) (v2 : Int32) (S : St) {H : Heap} {locs : List Loc} {ls : Array Slot} (h : (b_X11_without_54 v1 v2 S).bind (lpF n0 (l_X11_without_16) some) = some V) (hP : MP D ct B Hb S H) (hS : va_S (AB B) s.heap H locs) (hl : lv_has ls 3 [(0, .ref (B + 0)), (1, .int v1), (2, .int v2)]) : W p l e { frames := 5, cells := 0, slots := 0, locals := 117 } s m args below meth c H locs 0 0 (MQ below (qIw D ct B Hb V) args s 0 0 (AB B)) (F0 m 54 ls []) := by
  obtain ⟨hx, hb, hr, hml, hown, hts, hK, hlocks, hN⟩ := id C0
  unfold b_X11_without_54 at h
  refine lv_iinc (v := v2 + 1) (lv' := [(2, .int (v2 + 1)), (0, .ref (B + 0)), (1, .int v1)]) hx hb dX11_without_54 hl (k := 2) rfl rfl (by decide) rfl (fun ls hl => ?_)
  refine lv_goto (tgt := 16) hx hb dX11_without_57 (by decide) ?_
  exact ih0 v1 (v2 + 1) S _ _ _ h hP hS (lv_sub hl [1, 2, 0] rfl)
set_option maxRecDepth 100000 in
set_option maxHeartbeats 4000000 in
theorem w_X11_without_16 (l : Launch) {V : Int32 × St} (C0 : XC D ct p s m args meth c cX11_without 3 (some .int) RX11) (n0 : Nat) (ih0 : ∀ (v1 : Int32) (v2 : Int32) (S : St) (H : Heap) (locs : List Loc) (ls : Array Slot), (lp n0 (l_X11_without_16) (v1, v2, S)).bind some = some V → MP D ct B Hb S H → va_S (AB B) s.heap H locs → lv_has ls 3 [(0, .ref (B + 0)), (1, .int v1), (2, .int v2)] → W p l e { frames := 5, cells := 0, slots := 0, locals := 117 } s m args below meth c H locs 0 0 (MQ below (qIw D ct B Hb V) args s 0 0 (AB B)) (F0 m 16 ls [])) (v1 : Int32) (v2 : Int32) (S : St) {H : Heap} {locs : List Loc} {ls : Array Slot} (h : (b_X11_without_16 v1 v2 S).bind (lpF n0 (l_X11_without_16) some) = some V) (hP : MP D ct B Hb S H) (hS : va_S (AB B) s.heap H locs) (hl : lv_has ls 3 [(0, .ref (B + 0)), (1, .int v1), (2, .int v2)]) : W p l e { frames := 5, cells := 0, slots := 0, locals := 117 } s m args below meth c H locs 0 0 (MQ below (qIw D ct B Hb V) args s 0 0 (AB B)) (F0 m 16 ls []) := by
  obtain ⟨hx, hb, hr, hml, hown, hts, hK, hlocks, hN⟩ := id C0
  unfold b_X11_without_16 at h
  refine lv_iload_n hx hb dX11_without_16 rfl (lv_at hl 2 rfl) ?_
  refine lv_aload_n hx hb dX11_without_17 rfl (lv_at hl 0 rfl) ?_
  refine x_get C0 hP (lay_X11 B ct S) rfl inG11 0 (by decide) wd_219 (fun _ h => h) rfl dX11_without_18 ?_
  refine x_get C0 hP (lay_X10 B ct S (Or.inl rfl)) rfl inG10 0 (by decide) wd_63 (fun _ h => h) rfl dX11_without_21 ?_
  refine lv_icmp_ge (tgt := 60) hx hb dX11_without_24 (by decide) (fun z1 => ?_) (fun z1 => ?_)
  · have h := ob_t h z1
    refine lv_iload_n hx hb dX11_without_60 rfl (lv_at hl 1 rfl) ?_
    exact r_Iw C0 hP hS h dX11_without_61
  · have h := ob_f h z1
    refine lv_aload_n hx hb dX11_without_27 rfl (lv_at hl 0 rfl) ?_
    refine x_get C0 hP (lay_X11 B ct S) rfl inG11 4 (by decide) wd_223 (fun _ h => h) rfl dX11_without_28 ?_
    refine x_get C0 hP (lay_X2 B ct S) rfl inG2 4 (by decide) wd_160 (fun _ h => h) rfl dX11_without_31 ?_
    refine lv_iload_n hx hb dX11_without_34 rfl (lv_at hl 2 rfl) ?_
    obtain ⟨g2, h⟩ := ob_gd h
    refine x_iald C0 hP ((fun S => lay_58 B ct S) S) g2 dX11_without_35 ?_
    refine lv_aload_n hx hb dX11_without_36 rfl (lv_at hl 0 rfl) ?_
    refine x_get C0 hP (lay_X11 B ct S) rfl inG11 4 (by decide) wd_223 (fun _ h => h) rfl dX11_without_37 ?_
    refine x_get C0 hP (lay_X2 B ct S) rfl inG2 3 (by decide) wd_158 (fun _ h => h) rfl dX11_without_40 ?_
    refine lv_iload_n hx hb dX11_without_43 rfl (lv_at hl 2 rfl) ?_
    obtain ⟨g3, h⟩ := ob_gd h
    refine x_iald C0 hP ((fun S => lay_57 B ct S) S) g3 dX11_without_44 ?_
    obtain ⟨r4, hr4, h⟩ := ob_bd h
    refine n_I (kS (As := [.int (gi S 57 v2.toNatClampNeg)]) C0 (c_X11_sideOf l (gi S 57 v2.toNatClampNeg) hr4) ⟨wd_685, wd_869, wd_684, wd_1⟩ kd_X11_sideOf ⟨Nat.le_of_ble_eq_true rfl, Nat.le_of_ble_eq_true rfl⟩ hP rfl hl.1 rfl (Nat.le_of_ble_eq_true rfl) dX11_without_45 ⟨Nat.le_of_ble_eq_true rfl, Nat.le_of_ble_eq_true rfl⟩) hS (fun H locs hP hS => ?_)
    refine lv_icmp_eq (tgt := 54) hx hb dX11_without_48 (by decide) (fun z5 => ?_) (fun z5 => ?_)
    · have h := ob_t h z5
      exact w_X11_without_54 l C0 n0 ih0 v1 v2 S h hP hS (lv_sub hl [0, 1, 2] rfl)
    · have h := ob_f h z5
      refine lv_iinc (v := v1 + 1) (lv' := [(1, .int (v1 + 1)), (0, .ref (B + 0)), (2, .int v2)]) hx hb dX11_without_51 hl (k := 1) rfl rfl (by decide) rfl (fun ls hl => ?_)
      exact w_X11_without_54 l C0 n0 ih0 (v1 + 1) v2 S h hP hS (lv_sub hl [1, 0, 2] rfl)
set_option maxRecDepth 100000 in
set_option maxHeartbeats 4000000 in
theorem wl_X11_without_16 (l : Launch) {V : Int32 × St} (C0 : XC D ct p s m args meth c cX11_without 3 (some .int) RX11)  : ∀ (n0 : Nat) (v1 : Int32) (v2 : Int32) (S : St) {H : Heap} {locs : List Loc} {ls : Array Slot}, (lp n0 (l_X11_without_16) (v1, v2, S)).bind some = some V → MP D ct B Hb S H → va_S (AB B) s.heap H locs → lv_has ls 3 [(0, .ref (B + 0)), (1, .int v1), (2, .int v2)] → W p l e { frames := 5, cells := 0, slots := 0, locals := 117 } s m args below meth c H locs 0 0 (MQ below (qIw D ct B Hb V) args s 0 0 (AB B)) (F0 m 16 ls []) := by
  intro n0
  induction n0 with
  | zero =>
    intro v1 v2 S H locs ls h hP hS hl
    exact (lp_0 h).elim
  | succ n0 ih0 =>
    intro v1 v2 S H locs ls h hP hS hl
    have h := lp_s h
    exact w_X11_without_16 l C0 n0 (fun v1 v2 S H locs ls h hP hS hl => ih0 v1 v2 S h hP hS hl) v1 v2 S h hP hS hl
set_option maxRecDepth 100000 in
set_option maxHeartbeats 4000000 in
theorem w_X11_without_0 (l : Launch) {V : Int32 × St} (C0 : XC D ct p s m args meth c cX11_without 3 (some .int) RX11) (S : St) {H : Heap} {locs : List Loc} {ls : Array Slot} (h : (b_X11_without_0 S).bind some = some V) (hP : MP D ct B Hb S H) (hS : va_S (AB B) s.heap H locs) (hl : lv_has ls 3 [(0, .ref (B + 0))]) : W p l e { frames := 5, cells := 0, slots := 0, locals := 117 } s m args below meth c H locs 0 0 (MQ below (qIw D ct B Hb V) args s 0 0 (AB B)) (F0 m 0 ls []) := by
  obtain ⟨hx, hb, hr, hml, hown, hts, hK, hlocks, hN⟩ := id C0
  unfold b_X11_without_0 at h
  refine lv_aload_n hx hb dX11_without_0 rfl (lv_at hl 0 rfl) ?_
  refine x_get C0 hP (lay_X11 B ct S) rfl inG11 4 (by decide) wd_223 (fun _ h => h) rfl dX11_without_1 ?_
  refine lv_aload_n hx hb dX11_without_4 rfl (lv_at hl 0 rfl) ?_
  refine x_get C0 hP (lay_X11 B ct S) rfl inG11 0 (by decide) wd_219 (fun _ h => h) rfl dX11_without_5 ?_
  refine lv_iconst (v := (-1)) hx hb dX11_without_8 (by decide) ?_
  obtain ⟨r1, hr1, h⟩ := ob_bd h
  refine n_Vw (kV (As := [.ref (B + 1), .int ((-1))]) C0 (c_X2_run l 1 (Or.inl rfl) ((-1)) hr1) ⟨wd_628, wd_625, wd_626, wd_627, wd_4⟩ kd_X2_run ⟨Nat.le_of_ble_eq_true rfl, Nat.le_of_ble_eq_true rfl⟩ hP (lay_X2 B ct S) rfl rfl hl.1 rfl (Nat.le_of_ble_eq_true rfl) dX11_without_9 ⟨Nat.le_of_ble_eq_true rfl, Nat.le_of_ble_eq_true rfl⟩) hS (fun H locs hP hS => ?_)
  refine lv_iconst (v := 0) hx hb dX11_without_12 (by decide) ?_
  refine lv_istore_n (lv' := [(1, .int 0), (0, .ref (B + 0))]) hx hb dX11_without_13 rfl hl (by decide) rfl (fun ls hl => ?_)
  refine lv_iconst (v := 0) hx hb dX11_without_14 (by decide) ?_
  refine lv_istore_n (lv' := [(2, .int 0), (1, .int 0), (0, .ref (B + 0))]) hx hb dX11_without_15 rfl hl (by decide) rfl (fun ls hl => ?_)
  exact wl_X11_without_16 l C0 1000 0 0 r1 h hP hS (lv_sub hl [2, 1, 0] rfl)
set_option maxRecDepth 100000 in
set_option maxHeartbeats 4000000 in
theorem c_X11_without (l : Launch) {D : va_G} {ct : Nat → ClassId} {B : Nat} {Hb : Heap} {S : St} {V : Int32 × St} (h : L_X11_without S = some V) : Met l yX11_without (Cond.code yX11_without cX11_without 3 (some .int) :: tG) { frames := 5, cells := 0, slots := 0, locals := 117 } (va_Pc [.ref (B + 0)] (MPK D ct B Hb S)) (qIw D ct B Hb V) 0 0 (AB B) := by
  refine mk_met (by decide +kernel) (Nat.le_of_ble_eq_true rfl) (fun p e s m args below meth c ls C0 hP hl _ => ?_)
  have h := ob_of h
  exact w_X11_without_0 l C0 S h hP va_S.rf (lv_sub hl [0] rfl)
set_option maxRecDepth 100000 in
set_option maxHeartbeats 4000000 in
theorem w_X11_dayBegunAlike_59 (l : Launch) {V : Int32} (C0 : XC D ct p s m args meth c cX11_dayBegunAlike 5 (some .int) RX11) (v1 : Int32) (v2 : Int32) (v3 : Int32) (S : St) (n0 : Nat) (ih0 : ∀ (v1 : Int32) (v2 : Int32) (H : Heap) (locs : List Loc) (ls : Array Slot), (lp n0 (l_X11_dayBegunAlike_2 S) (v1, v2)).bind some = some V → MP D ct B Hb S H → va_S (AB B) s.heap H locs → lv_has ls 5 [(0, .ref (B + 0)), (1, .int v1), (2, .int v2)] → W p l e { frames := 0, cells := 0, slots := 0, locals := 0 } s m args below meth c H locs 0 0 (MQ below (qI D ct B Hb S V) args s 0 0 (AB B)) (F0 m 2 ls [])) {H : Heap} {locs : List Loc} {ls : Array Slot} (h : (b_X11_dayBegunAlike_59 v1 v2 v3 S).bind (lpF n0 (l_X11_dayBegunAlike_2 S) some) = some V) (hP : MP D ct B Hb S H) (hS : va_S (AB B) s.heap H locs) (hl : lv_has ls 5 [(0, .ref (B + 0)), (1, .int v1), (2, .int v2), (3, .int v3)]) : W p l e { frames := 0, cells := 0, slots := 0, locals := 0 } s m args below meth c H locs 0 0 (MQ below (qI D ct B Hb S V) args s 0 0 (AB B)) (F0 m 59 ls []) := by
  obtain ⟨hx, hb, hr, hml, hown, hts, hK, hlocks, hN⟩ := id C0
  unfold b_X11_dayBegunAlike_59 at h
  refine lv_iload_n hx hb dX11_dayBegunAlike_59 rfl (lv_at hl 3 rfl) ?_
  refine lv_if_eq (tgt := 65) hx hb dX11_dayBegunAlike_60 (by decide) (fun z1 => ?_) (fun z1 => ?_)
  · have h := ob_t h z1
    refine lv_iinc (v := v2 + 1) (lv' := [(2, .int (v2 + 1)), (0, .ref (B + 0)), (1, .int v1), (3, .int v3)]) hx hb dX11_dayBegunAlike_65 hl (k := 2) rfl rfl (by decide) rfl (fun ls hl => ?_)
    refine lv_goto (tgt := 2) hx hb dX11_dayBegunAlike_68 (by decide) ?_
    exact ih0 v1 (v2 + 1) _ _ _ h hP hS (lv_sub hl [1, 2, 0] rfl)
  · have h := ob_f h z1
    refine lv_iload_n hx hb dX11_dayBegunAlike_63 rfl (lv_at hl 2 rfl) ?_
    exact r_I C0 hP hS h dX11_dayBegunAlike_64
set_option maxRecDepth 100000 in
set_option maxHeartbeats 4000000 in
theorem w_X11_dayBegunAlike_51 (l : Launch) {V : Int32} (C0 : XC D ct p s m args meth c cX11_dayBegunAlike 5 (some .int) RX11) (v1 : Int32) (v2 : Int32) (v4 : Int32) (s0 : Int32) (s1 : Int32) (S : St) (n0 : Nat) (ih0 : ∀ (v1 : Int32) (v2 : Int32) (H : Heap) (locs : List Loc) (ls : Array Slot), (lp n0 (l_X11_dayBegunAlike_2 S) (v1, v2)).bind some = some V → MP D ct B Hb S H → va_S (AB B) s.heap H locs → lv_has ls 5 [(0, .ref (B + 0)), (1, .int v1), (2, .int v2)] → W p l e { frames := 0, cells := 0, slots := 0, locals := 0 } s m args below meth c H locs 0 0 (MQ below (qI D ct B Hb S V) args s 0 0 (AB B)) (F0 m 2 ls [])) (n1 : Nat) (ih1 : ∀ (v1 : Int32) (v2 : Int32) (v3 : Int32) (v4 : Int32) (H : Heap) (locs : List Loc) (ls : Array Slot), (lp n1 (l_X11_dayBegunAlike_12 S) (v1, v2, v3, v4)).bind (lpF n0 (l_X11_dayBegunAlike_2 S) some) = some V → MP D ct B Hb S H → va_S (AB B) s.heap H locs → lv_has ls 5 [(0, .ref (B + 0)), (1, .int v1), (2, .int v2), (3, .int v3), (4, .int v4)] → W p l e { frames := 0, cells := 0, slots := 0, locals := 0 } s m args below meth c H locs 0 0 (MQ below (qI D ct B Hb S V) args s 0 0 (AB B)) (F0 m 12 ls [])) {H : Heap} {locs : List Loc} {ls : Array Slot} (h : (b_X11_dayBegunAlike_51 v1 v2 v4 s0 s1 S).bind (lpF n1 (l_X11_dayBegunAlike_12 S) (lpF n0 (l_X11_dayBegunAlike_2 S) some)) = some V) (hP : MP D ct B Hb S H) (hS : va_S (AB B) s.heap H locs) (hl : lv_has ls 5 [(0, .ref (B + 0)), (1, .int v1), (2, .int v2), (4, .int v4)]) : W p l e { frames := 0, cells := 0, slots := 0, locals := 0 } s m args below meth c H locs 0 0 (MQ below (qI D ct B Hb S V) args s 0 0 (AB B)) (F0 m 51 ls [.int s0, .int s1]) := by
  obtain ⟨hx, hb, hr, hml, hown, hts, hK, hlocks, hN⟩ := id C0
  unfold b_X11_dayBegunAlike_51 at h
  refine lv_iand hx hb dX11_dayBegunAlike_51 ?_
  refine lv_istore_n (lv' := [(3, .int (s1 &&& s0)), (0, .ref (B + 0)), (1, .int v1), (2, .int v2), (4, .int v4)]) hx hb dX11_dayBegunAlike_52 rfl hl (by decide) rfl (fun ls hl => ?_)
  refine lv_iinc (v := v4 + 1) (lv' := [(4, .int (v4 + 1)), (3, .int (s1 &&& s0)), (0, .ref (B + 0)), (1, .int v1), (2, .int v2)]) hx hb dX11_dayBegunAlike_53 hl (k := 4) rfl rfl (by decide) rfl (fun ls hl => ?_)
  refine lv_goto (tgt := 12) hx hb dX11_dayBegunAlike_56 (by decide) ?_
  exact ih1 v1 v2 (s1 &&& s0) (v4 + 1) _ _ _ h hP hS (lv_sub hl [2, 3, 4, 1, 0] rfl)
set_option maxRecDepth 100000 in
set_option maxHeartbeats 4000000 in
theorem w_X11_dayBegunAlike_12 (l : Launch) {V : Int32} (C0 : XC D ct p s m args meth c cX11_dayBegunAlike 5 (some .int) RX11) (v1 : Int32) (v2 : Int32) (v3 : Int32) (v4 : Int32) (S : St) (n0 : Nat) (ih0 : ∀ (v1 : Int32) (v2 : Int32) (H : Heap) (locs : List Loc) (ls : Array Slot), (lp n0 (l_X11_dayBegunAlike_2 S) (v1, v2)).bind some = some V → MP D ct B Hb S H → va_S (AB B) s.heap H locs → lv_has ls 5 [(0, .ref (B + 0)), (1, .int v1), (2, .int v2)] → W p l e { frames := 0, cells := 0, slots := 0, locals := 0 } s m args below meth c H locs 0 0 (MQ below (qI D ct B Hb S V) args s 0 0 (AB B)) (F0 m 2 ls [])) (n1 : Nat) (ih1 : ∀ (v1 : Int32) (v2 : Int32) (v3 : Int32) (v4 : Int32) (H : Heap) (locs : List Loc) (ls : Array Slot), (lp n1 (l_X11_dayBegunAlike_12 S) (v1, v2, v3, v4)).bind (lpF n0 (l_X11_dayBegunAlike_2 S) some) = some V → MP D ct B Hb S H → va_S (AB B) s.heap H locs → lv_has ls 5 [(0, .ref (B + 0)), (1, .int v1), (2, .int v2), (3, .int v3), (4, .int v4)] → W p l e { frames := 0, cells := 0, slots := 0, locals := 0 } s m args below meth c H locs 0 0 (MQ below (qI D ct B Hb S V) args s 0 0 (AB B)) (F0 m 12 ls [])) {H : Heap} {locs : List Loc} {ls : Array Slot} (h : (b_X11_dayBegunAlike_12 v1 v2 v3 v4 S).bind (lpF n1 (l_X11_dayBegunAlike_12 S) (lpF n0 (l_X11_dayBegunAlike_2 S) some)) = some V) (hP : MP D ct B Hb S H) (hS : va_S (AB B) s.heap H locs) (hl : lv_has ls 5 [(0, .ref (B + 0)), (1, .int v1), (2, .int v2), (3, .int v3), (4, .int v4)]) : W p l e { frames := 0, cells := 0, slots := 0, locals := 0 } s m args below meth c H locs 0 0 (MQ below (qI D ct B Hb S V) args s 0 0 (AB B)) (F0 m 12 ls []) := by
  obtain ⟨hx, hb, hr, hml, hown, hts, hK, hlocks, hN⟩ := id C0
  unfold b_X11_dayBegunAlike_12 at h
  refine lv_iload hx hb dX11_dayBegunAlike_12 (lv_at hl 4 rfl) ?_
  refine lv_aload_n hx hb dX11_dayBegunAlike_14 rfl (lv_at hl 0 rfl) ?_
  refine x_get C0 hP (lay_X11 B ct S) rfl inG11 1 (by decide) wd_220 (fun _ h => h) rfl dX11_dayBegunAlike_15 ?_
  refine x_get C0 hP (lay_X10 B ct S (Or.inr (Or.inl rfl))) rfl inG10 0 (by decide) wd_63 (fun _ h => h) rfl dX11_dayBegunAlike_18 ?_
  refine lv_icmp_ge (tgt := 59) hx hb dX11_dayBegunAlike_21 (by decide) (fun z1 => ?_) (fun z1 => ?_)
  · have h := ob_t h z1
    have h := ob_mp h
    exact w_X11_dayBegunAlike_59 l C0 v1 v2 v3 S n0 ih0 h hP hS (lv_sub hl [0, 1, 2, 3] rfl)
  · have h := ob_f h z1
    refine lv_iload_n hx hb dX11_dayBegunAlike_24 rfl (lv_at hl 3 rfl) ?_
    refine lv_aload_n hx hb dX11_dayBegunAlike_25 rfl (lv_at hl 0 rfl) ?_
    refine x_get C0 hP (lay_X11 B ct S) rfl inG11 8 (by decide) wd_227 (fun _ h => h) rfl dX11_dayBegunAlike_26 ?_
    refine lv_iload_n hx hb dX11_dayBegunAlike_29 rfl (lv_at hl 2 rfl) ?_
    obtain ⟨g2, h⟩ := ob_gd h
    refine x_aald (v := .ref (B + (87 + 1 * v2.toNatClampNeg))) C0 hP (lay_86 B ct S) rfl rfl g2 rfl dX11_dayBegunAlike_30 ?_
    refine lv_iload hx hb dX11_dayBegunAlike_31 (lv_at hl 4 rfl) ?_
    obtain ⟨g3, h⟩ := ob_gd h
    refine x_iald C0 hP ((fun S => lay_beg B ct S (inb_lt g2)) S) g3 dX11_dayBegunAlike_33 ?_
    refine lv_aload_n hx hb dX11_dayBegunAlike_34 rfl (lv_at hl 0 rfl) ?_
    refine x_get C0 hP (lay_X11 B ct S) rfl inG11 8 (by decide) wd_227 (fun _ h => h) rfl dX11_dayBegunAlike_35 ?_
    refine lv_iload_n hx hb dX11_dayBegunAlike_38 rfl (lv_at hl 1 rfl) ?_
    obtain ⟨g4, h⟩ := ob_gd h
    refine x_aald (v := .ref (B + (87 + 1 * v1.toNatClampNeg))) C0 hP (lay_86 B ct S) rfl rfl g4 rfl dX11_dayBegunAlike_39 ?_
    refine lv_iload hx hb dX11_dayBegunAlike_40 (lv_at hl 4 rfl) ?_
    obtain ⟨g5, h⟩ := ob_gd h
    refine x_iald C0 hP ((fun S => lay_beg B ct S (inb_lt g4)) S) g5 dX11_dayBegunAlike_42 ?_
    refine lv_icmp_ne (tgt := 50) hx hb dX11_dayBegunAlike_43 (by decide) (fun z6 => ?_) (fun z6 => ?_)
    · have h := ob_f h z6
      refine lv_iconst (v := 0) hx hb dX11_dayBegunAlike_50 (by decide) ?_
      exact w_X11_dayBegunAlike_51 l C0 v1 v2 v4 0 v3 S n0 ih0 n1 ih1 h hP hS (lv_sub hl [0, 1, 2, 4] rfl)
    · have h := ob_t h z6
      refine lv_iconst (v := 1) hx hb dX11_dayBegunAlike_46 (by decide) ?_
      refine lv_goto (tgt := 51) hx hb dX11_dayBegunAlike_47 (by decide) ?_
      exact w_X11_dayBegunAlike_51 l C0 v1 v2 v4 1 v3 S n0 ih0 n1 ih1 h hP hS (lv_sub hl [0, 1, 2, 4] rfl)
set_option maxRecDepth 100000 in
set_option maxHeartbeats 4000000 in
theorem wl_X11_dayBegunAlike_12 (l : Launch) {V : Int32} (C0 : XC D ct p s m args meth c cX11_dayBegunAlike 5 (some .int) RX11) (S : St) (n0 : Nat) (ih0 : ∀ (v1 : Int32) (v2 : Int32) (H : Heap) (locs : List Loc) (ls : Array Slot), (lp n0 (l_X11_dayBegunAlike_2 S) (v1, v2)).bind some = some V → MP D ct B Hb S H → va_S (AB B) s.heap H locs → lv_has ls 5 [(0, .ref (B + 0)), (1, .int v1), (2, .int v2)] → W p l e { frames := 0, cells := 0, slots := 0, locals := 0 } s m args below meth c H locs 0 0 (MQ below (qI D ct B Hb S V) args s 0 0 (AB B)) (F0 m 2 ls []))  : ∀ (n1 : Nat) (v1 : Int32) (v2 : Int32) (v3 : Int32) (v4 : Int32) {H : Heap} {locs : List Loc} {ls : Array Slot}, (lp n1 (l_X11_dayBegunAlike_12 S) (v1, v2, v3, v4)).bind (lpF n0 (l_X11_dayBegunAlike_2 S) some) = some V → MP D ct B Hb S H → va_S (AB B) s.heap H locs → lv_has ls 5 [(0, .ref (B + 0)), (1, .int v1), (2, .int v2), (3, .int v3), (4, .int v4)] → W p l e { frames := 0, cells := 0, slots := 0, locals := 0 } s m args below meth c H locs 0 0 (MQ below (qI D ct B Hb S V) args s 0 0 (AB B)) (F0 m 12 ls []) := by
  intro n1
  induction n1 with
  | zero =>
    intro v1 v2 v3 v4 H locs ls h hP hS hl
    exact (lp_0 h).elim
  | succ n1 ih1 =>
    intro v1 v2 v3 v4 H locs ls h hP hS hl
    have h := lp_s h
    exact w_X11_dayBegunAlike_12 l C0 v1 v2 v3 v4 S n0 ih0 n1 (fun v1 v2 v3 v4 H locs ls h hP hS hl => ih1 v1 v2 v3 v4 h hP hS hl) h hP hS hl
set_option maxRecDepth 100000 in
set_option maxHeartbeats 4000000 in
theorem w_X11_dayBegunAlike_2 (l : Launch) {V : Int32} (C0 : XC D ct p s m args meth c cX11_dayBegunAlike 5 (some .int) RX11) (v1 : Int32) (v2 : Int32) (S : St) (n0 : Nat) (ih0 : ∀ (v1 : Int32) (v2 : Int32) (H : Heap) (locs : List Loc) (ls : Array Slot), (lp n0 (l_X11_dayBegunAlike_2 S) (v1, v2)).bind some = some V → MP D ct B Hb S H → va_S (AB B) s.heap H locs → lv_has ls 5 [(0, .ref (B + 0)), (1, .int v1), (2, .int v2)] → W p l e { frames := 0, cells := 0, slots := 0, locals := 0 } s m args below meth c H locs 0 0 (MQ below (qI D ct B Hb S V) args s 0 0 (AB B)) (F0 m 2 ls [])) {H : Heap} {locs : List Loc} {ls : Array Slot} (h : (b_X11_dayBegunAlike_2 v1 v2 S).bind (lpF n0 (l_X11_dayBegunAlike_2 S) some) = some V) (hP : MP D ct B Hb S H) (hS : va_S (AB B) s.heap H locs) (hl : lv_has ls 5 [(0, .ref (B + 0)), (1, .int v1), (2, .int v2)]) : W p l e { frames := 0, cells := 0, slots := 0, locals := 0 } s m args below meth c H locs 0 0 (MQ below (qI D ct B Hb S V) args s 0 0 (AB B)) (F0 m 2 ls []) := by
  obtain ⟨hx, hb, hr, hml, hown, hts, hK, hlocks, hN⟩ := id C0
  unfold b_X11_dayBegunAlike_2 at h
  refine lv_iload_n hx hb dX11_dayBegunAlike_2 rfl (lv_at hl 2 rfl) ?_
  refine lv_iload_n hx hb dX11_dayBegunAlike_3 rfl (lv_at hl 1 rfl) ?_
  refine lv_icmp_ge (tgt := 71) hx hb dX11_dayBegunAlike_4 (by decide) (fun z1 => ?_) (fun z1 => ?_)
  · have h := ob_t h z1
    refine lv_bipush (v := (-4)) hx hb dX11_dayBegunAlike_71 (by decide) ?_
    exact r_I C0 hP hS h dX11_dayBegunAlike_73
  · have h := ob_f h z1
    refine lv_iconst (v := 1) hx hb dX11_dayBegunAlike_7 (by decide) ?_
    refine lv_istore_n (lv' := [(3, .int 1), (0, .ref (B + 0)), (1, .int v1), (2, .int v2)]) hx hb dX11_dayBegunAlike_8 rfl hl (by decide) rfl (fun ls hl => ?_)
    refine lv_iconst (v := 0) hx hb dX11_dayBegunAlike_9 (by decide) ?_
    refine lv_istore (lv' := [(4, .int 0), (3, .int 1), (0, .ref (B + 0)), (1, .int v1), (2, .int v2)]) hx hb dX11_dayBegunAlike_10 hl (by decide) rfl (fun ls hl => ?_)
    exact wl_X11_dayBegunAlike_12 l C0 S n0 ih0 1000 v1 v2 1 0 h hP hS (lv_sub hl [2, 3, 4, 1, 0] rfl)
set_option maxRecDepth 100000 in
set_option maxHeartbeats 4000000 in
theorem wl_X11_dayBegunAlike_2 (l : Launch) {V : Int32} (C0 : XC D ct p s m args meth c cX11_dayBegunAlike 5 (some .int) RX11) (S : St)  : ∀ (n0 : Nat) (v1 : Int32) (v2 : Int32) {H : Heap} {locs : List Loc} {ls : Array Slot}, (lp n0 (l_X11_dayBegunAlike_2 S) (v1, v2)).bind some = some V → MP D ct B Hb S H → va_S (AB B) s.heap H locs → lv_has ls 5 [(0, .ref (B + 0)), (1, .int v1), (2, .int v2)] → W p l e { frames := 0, cells := 0, slots := 0, locals := 0 } s m args below meth c H locs 0 0 (MQ below (qI D ct B Hb S V) args s 0 0 (AB B)) (F0 m 2 ls []) := by
  intro n0
  induction n0 with
  | zero =>
    intro v1 v2 H locs ls h hP hS hl
    exact (lp_0 h).elim
  | succ n0 ih0 =>
    intro v1 v2 H locs ls h hP hS hl
    have h := lp_s h
    exact w_X11_dayBegunAlike_2 l C0 v1 v2 S n0 (fun v1 v2 H locs ls h hP hS hl => ih0 v1 v2 h hP hS hl) h hP hS hl
set_option maxRecDepth 100000 in
set_option maxHeartbeats 4000000 in
theorem w_X11_dayBegunAlike_0 (l : Launch) {V : Int32} (C0 : XC D ct p s m args meth c cX11_dayBegunAlike 5 (some .int) RX11) (v1 : Int32) (S : St) {H : Heap} {locs : List Loc} {ls : Array Slot} (h : (b_X11_dayBegunAlike_0 v1 S).bind some = some V) (hP : MP D ct B Hb S H) (hS : va_S (AB B) s.heap H locs) (hl : lv_has ls 5 [(0, .ref (B + 0)), (1, .int v1)]) : W p l e { frames := 0, cells := 0, slots := 0, locals := 0 } s m args below meth c H locs 0 0 (MQ below (qI D ct B Hb S V) args s 0 0 (AB B)) (F0 m 0 ls []) := by
  obtain ⟨hx, hb, hr, hml, hown, hts, hK, hlocks, hN⟩ := id C0
  unfold b_X11_dayBegunAlike_0 at h
  refine lv_iconst (v := 0) hx hb dX11_dayBegunAlike_0 (by decide) ?_
  refine lv_istore_n (lv' := [(2, .int 0), (0, .ref (B + 0)), (1, .int v1)]) hx hb dX11_dayBegunAlike_1 rfl hl (by decide) rfl (fun ls hl => ?_)
  exact wl_X11_dayBegunAlike_2 l C0 S 1000 v1 0 h hP hS (lv_sub hl [1, 2, 0] rfl)
set_option maxRecDepth 100000 in
set_option maxHeartbeats 4000000 in
theorem c_X11_dayBegunAlike (l : Launch) (a1 : Int32) {D : va_G} {ct : Nat → ClassId} {B : Nat} {Hb : Heap} {S : St} {V : Int32} (h : L_X11_dayBegunAlike a1 S = some V) : Met l yX11_dayBegunAlike (Cond.code yX11_dayBegunAlike cX11_dayBegunAlike 5 (some .int) :: tG) { frames := 0, cells := 0, slots := 0, locals := 0 } (va_Pc [.ref (B + 0), .int a1] (MPK D ct B Hb S)) (qI D ct B Hb S V) 0 0 (AB B) := by
  refine mk_met (by decide +kernel) (Nat.le_of_ble_eq_true rfl) (fun p e s m args below meth c ls C0 hP hl _ => ?_)
  have h := ob_of h
  exact w_X11_dayBegunAlike_0 l C0 a1 S h hP va_S.rf (lv_sub hl [0, 1] rfl)
set_option maxRecDepth 100000 in
set_option maxHeartbeats 4000000 in
theorem w_X11_again_153 (l : Launch) {V : Int32 × St} (C0 : XC D ct p s m args meth c cX11_again 6 (some .int) RX11) (n0 : Nat) (ih0 : ∀ (v1 : Int32) (v2 : Int32) (S : St) (H : Heap) (locs : List Loc) (ls : Array Slot), (lp n0 (l_X11_again_24) (v1, v2, S)).bind some = some V → MP D ct B Hb S H → va_S (AB B) s.heap H locs → lv_has ls 6 [(0, .ref (B + 0)), (1, .int v1), (2, .int v2)] → W p l e { frames := 5, cells := 0, slots := 0, locals := 117 } s m args below meth c H locs 0 0 (MQ below (qIw D ct B Hb V) args s 0 0 (AB B)) (F0 m 24 ls [])) (v1 : Int32) (v2 : Int32) (S : St) {H : Heap} {locs : List Loc} {ls : Array Slot} (h : (b_X11_again_153 v1 v2 S).bind (lpF n0 (l_X11_again_24) some) = some V) (hP : MP D ct B Hb S H) (hS : va_S (AB B) s.heap H locs) (hl : lv_has ls 6 [(0, .ref (B + 0)), (1, .int v1), (2, .int v2)]) : W p l e { frames := 5, cells := 0, slots := 0, locals := 117 } s m args below meth c H locs 0 0 (MQ below (qIw D ct B Hb V) args s 0 0 (AB B)) (F0 m 153 ls []) := by
  obtain ⟨hx, hb, hr, hml, hown, hts, hK, hlocks, hN⟩ := id C0
  unfold b_X11_again_153 at h
  refine lv_iinc (v := v2 + 1) (lv' := [(2, .int (v2 + 1)), (0, .ref (B + 0)), (1, .int v1)]) hx hb dX11_again_153 hl (k := 2) rfl rfl (by decide) rfl (fun ls hl => ?_)
  refine lv_goto (tgt := 24) hx hb dX11_again_156 (by decide) ?_
  exact ih0 v1 (v2 + 1) S _ _ _ h hP hS (lv_sub hl [1, 2, 0] rfl)
set_option maxRecDepth 100000 in
set_option maxHeartbeats 4000000 in
theorem w_X11_again_90 (l : Launch) {V : Int32 × St} (C0 : XC D ct p s m args meth c cX11_again 6 (some .int) RX11) (n0 : Nat) (ih0 : ∀ (v1 : Int32) (v2 : Int32) (S : St) (H : Heap) (locs : List Loc) (ls : Array Slot), (lp n0 (l_X11_again_24) (v1, v2, S)).bind some = some V → MP D ct B Hb S H → va_S (AB B) s.heap H locs → lv_has ls 6 [(0, .ref (B + 0)), (1, .int v1), (2, .int v2)] → W p l e { frames := 5, cells := 0, slots := 0, locals := 117 } s m args below meth c H locs 0 0 (MQ below (qIw D ct B Hb V) args s 0 0 (AB B)) (F0 m 24 ls [])) (n1 : Nat) (ih1 : ∀ (v1 : Int32) (v2 : Int32) (v4 : Int32) (S : St) (H : Heap) (locs : List Loc) (ls : Array Slot), (lp n1 (l_X11_again_90) (v1, v2, v4, S)).bind (lpF n0 (l_X11_again_24) some) = some V → MP D ct B Hb S H → va_S (AB B) s.heap H locs → lv_has ls 6 [(0, .ref (B + 0)), (1, .int v1), (2, .int v2), (4, .int v4)] → W p l e { frames := 5, cells := 0, slots := 0, locals := 117 } s m args below meth c H locs 0 0 (MQ below (qIw D ct B Hb V) args s 0 0 (AB B)) (F0 m 90 ls [])) (v1 : Int32) (v2 : Int32) (v4 : Int32) (S : St) {H : Heap} {locs : List Loc} {ls : Array Slot} (h : (b_X11_again_90 v1 v2 v4 S).bind (lpF n1 (l_X11_again_90) (lpF n0 (l_X11_again_24) some)) = some V) (hP : MP D ct B Hb S H) (hS : va_S (AB B) s.heap H locs) (hl : lv_has ls 6 [(0, .ref (B + 0)), (1, .int v1), (2, .int v2), (4, .int v4)]) : W p l e { frames := 5, cells := 0, slots := 0, locals := 117 } s m args below meth c H locs 0 0 (MQ below (qIw D ct B Hb V) args s 0 0 (AB B)) (F0 m 90 ls []) := by
  obtain ⟨hx, hb, hr, hml, hown, hts, hK, hlocks, hN⟩ := id C0
  unfold b_X11_again_90 at h
  refine lv_iload hx hb dX11_again_90 (lv_at hl 3 rfl) ?_
  refine lv_aload_n hx hb dX11_again_92 rfl (lv_at hl 0 rfl) ?_
  refine x_get C0 hP (lay_X11 B ct S) rfl inG11 1 (by decide) wd_220 (fun _ h => h) rfl dX11_again_93 ?_
  refine x_get C0 hP (lay_X10 B ct S (Or.inr (Or.inl rfl))) rfl inG10 0 (by decide) wd_63 (fun _ h => h) rfl dX11_again_96 ?_
  refine lv_icmp_ge (tgt := 153) hx hb dX11_again_99 (by decide) (fun z1 => ?_) (fun z1 => ?_)
  · have h := ob_t h z1
    have h := ob_mp h
    exact w_X11_again_153 l C0 n0 ih0 v1 v2 S h hP hS (lv_sub hl [0, 1, 2] rfl)
  · have h := ob_f h z1
    refine lv_aload_n hx hb dX11_again_102 rfl (lv_at hl 0 rfl) ?_
    refine x_get C0 hP (lay_X11 B ct S) rfl inG11 1 (by decide) wd_220 (fun _ h => h) rfl dX11_again_103 ?_
    refine x_get C0 hP (lay_X10 B ct S (Or.inr (Or.inl rfl))) rfl inG10 4 (by decide) wd_74 (fun _ h => h) rfl dX11_again_106 ?_
    refine lv_iload hx hb dX11_again_109 (lv_at hl 3 rfl) ?_
    obtain ⟨g2, h⟩ := ob_gd h
    refine x_iald C0 hP ((fun S => lay_t5 B ct S (Or.inr (Or.inl rfl))) S) g2 dX11_again_111 ?_
    refine lv_aload_n hx hb dX11_again_112 rfl (lv_at hl 0 rfl) ?_
    refine x_get C0 hP (lay_X11 B ct S) rfl inG11 4 (by decide) wd_223 (fun _ h => h) rfl dX11_again_113 ?_
    refine x_get C0 hP (lay_X2 B ct S) rfl inG2 7 (by decide) wd_164 (fun _ h => h) rfl dX11_again_116 ?_
    refine lv_iload hx hb dX11_again_119 (lv_at hl 3 rfl) ?_
    obtain ⟨g3, h⟩ := ob_gd h
    refine x_iald C0 hP ((fun S => lay_61 B ct S) S) g3 dX11_again_121 ?_
    refine lv_iadd hx hb dX11_again_122 ?_
    refine lv_istore (lv' := [(5, .int ((gi S (19 + 5) v4.toNatClampNeg) + (gi S 61 v4.toNatClampNeg))), (0, .ref (B + 0)), (1, .int v1), (2, .int v2), (4, .int v4)]) hx hb dX11_again_123 hl (by decide) rfl (fun ls hl => ?_)
    refine lv_aload_n hx hb dX11_again_125 rfl (lv_at hl 1 rfl) ?_
    refine x_get C0 hP (lay_X11 B ct S) rfl inG11 1 (by decide) wd_220 (fun _ h => h) rfl dX11_again_126 ?_
    refine x_get C0 hP (lay_X10 B ct S (Or.inr (Or.inl rfl))) rfl inG10 4 (by decide) wd_74 (fun _ h => h) rfl dX11_again_129 ?_
    refine lv_iload hx hb dX11_again_132 (lv_at hl 4 rfl) ?_
    refine lv_bipush (v := (-9)) hx hb dX11_again_134 (by decide) ?_
    refine lv_bipush (v := 9) hx hb dX11_again_136 (by decide) ?_
    refine lv_iload hx hb dX11_again_138 (lv_at hl 0 rfl) ?_
    refine x_min C0 hl.1 ⟨wd_860, wd_487, wd_19, wd_488⟩ (Nat.le_of_ble_eq_true rfl) (Nat.le_of_ble_eq_true rfl) ⟨Nat.le_of_ble_eq_true rfl, Nat.le_of_ble_eq_true rfl⟩ dX11_again_140 ?_
    obtain ⟨m4, em4, h⟩ := ob_nm h
    rw [← em4]
    refine x_max C0 hl.1 ⟨wd_774, wd_565, wd_19, wd_566⟩ (Nat.le_of_ble_eq_true rfl) (Nat.le_of_ble_eq_true rfl) ⟨Nat.le_of_ble_eq_true rfl, Nat.le_of_ble_eq_true rfl⟩ dX11_again_143 ?_
    obtain ⟨m5, em5, h⟩ := ob_nm h
    rw [← em5]
    obtain ⟨g6, h⟩ := ob_gd h
    obtain ⟨S7, eS7, h⟩ := ob_nm h
    refine x_iast C0 hP hS (fun S => lay_t5 B ct S (Or.inr (Or.inl rfl))) g6 dX11_again_146 (fun H locs hP hS => ?_)
    rw [← eS7] at hP
    refine lv_iinc (v := v4 + 1) (lv' := [(4, .int (v4 + 1)), (5, .int ((gi S (19 + 5) v4.toNatClampNeg) + (gi S 61 v4.toNatClampNeg))), (0, .ref (B + 0)), (1, .int v1), (2, .int v2)]) hx hb dX11_again_147 hl (k := 4) rfl rfl (by decide) rfl (fun ls hl => ?_)
    refine lv_goto (tgt := 90) hx hb dX11_again_150 (by decide) ?_
    exact ih1 v1 v2 (v4 + 1) S7 _ _ _ h hP hS (lv_sub hl [2, 3, 4, 0] rfl)
set_option maxRecDepth 100000 in
set_option maxHeartbeats 4000000 in
theorem wl_X11_again_90 (l : Launch) {V : Int32 × St} (C0 : XC D ct p s m args meth c cX11_again 6 (some .int) RX11) (n0 : Nat) (ih0 : ∀ (v1 : Int32) (v2 : Int32) (S : St) (H : Heap) (locs : List Loc) (ls : Array Slot), (lp n0 (l_X11_again_24) (v1, v2, S)).bind some = some V → MP D ct B Hb S H → va_S (AB B) s.heap H locs → lv_has ls 6 [(0, .ref (B + 0)), (1, .int v1), (2, .int v2)] → W p l e { frames := 5, cells := 0, slots := 0, locals := 117 } s m args below meth c H locs 0 0 (MQ below (qIw D ct B Hb V) args s 0 0 (AB B)) (F0 m 24 ls []))  : ∀ (n1 : Nat) (v1 : Int32) (v2 : Int32) (v4 : Int32) (S : St) {H : Heap} {locs : List Loc} {ls : Array Slot}, (lp n1 (l_X11_again_90) (v1, v2, v4, S)).bind (lpF n0 (l_X11_again_24) some) = some V → MP D ct B Hb S H → va_S (AB B) s.heap H locs → lv_has ls 6 [(0, .ref (B + 0)), (1, .int v1), (2, .int v2), (4, .int v4)] → W p l e { frames := 5, cells := 0, slots := 0, locals := 117 } s m args below meth c H locs 0 0 (MQ below (qIw D ct B Hb V) args s 0 0 (AB B)) (F0 m 90 ls []) := by
  intro n1
  induction n1 with
  | zero =>
    intro v1 v2 v4 S H locs ls h hP hS hl
    exact (lp_0 h).elim
  | succ n1 ih1 =>
    intro v1 v2 v4 S H locs ls h hP hS hl
    have h := lp_s h
    exact w_X11_again_90 l C0 n0 ih0 n1 (fun v1 v2 v4 S H locs ls h hP hS hl => ih1 v1 v2 v4 S h hP hS hl) v1 v2 v4 S h hP hS hl
set_option maxRecDepth 100000 in
set_option maxHeartbeats 4000000 in
theorem w_X11_again_65 (l : Launch) {V : Int32 × St} (C0 : XC D ct p s m args meth c cX11_again 6 (some .int) RX11) (v1 : Int32) (v2 : Int32) (v3 : Int32) (S : St) {H : Heap} {locs : List Loc} {ls : Array Slot} (h : (b_X11_again_65 v1 v2 v3 S).bind some = some V) (hP : MP D ct B Hb S H) (hS : va_S (AB B) s.heap H locs) (hl : lv_has ls 6 [(1, .int v1), (2, .int v2), (3, .int v3)]) : W p l e { frames := 5, cells := 0, slots := 0, locals := 117 } s m args below meth c H locs 0 0 (MQ below (qIw D ct B Hb V) args s 0 0 (AB B)) (F0 m 65 ls []) := by
  obtain ⟨hx, hb, hr, hml, hown, hts, hK, hlocks, hN⟩ := id C0
  unfold b_X11_again_65 at h
  refine lv_iload_n hx hb dX11_again_65 rfl (lv_at hl 0 rfl) ?_
  refine lv_if_ne (tgt := 73) hx hb dX11_again_66 (by decide) (fun z1 => ?_) (fun z1 => ?_)
  · have h := ob_f h z1
    refine lv_iload_n hx hb dX11_again_73 rfl (lv_at hl 2 rfl) ?_
    exact r_Iw C0 hP hS h dX11_again_74
  · have h := ob_t h z1
    refine lv_iload_n hx hb dX11_again_69 rfl (lv_at hl 1 rfl) ?_
    refine lv_goto (tgt := 74) hx hb dX11_again_70 (by decide) ?_
    exact r_Iw C0 hP hS h dX11_again_74
set_option maxRecDepth 100000 in
set_option maxHeartbeats 4000000 in
theorem w_X11_again_24 (l : Launch) {V : Int32 × St} (C0 : XC D ct p s m args meth c cX11_again 6 (some .int) RX11) (n0 : Nat) (ih0 : ∀ (v1 : Int32) (v2 : Int32) (S : St) (H : Heap) (locs : List Loc) (ls : Array Slot), (lp n0 (l_X11_again_24) (v1, v2, S)).bind some = some V → MP D ct B Hb S H → va_S (AB B) s.heap H locs → lv_has ls 6 [(0, .ref (B + 0)), (1, .int v1), (2, .int v2)] → W p l e { frames := 5, cells := 0, slots := 0, locals := 117 } s m args below meth c H locs 0 0 (MQ below (qIw D ct B Hb V) args s 0 0 (AB B)) (F0 m 24 ls [])) (v1 : Int32) (v2 : Int32) (S : St) {H : Heap} {locs : List Loc} {ls : Array Slot} (h : (b_X11_again_24 v1 v2 S).bind (lpF n0 (l_X11_again_24) some) = some V) (hP : MP D ct B Hb S H) (hS : va_S (AB B) s.heap H locs) (hl : lv_has ls 6 [(0, .ref (B + 0)), (1, .int v1), (2, .int v2)]) : W p l e { frames := 5, cells := 0, slots := 0, locals := 117 } s m args below meth c H locs 0 0 (MQ below (qIw D ct B Hb V) args s 0 0 (AB B)) (F0 m 24 ls []) := by
  obtain ⟨hx, hb, hr, hml, hown, hts, hK, hlocks, hN⟩ := id C0
  unfold b_X11_again_24 at h
  refine lv_iload_n hx hb dX11_again_24 rfl (lv_at hl 2 rfl) ?_
  refine lv_bipush (v := 40) hx hb dX11_again_25 (by decide) ?_
  refine lv_icmp_gt (tgt := 159) hx hb dX11_again_27 (by decide) (fun z1 => ?_) (fun z1 => ?_)
  · have h := ob_t h z1
    refine lv_bipush (v := (-4)) hx hb dX11_again_159 (by decide) ?_
    exact r_Iw C0 hP hS h dX11_again_161
  · have h := ob_f h z1
    refine lv_aload_n hx hb dX11_again_30 rfl (lv_at hl 0 rfl) ?_
    refine x_get C0 hP (lay_X11 B ct S) rfl inG11 1 (by decide) wd_220 (fun _ h => h) rfl dX11_again_31 ?_
    refine x_get C0 hP (lay_X10 B ct S (Or.inr (Or.inl rfl))) rfl inG10 4 (by decide) wd_74 (fun _ h => h) rfl dX11_again_34 ?_
    refine lv_iconst (v := 0) hx hb dX11_again_37 (by decide) ?_
    refine lv_aload_n hx hb dX11_again_38 rfl (lv_at hl 0 rfl) ?_
    refine x_get C0 hP (lay_X11 B ct S) rfl inG11 8 (by decide) wd_227 (fun _ h => h) rfl dX11_again_39 ?_
    refine lv_iload_n hx hb dX11_again_42 rfl (lv_at hl 2 rfl) ?_
    obtain ⟨g2, h⟩ := ob_gd h
    refine x_aald (v := .ref (B + (87 + 1 * v2.toNatClampNeg))) C0 hP (lay_86 B ct S) rfl rfl g2 rfl dX11_again_43 ?_
    refine lv_iconst (v := 0) hx hb dX11_again_44 (by decide) ?_
    refine lv_aload_n hx hb dX11_again_45 rfl (lv_at hl 0 rfl) ?_
    refine x_get C0 hP (lay_X11 B ct S) rfl inG11 1 (by decide) wd_220 (fun _ h => h) rfl dX11_again_46 ?_
    refine x_get C0 hP (lay_X10 B ct S (Or.inr (Or.inl rfl))) rfl inG10 0 (by decide) wd_63 (fun _ h => h) rfl dX11_again_49 ?_
    obtain ⟨g3, h⟩ := ob_gd h
    obtain ⟨S4, eS4, h⟩ := ob_nm h
    refine x_copyi C0 hP hS hl.1 ⟨wd_874, wd_270, wd_269, wd_7⟩ (fun S => lay_t5 B ct S (Or.inr (Or.inl rfl))) (fun S => lay_beg B ct S (inb_lt g2)) g3 (Nat.le_of_ble_eq_true rfl) (Nat.le_trans (Nat.add_le_add_left cpy_room _) (Nat.le_of_ble_eq_true rfl)) dX11_again_52 (fun H locs hP hS => ?_)
    rw [← eS4] at hP
    refine lv_aload_n hx hb dX11_again_55 rfl (lv_at hl 0 rfl) ?_
    refine lv_iload_n hx hb dX11_again_56 rfl (lv_at hl 2 rfl) ?_
    obtain ⟨r5, hr5, h⟩ := ob_bd h
    refine n_I (kV (As := [.int v2]) C0 (c_X11_dayBegunAlike l v2 hr5) ⟨wd_878, wd_875, wd_877, wp_16, wd_1⟩ kd_X11_dayBegunAlike ⟨Nat.le_of_ble_eq_true rfl, Nat.le_of_ble_eq_true rfl⟩ hP (lay_X11 B ct S4) rfl rfl hl.1 rfl (Nat.le_of_ble_eq_true rfl) dX11_again_57 ⟨Nat.le_of_ble_eq_true rfl, Nat.le_of_ble_eq_true rfl⟩) hS (fun H locs hP hS => ?_)
    refine lv_istore_n (lv' := [(3, .int r5), (0, .ref (B + 0)), (1, .int v1), (2, .int v2)]) hx hb dX11_again_60 rfl hl (by decide) rfl (fun ls hl => ?_)
    refine lv_iload_n hx hb dX11_again_61 rfl (lv_at hl 0 rfl) ?_
    refine lv_if_lt (tgt := 75) hx hb dX11_again_62 (by decide) (fun z6 => ?_) (fun z6 => ?_)
    · have h := ob_t h z6
      refine lv_aload_n hx hb dX11_again_75 rfl (lv_at hl 1 rfl) ?_
      refine x_get C0 hP (lay_X11 B ct S4) rfl inG11 4 (by decide) wd_223 (fun _ h => h) rfl dX11_again_76 ?_
      refine lv_aload_n hx hb dX11_again_79 rfl (lv_at hl 1 rfl) ?_
      refine x_get C0 hP (lay_X11 B ct S4) rfl inG11 1 (by decide) wd_220 (fun _ h => h) rfl dX11_again_80 ?_
      refine lv_iconst (v := (-1)) hx hb dX11_again_83 (by decide) ?_
      obtain ⟨r7, hr7, h⟩ := ob_bd h
      refine n_Vw (kV (As := [.ref (B + 19), .int ((-1))]) C0 (c_X2_run l 19 (Or.inr (Or.inl rfl)) ((-1)) hr7) ⟨wd_628, wd_625, wd_626, wd_627, wd_4⟩ kd_X2_run ⟨Nat.le_of_ble_eq_true rfl, Nat.le_of_ble_eq_true rfl⟩ hP (lay_X2 B ct S4) rfl rfl hl.1 rfl (Nat.le_of_ble_eq_true rfl) dX11_again_84 ⟨Nat.le_of_ble_eq_true rfl, Nat.le_of_ble_eq_true rfl⟩) hS (fun H locs hP hS => ?_)
      refine lv_iconst (v := 0) hx hb dX11_again_87 (by decide) ?_
      refine lv_istore (lv' := [(4, .int 0), (3, .int r5), (0, .ref (B + 0)), (1, .int v1), (2, .int v2)]) hx hb dX11_again_88 hl (by decide) rfl (fun ls hl => ?_)
      exact wl_X11_again_90 l C0 n0 ih0 1000 v1 v2 0 r7 h hP hS (lv_sub hl [2, 3, 4, 0] rfl)
    · have h := ob_f h z6
      have h := ob_mp h
      exact w_X11_again_65 l C0 v1 v2 r5 S4 h hP hS (lv_sub hl [2, 3, 0] rfl)
set_option maxRecDepth 100000 in
set_option maxHeartbeats 4000000 in
theorem wl_X11_again_24 (l : Launch) {V : Int32 × St} (C0 : XC D ct p s m args meth c cX11_again 6 (some .int) RX11)  : ∀ (n0 : Nat) (v1 : Int32) (v2 : Int32) (S : St) {H : Heap} {locs : List Loc} {ls : Array Slot}, (lp n0 (l_X11_again_24) (v1, v2, S)).bind some = some V → MP D ct B Hb S H → va_S (AB B) s.heap H locs → lv_has ls 6 [(0, .ref (B + 0)), (1, .int v1), (2, .int v2)] → W p l e { frames := 5, cells := 0, slots := 0, locals := 117 } s m args below meth c H locs 0 0 (MQ below (qIw D ct B Hb V) args s 0 0 (AB B)) (F0 m 24 ls []) := by
  intro n0
  induction n0 with
  | zero =>
    intro v1 v2 S H locs ls h hP hS hl
    exact (lp_0 h).elim
  | succ n0 ih0 =>
    intro v1 v2 S H locs ls h hP hS hl
    have h := lp_s h
    exact w_X11_again_24 l C0 n0 (fun v1 v2 S H locs ls h hP hS hl => ih0 v1 v2 S h hP hS hl) v1 v2 S h hP hS hl
set_option maxRecDepth 100000 in
set_option maxHeartbeats 4000000 in
theorem w_X11_again_0 (l : Launch) {V : Int32 × St} (C0 : XC D ct p s m args meth c cX11_again 6 (some .int) RX11) (v1 : Int32) (S : St) {H : Heap} {locs : List Loc} {ls : Array Slot} (h : (b_X11_again_0 v1 S).bind some = some V) (hP : MP D ct B Hb S H) (hS : va_S (AB B) s.heap H locs) (hl : lv_has ls 6 [(0, .ref (B + 0)), (1, .int v1)]) : W p l e { frames := 5, cells := 0, slots := 0, locals := 117 } s m args below meth c H locs 0 0 (MQ below (qIw D ct B Hb V) args s 0 0 (AB B)) (F0 m 0 ls []) := by
  obtain ⟨hx, hb, hr, hml, hown, hts, hK, hlocks, hN⟩ := id C0
  unfold b_X11_again_0 at h
  refine lv_iload_n hx hb dX11_again_0 rfl (lv_at hl 1 rfl) ?_
  refine lv_iconst (v := 0) hx hb dX11_again_1 (by decide) ?_
  refine lv_iconst (v := 1) hx hb dX11_again_2 (by decide) ?_
  obtain ⟨r1, hr1, h⟩ := ob_bd h
  refine n_I (kS (As := [.int v1, .int 0, .int 1]) C0 (c_X11_isOut l v1 0 1 hr1) ⟨wd_378, wd_500, wd_377, wd_1⟩ kd_X11_isOut ⟨Nat.le_of_ble_eq_true rfl, Nat.le_of_ble_eq_true rfl⟩ hP rfl hl.1 rfl (Nat.le_of_ble_eq_true rfl) dX11_again_3 ⟨Nat.le_of_ble_eq_true rfl, Nat.le_of_ble_eq_true rfl⟩) hS (fun H locs hP hS => ?_)
  refine lv_if_eq (tgt := 11) hx hb dX11_again_6 (by decide) (fun z2 => ?_) (fun z2 => ?_)
  · have h := ob_t h z2
    refine lv_aload_n hx hb dX11_again_11 rfl (lv_at hl 0 rfl) ?_
    refine x_get C0 hP (lay_X11 B ct S) rfl inG11 1 (by decide) wd_220 (fun _ h => h) rfl dX11_again_12 ?_
    refine lv_aload_n hx hb dX11_again_15 rfl (lv_at hl 0 rfl) ?_
    refine x_get C0 hP (lay_X11 B ct S) rfl inG11 0 (by decide) wd_219 (fun _ h => h) rfl dX11_again_16 ?_
    obtain ⟨r3, hr3, h⟩ := ob_bd h
    refine n_Vw (kV (As := [.ref (B + 1)]) C0 (c_X10_become l 19 1 (Or.inr (Or.inl rfl)) (Or.inl rfl) hr3) ⟨wd_267, wd_264, wd_265, wd_266, wd_2⟩ kd_X10_become ⟨Nat.le_of_ble_eq_true rfl, Nat.le_of_ble_eq_true rfl⟩ hP (lay_X10 B ct S (Or.inr (Or.inl rfl))) rfl rfl hl.1 rfl (Nat.le_of_ble_eq_true rfl) dX11_again_19 ⟨Nat.le_of_ble_eq_true rfl, Nat.le_of_ble_eq_true rfl⟩) hS (fun H locs hP hS => ?_)
    refine lv_iconst (v := 0) hx hb dX11_again_22 (by decide) ?_
    refine lv_istore_n (lv' := [(2, .int 0), (0, .ref (B + 0)), (1, .int v1)]) hx hb dX11_again_23 rfl hl (by decide) rfl (fun ls hl => ?_)
    exact wl_X11_again_24 l C0 1000 v1 0 r3 h hP hS (lv_sub hl [1, 2, 0] rfl)
  · have h := ob_f h z2
    refine lv_iconst (v := (-1)) hx hb dX11_again_9 (by decide) ?_
    exact r_Iw C0 hP hS h dX11_again_10
set_option maxRecDepth 100000 in
set_option maxHeartbeats 4000000 in
theorem c_X11_again (l : Launch) (a1 : Int32) {D : va_G} {ct : Nat → ClassId} {B : Nat} {Hb : Heap} {S : St} {V : Int32 × St} (h : L_X11_again a1 S = some V) : Met l yX11_again (Cond.code yX11_again cX11_again 6 (some .int) :: tG) { frames := 5, cells := 0, slots := 0, locals := 117 } (va_Pc [.ref (B + 0), .int a1] (MPK D ct B Hb S)) (qIw D ct B Hb V) 0 0 (AB B) := by
  refine mk_met (by decide +kernel) (Nat.le_of_ble_eq_true rfl) (fun p e s m args below meth c ls C0 hP hl _ => ?_)
  have h := ob_of h
  exact w_X11_again_0 l C0 a1 S h hP va_S.rf (lv_sub hl [0, 1] rfl)
set_option maxRecDepth 100000 in
set_option maxHeartbeats 4000000 in
theorem w_X11_toldChoicesRefusal_0 (l : Launch) {V : Int32} (C0 : XC D ct p s m args meth c cX11_toldChoicesRefusal 3 (some .int) RX11) (v1 : Int32) (S : St) {H : Heap} {locs : List Loc} {ls : Array Slot} (h : (b_X11_toldChoicesRefusal_0 v1 S).bind some = some V) (hP : MP D ct B Hb S H) (hS : va_S (AB B) s.heap H locs) (hl : lv_has ls 3 [(0, .ref (B + 0)), (1, .int v1)]) : W p l e { frames := 2, cells := 0, slots := 0, locals := 42 } s m args below meth c H locs 0 0 (MQ below (qI D ct B Hb S V) args s 0 0 (AB B)) (F0 m 0 ls []) := by
  obtain ⟨hx, hb, hr, hml, hown, hts, hK, hlocks, hN⟩ := id C0
  unfold b_X11_toldChoicesRefusal_0 at h
  refine lv_aload_n hx hb dX11_toldChoicesRefusal_0 rfl (lv_at hl 0 rfl) ?_
  refine lv_iload_n hx hb dX11_toldChoicesRefusal_1 rfl (lv_at hl 1 rfl) ?_
  refine lv_iconst (v := 2) hx hb dX11_toldChoicesRefusal_2 (by decide) ?_
  obtain ⟨r1, hr1, h⟩ := ob_bd h
  refine n_I (kV (As := [.int v1, .int 2]) C0 (c_X11_shelfRefusal l v1 2 hr1) ⟨wd_260, wd_257, wd_259, wp_0, wd_1⟩ kd_X11_shelfRefusal ⟨Nat.le_of_ble_eq_true rfl, Nat.le_of_ble_eq_true rfl⟩ hP (lay_X11 B ct S) rfl rfl hl.1 rfl (Nat.le_of_ble_eq_true rfl) dX11_toldChoicesRefusal_3 ⟨Nat.le_of_ble_eq_true rfl, Nat.le_of_ble_eq_true rfl⟩) hS (fun H locs hP hS => ?_)
  refine lv_istore_n (lv' := [(2, .int r1), (0, .ref (B + 0)), (1, .int v1)]) hx hb dX11_toldChoicesRefusal_6 rfl hl (by decide) rfl (fun ls hl => ?_)
  refine lv_iload_n hx hb dX11_toldChoicesRefusal_7 rfl (lv_at hl 0 rfl) ?_
  refine lv_if_eq (tgt := 13) hx hb dX11_toldChoicesRefusal_8 (by decide) (fun z2 => ?_) (fun z2 => ?_)
  · have h := ob_t h z2
    refine lv_aload_n hx hb dX11_toldChoicesRefusal_13 rfl (lv_at hl 1 rfl) ?_
    refine x_get C0 hP (lay_X11 B ct S) rfl inG11 7 (by decide) wd_226 (fun _ h => h) rfl dX11_toldChoicesRefusal_14 ?_
    refine lv_iload_n hx hb dX11_toldChoicesRefusal_17 rfl (lv_at hl 2 rfl) ?_
    obtain ⟨g3, h⟩ := ob_gd h
    refine x_aald (v := .ref (B + (70 + 2 * v1.toNatClampNeg))) C0 hP (lay_68 B ct S) rfl rfl g3 rfl dX11_toldChoicesRefusal_18 ?_
    refine x_get C0 hP (lay_X8 B ct S (isRow_of g3)) rfl inG8 1 (by decide) wd_207 (fun _ h => h) rfl dX11_toldChoicesRefusal_19 ?_
    refine lv_aload_n hx hb dX11_toldChoicesRefusal_22 rfl (lv_at hl 1 rfl) ?_
    refine x_get C0 hP (lay_X11 B ct S) rfl inG11 0 (by decide) wd_219 (fun _ h => h) rfl dX11_toldChoicesRefusal_23 ?_
    refine x_get C0 hP (lay_X10 B ct S (Or.inl rfl)) rfl inG10 0 (by decide) wd_63 (fun _ h => h) rfl dX11_toldChoicesRefusal_26 ?_
    refine lv_icmp_le (tgt := 37) hx hb dX11_toldChoicesRefusal_29 (by decide) (fun z4 => ?_) (fun z4 => ?_)
    · have h := ob_t h z4
      refine lv_iconst (v := 0) hx hb dX11_toldChoicesRefusal_37 (by decide) ?_
      exact r_I C0 hP hS h dX11_toldChoicesRefusal_38
    · have h := ob_f h z4
      refine lv_bipush (v := (-13)) hx hb dX11_toldChoicesRefusal_32 (by decide) ?_
      refine lv_goto (tgt := 38) hx hb dX11_toldChoicesRefusal_34 (by decide) ?_
      exact r_I C0 hP hS h dX11_toldChoicesRefusal_38
  · have h := ob_f h z2
    refine lv_iload_n hx hb dX11_toldChoicesRefusal_11 rfl (lv_at hl 0 rfl) ?_
    exact r_I C0 hP hS h dX11_toldChoicesRefusal_12
set_option maxRecDepth 100000 in
set_option maxHeartbeats 4000000 in
theorem c_X11_toldChoicesRefusal (l : Launch) (a1 : Int32) {D : va_G} {ct : Nat → ClassId} {B : Nat} {Hb : Heap} {S : St} {V : Int32} (h : L_X11_toldChoicesRefusal a1 S = some V) : Met l yX11_toldChoicesRefusal (Cond.code yX11_toldChoicesRefusal cX11_toldChoicesRefusal 3 (some .int) :: tG) { frames := 2, cells := 0, slots := 0, locals := 42 } (va_Pc [.ref (B + 0), .int a1] (MPK D ct B Hb S)) (qI D ct B Hb S V) 0 0 (AB B) := by
  refine mk_met (by decide +kernel) (Nat.le_of_ble_eq_true rfl) (fun p e s m args below meth c ls C0 hP hl _ => ?_)
  have h := ob_of h
  exact w_X11_toldChoicesRefusal_0 l C0 a1 S h hP va_S.rf (lv_sub hl [0, 1] rfl)
set_option maxRecDepth 100000 in
set_option maxHeartbeats 4000000 in
theorem w_X11_firstMisfit_86 (l : Launch) {V : Int32 × St} (C0 : XC D ct p s m args meth c cX11_firstMisfit 5 (some .int) RX11) (u1 : Nat) (hu1 : isRow u1) (n0 : Nat) (ih0 : ∀ (v4 : Int32) (S : St) (H : Heap) (locs : List Loc) (ls : Array Slot), (lp n0 (l_X11_firstMisfit_35 u1) (v4, S)).bind some = some V → MP D ct B Hb S H → va_S (AB B) s.heap H locs → lv_has ls 5 [(0, .ref (B + 0)), (1, .ref (B + u1)), (4, .int v4)] → W p l e { frames := 5, cells := 0, slots := 0, locals := 117 } s m args below meth c H locs 0 0 (MQ below (qIw D ct B Hb V) args s 0 0 (AB B)) (F0 m 35 ls [])) (v4 : Int32) (S : St) {H : Heap} {locs : List Loc} {ls : Array Slot} (h : (b_X11_firstMisfit_86 u1 v4 S).bind (lpF n0 (l_X11_firstMisfit_35 u1) some) = some V) (hP : MP D ct B Hb S H) (hS : va_S (AB B) s.heap H locs) (hl : lv_has ls 5 [(0, .ref (B + 0)), (1, .ref (B + u1)), (4, .int v4)]) : W p l e { frames := 5, cells := 0, slots := 0, locals := 117 } s m args below meth c H locs 0 0 (MQ below (qIw D ct B Hb V) args s 0 0 (AB B)) (F0 m 86 ls []) := by
  obtain ⟨hx, hb, hr, hml, hown, hts, hK, hlocks, hN⟩ := id C0
  unfold b_X11_firstMisfit_86 at h
  refine lv_iinc (v := v4 + 1) (lv' := [(4, .int (v4 + 1)), (0, .ref (B + 0)), (1, .ref (B + u1))]) hx hb dX11_firstMisfit_86 hl (k := 2) rfl rfl (by decide) rfl (fun ls hl => ?_)
  refine lv_goto (tgt := 35) hx hb dX11_firstMisfit_89 (by decide) ?_
  exact ih0 (v4 + 1) S _ _ _ h hP hS (lv_sub hl [1, 2, 0] rfl)
set_option maxRecDepth 100000 in
set_option maxHeartbeats 4000000 in
theorem w_X11_firstMisfit_35 (l : Launch) {V : Int32 × St} (C0 : XC D ct p s m args meth c cX11_firstMisfit 5 (some .int) RX11) (u1 : Nat) (hu1 : isRow u1) (n0 : Nat) (ih0 : ∀ (v4 : Int32) (S : St) (H : Heap) (locs : List Loc) (ls : Array Slot), (lp n0 (l_X11_firstMisfit_35 u1) (v4, S)).bind some = some V → MP D ct B Hb S H → va_S (AB B) s.heap H locs → lv_has ls 5 [(0, .ref (B + 0)), (1, .ref (B + u1)), (4, .int v4)] → W p l e { frames := 5, cells := 0, slots := 0, locals := 117 } s m args below meth c H locs 0 0 (MQ below (qIw D ct B Hb V) args s 0 0 (AB B)) (F0 m 35 ls [])) (v4 : Int32) (S : St) {H : Heap} {locs : List Loc} {ls : Array Slot} (h : (b_X11_firstMisfit_35 u1 v4 S).bind (lpF n0 (l_X11_firstMisfit_35 u1) some) = some V) (hP : MP D ct B Hb S H) (hS : va_S (AB B) s.heap H locs) (hl : lv_has ls 5 [(0, .ref (B + 0)), (1, .ref (B + u1)), (4, .int v4)]) : W p l e { frames := 5, cells := 0, slots := 0, locals := 117 } s m args below meth c H locs 0 0 (MQ below (qIw D ct B Hb V) args s 0 0 (AB B)) (F0 m 35 ls []) := by
  obtain ⟨hx, hb, hr, hml, hown, hts, hK, hlocks, hN⟩ := id C0
  unfold b_X11_firstMisfit_35 at h
  refine lv_iload hx hb dX11_firstMisfit_35 (lv_at hl 2 rfl) ?_
  refine lv_aload_n hx hb dX11_firstMisfit_37 rfl (lv_at hl 1 rfl) ?_
  refine x_get C0 hP (lay_X8 B ct S hu1) rfl inG8 1 (by decide) wd_207 (fun _ h => h) rfl dX11_firstMisfit_38 ?_
  refine lv_icmp_ge (tgt := 92) hx hb dX11_firstMisfit_41 (by decide) (fun z1 => ?_) (fun z1 => ?_)
  · have h := ob_t h z1
    refine lv_aload_n hx hb dX11_firstMisfit_92 rfl (lv_at hl 1 rfl) ?_
    refine x_get C0 hP (lay_X8 B ct S hu1) rfl inG8 1 (by decide) wd_207 (fun _ h => h) rfl dX11_firstMisfit_93 ?_
    exact r_Iw C0 hP hS h dX11_firstMisfit_96
  · have h := ob_f h z1
    refine lv_iload hx hb dX11_firstMisfit_44 (lv_at hl 2 rfl) ?_
    refine lv_aload_n hx hb dX11_firstMisfit_46 rfl (lv_at hl 0 rfl) ?_
    refine x_get C0 hP (lay_X11 B ct S) rfl inG11 1 (by decide) wd_220 (fun _ h => h) rfl dX11_firstMisfit_47 ?_
    refine x_get C0 hP (lay_X10 B ct S (Or.inr (Or.inl rfl))) rfl inG10 0 (by decide) wd_63 (fun _ h => h) rfl dX11_firstMisfit_50 ?_
    refine lv_icmp_ge (tgt := 92) hx hb dX11_firstMisfit_53 (by decide) (fun z2 => ?_) (fun z2 => ?_)
    · have h := ob_t h z2
      refine lv_aload_n hx hb dX11_firstMisfit_92 rfl (lv_at hl 1 rfl) ?_
      refine x_get C0 hP (lay_X8 B ct S hu1) rfl inG8 1 (by decide) wd_207 (fun _ h => h) rfl dX11_firstMisfit_93 ?_
      exact r_Iw C0 hP hS h dX11_firstMisfit_96
    · have h := ob_f h z2
      refine lv_aload_n hx hb dX11_firstMisfit_56 rfl (lv_at hl 1 rfl) ?_
      refine lv_iload hx hb dX11_firstMisfit_57 (lv_at hl 2 rfl) ?_
      obtain ⟨r3, hr3, h⟩ := ob_bd h
      refine n_I (kV (As := [.int v4]) C0 (c_X8_isSkipped l u1 hu1 v4 hr3) ⟨wd_894, wd_891, wd_892, wd_893, wd_5⟩ kd_X8_isSkipped ⟨Nat.le_of_ble_eq_true rfl, Nat.le_of_ble_eq_true rfl⟩ hP (lay_X8 B ct S hu1) rfl rfl hl.1 rfl (Nat.le_of_ble_eq_true rfl) dX11_firstMisfit_59 ⟨Nat.le_of_ble_eq_true rfl, Nat.le_of_ble_eq_true rfl⟩) hS (fun H locs hP hS => ?_)
      refine lv_if_ne (tgt := 86) hx hb dX11_firstMisfit_62 (by decide) (fun z4 => ?_) (fun z4 => ?_)
      · have h := ob_f h z4
        exact w_X11_firstMisfit_86 l C0 u1 hu1 n0 ih0 v4 S h hP hS (lv_sub hl [0, 1, 2] rfl)
      · have h := ob_t h z4
        refine lv_aload_n hx hb dX11_firstMisfit_65 rfl (lv_at hl 1 rfl) ?_
        refine lv_iload hx hb dX11_firstMisfit_66 (lv_at hl 2 rfl) ?_
        obtain ⟨r5, hr5, h⟩ := ob_bd h
        refine n_I (kV (As := [.int v4]) C0 (c_X8_at l u1 hu1 v4 hr5) ⟨wd_281, wd_896, wd_279, wd_280, wd_5⟩ kd_X8_at ⟨Nat.le_of_ble_eq_true rfl, Nat.le_of_ble_eq_true rfl⟩ hP (lay_X8 B ct S hu1) rfl rfl hl.1 rfl (Nat.le_of_ble_eq_true rfl) dX11_firstMisfit_68 ⟨Nat.le_of_ble_eq_true rfl, Nat.le_of_ble_eq_true rfl⟩) hS (fun H locs hP hS => ?_)
        refine lv_aload_n hx hb dX11_firstMisfit_71 rfl (lv_at hl 0 rfl) ?_
        refine x_get C0 hP (lay_X11 B ct S) rfl inG11 4 (by decide) wd_223 (fun _ h => h) rfl dX11_firstMisfit_72 ?_
        refine lv_iload hx hb dX11_firstMisfit_75 (lv_at hl 2 rfl) ?_
        obtain ⟨r6, hr6, h⟩ := ob_bd h
        refine n_I (kV (As := [.int v4]) C0 (c_X2_toldChoice l v4 hr6) ⟨wd_721, wd_897, wd_719, wd_720, wd_4⟩ kd_X2_toldChoice ⟨Nat.le_of_ble_eq_true rfl, Nat.le_of_ble_eq_true rfl⟩ hP (lay_X2 B ct S) rfl rfl hl.1 rfl (Nat.le_of_ble_eq_true rfl) dX11_firstMisfit_77 ⟨Nat.le_of_ble_eq_true rfl, Nat.le_of_ble_eq_true rfl⟩) hS (fun H locs hP hS => ?_)
        refine lv_icmp_eq (tgt := 86) hx hb dX11_firstMisfit_80 (by decide) (fun z7 => ?_) (fun z7 => ?_)
        · have h := ob_t h z7
          exact w_X11_firstMisfit_86 l C0 u1 hu1 n0 ih0 v4 S h hP hS (lv_sub hl [0, 1, 2] rfl)
        · have h := ob_f h z7
          refine lv_iload hx hb dX11_firstMisfit_83 (lv_at hl 2 rfl) ?_
          exact r_Iw C0 hP hS h dX11_firstMisfit_85
set_option maxRecDepth 100000 in
set_option maxHeartbeats 4000000 in
theorem wl_X11_firstMisfit_35 (l : Launch) {V : Int32 × St} (C0 : XC D ct p s m args meth c cX11_firstMisfit 5 (some .int) RX11) (u1 : Nat) (hu1 : isRow u1)  : ∀ (n0 : Nat) (v4 : Int32) (S : St) {H : Heap} {locs : List Loc} {ls : Array Slot}, (lp n0 (l_X11_firstMisfit_35 u1) (v4, S)).bind some = some V → MP D ct B Hb S H → va_S (AB B) s.heap H locs → lv_has ls 5 [(0, .ref (B + 0)), (1, .ref (B + u1)), (4, .int v4)] → W p l e { frames := 5, cells := 0, slots := 0, locals := 117 } s m args below meth c H locs 0 0 (MQ below (qIw D ct B Hb V) args s 0 0 (AB B)) (F0 m 35 ls []) := by
  intro n0
  induction n0 with
  | zero =>
    intro v4 S H locs ls h hP hS hl
    exact (lp_0 h).elim
  | succ n0 ih0 =>
    intro v4 S H locs ls h hP hS hl
    have h := lp_s h
    exact w_X11_firstMisfit_35 l C0 u1 hu1 n0 (fun v4 S H locs ls h hP hS hl => ih0 v4 S h hP hS hl) v4 S h hP hS hl
set_option maxRecDepth 100000 in
set_option maxHeartbeats 4000000 in
theorem w_X11_firstMisfit_0 (l : Launch) {V : Int32 × St} (C0 : XC D ct p s m args meth c cX11_firstMisfit 5 (some .int) RX11) (u1 : Nat) (hu1 : isRow u1) (v2 : Int32) (v3 : Int32) (S : St) {H : Heap} {locs : List Loc} {ls : Array Slot} (h : (b_X11_firstMisfit_0 u1 v2 v3 S).bind some = some V) (hP : MP D ct B Hb S H) (hS : va_S (AB B) s.heap H locs) (hl : lv_has ls 5 [(0, .ref (B + 0)), (1, .ref (B + u1)), (2, .int v2), (3, .int v3)]) : W p l e { frames := 5, cells := 0, slots := 0, locals := 117 } s m args below meth c H locs 0 0 (MQ below (qIw D ct B Hb V) args s 0 0 (AB B)) (F0 m 0 ls []) := by
  obtain ⟨hx, hb, hr, hml, hown, hts, hK, hlocks, hN⟩ := id C0
  unfold b_X11_firstMisfit_0 at h
  refine lv_aload_n hx hb dX11_firstMisfit_0 rfl (lv_at hl 0 rfl) ?_
  refine x_get C0 hP (lay_X11 B ct S) rfl inG11 1 (by decide) wd_220 (fun _ h => h) rfl dX11_firstMisfit_1 ?_
  refine x_get C0 hP (lay_X10 B ct S (Or.inr (Or.inl rfl))) rfl inG10 18 (by decide) wd_107 (fun _ h => h) rfl dX11_firstMisfit_4 ?_
  refine lv_iconst (v := 1) hx hb dX11_firstMisfit_7 (by decide) ?_
  refine lv_iload_n hx hb dX11_firstMisfit_8 rfl (lv_at hl 2 rfl) ?_
  obtain ⟨g1, h⟩ := ob_gd h
  obtain ⟨S2, eS2, h⟩ := ob_nm h
  refine x_iast C0 hP hS (fun S => lay_t17 B ct S (Or.inr (Or.inl rfl))) g1 dX11_firstMisfit_9 (fun H locs hP hS => ?_)
  rw [← eS2] at hP
  refine lv_aload_n hx hb dX11_firstMisfit_10 rfl (lv_at hl 0 rfl) ?_
  refine x_get C0 hP (lay_X11 B ct S2) rfl inG11 1 (by decide) wd_220 (fun _ h => h) rfl dX11_firstMisfit_11 ?_
  refine x_get C0 hP (lay_X10 B ct S2 (Or.inr (Or.inl rfl))) rfl inG10 18 (by decide) wd_107 (fun _ h => h) rfl dX11_firstMisfit_14 ?_
  refine lv_iconst (v := 0) hx hb dX11_firstMisfit_17 (by decide) ?_
  refine lv_iload_n hx hb dX11_firstMisfit_18 rfl (lv_at hl 3 rfl) ?_
  obtain ⟨g3, h⟩ := ob_gd h
  obtain ⟨S4, eS4, h⟩ := ob_nm h
  refine x_iast C0 hP hS (fun S => lay_t17 B ct S (Or.inr (Or.inl rfl))) g3 dX11_firstMisfit_19 (fun H locs hP hS => ?_)
  rw [← eS4] at hP
  refine lv_aload_n hx hb dX11_firstMisfit_20 rfl (lv_at hl 0 rfl) ?_
  refine x_get C0 hP (lay_X11 B ct S4) rfl inG11 4 (by decide) wd_223 (fun _ h => h) rfl dX11_firstMisfit_21 ?_
  refine lv_aload_n hx hb dX11_firstMisfit_24 rfl (lv_at hl 0 rfl) ?_
  refine x_get C0 hP (lay_X11 B ct S4) rfl inG11 1 (by decide) wd_220 (fun _ h => h) rfl dX11_firstMisfit_25 ?_
  refine lv_iconst (v := (-1)) hx hb dX11_firstMisfit_28 (by decide) ?_
  obtain ⟨r5, hr5, h⟩ := ob_bd h
  refine n_Vw (kV (As := [.ref (B + 19), .int ((-1))]) C0 (c_X2_run l 19 (Or.inr (Or.inl rfl)) ((-1)) hr5) ⟨wd_628, wd_625, wd_626, wd_627, wd_4⟩ kd_X2_run ⟨Nat.le_of_ble_eq_true rfl, Nat.le_of_ble_eq_true rfl⟩ hP (lay_X2 B ct S4) rfl rfl hl.1 rfl (Nat.le_of_ble_eq_true rfl) dX11_firstMisfit_29 ⟨Nat.le_of_ble_eq_true rfl, Nat.le_of_ble_eq_true rfl⟩) hS (fun H locs hP hS => ?_)
  refine lv_iconst (v := 0) hx hb dX11_firstMisfit_32 (by decide) ?_
  refine lv_istore (lv' := [(4, .int 0), (0, .ref (B + 0)), (1, .ref (B + u1)), (2, .int v2), (3, .int v3)]) hx hb dX11_firstMisfit_33 hl (by decide) rfl (fun ls hl => ?_)
  exact wl_X11_firstMisfit_35 l C0 u1 hu1 1000 0 r5 h hP hS (lv_sub hl [1, 2, 0] rfl)
set_option maxRecDepth 100000 in
set_option maxHeartbeats 4000000 in
theorem c_X11_firstMisfit (l : Launch) (u1 : Nat) (hu1 : isRow u1) (a2 : Int32) (a3 : Int32) {D : va_G} {ct : Nat → ClassId} {B : Nat} {Hb : Heap} {S : St} {V : Int32 × St} (h : L_X11_firstMisfit u1 a2 a3 S = some V) : Met l yX11_firstMisfit (Cond.code yX11_firstMisfit cX11_firstMisfit 5 (some .int) :: tG) { frames := 5, cells := 0, slots := 0, locals := 117 } (va_Pc [.ref (B + 0), .ref (B + u1), .int a2, .int a3] (MPK D ct B Hb S)) (qIw D ct B Hb V) 0 0 (AB B) := by
  refine mk_met (by decide +kernel) (Nat.le_of_ble_eq_true rfl) (fun p e s m args below meth c ls C0 hP hl _ => ?_)
  have h := ob_of h
  exact w_X11_firstMisfit_0 l C0 u1 hu1 a2 a3 S h hP va_S.rf (lv_sub hl [0, 1, 2, 3] rfl)
set_option maxRecDepth 100000 in
set_option maxHeartbeats 4000000 in
theorem w_X11_explained_110 (l : Launch) {V : Int32 × St} (C0 : XC D ct p s m args meth c cX11_explained 8 (some .int) RX11) (v2 : Int32) (v4 : Int32) (v5 : Int32) (S : St) {H : Heap} {locs : List Loc} {ls : Array Slot} (h : (b_X11_explained_110 v2 v4 v5 S).bind some = some V) (hP : MP D ct B Hb S H) (hS : va_S (AB B) s.heap H locs) (hl : lv_has ls 8 [(2, .int v2), (4, .int v4), (5, .int v5)]) : W p l e { frames := 6, cells := 0, slots := 0, locals := 141 } s m args below meth c H locs 0 0 (MQ below (qIw D ct B Hb V) args s 0 0 (AB B)) (F0 m 110 ls []) := by
  obtain ⟨hx, hb, hr, hml, hown, hts, hK, hlocks, hN⟩ := id C0
  unfold b_X11_explained_110 at h
  refine lv_iload_n hx hb dX11_explained_110 rfl (lv_at hl 0 rfl) ?_
  refine lv_if_ne (tgt := 119) hx hb dX11_explained_111 (by decide) (fun z1 => ?_) (fun z1 => ?_)
  · have h := ob_f h z1
    refine lv_iload hx hb dX11_explained_119 (lv_at hl 2 rfl) ?_
    exact r_Iw C0 hP hS h dX11_explained_121
  · have h := ob_t h z1
    refine lv_iload hx hb dX11_explained_114 (lv_at hl 1 rfl) ?_
    refine lv_goto (tgt := 121) hx hb dX11_explained_116 (by decide) ?_
    exact r_Iw C0 hP hS h dX11_explained_121
set_option maxRecDepth 100000 in
set_option maxHeartbeats 4000000 in
theorem w_X11_explained_104 (l : Launch) {V : Int32 × St} (C0 : XC D ct p s m args meth c cX11_explained 8 (some .int) RX11) (n0 : Nat) (ih0 : ∀ (v1 : Int32) (v2 : Int32) (v4 : Int32) (v5 : Int32) (v6 : Int32) (S : St) (H : Heap) (locs : List Loc) (ls : Array Slot), (lp n0 (l_X11_explained_45) (v1, v2, v4, v5, v6, S)).bind some = some V → MP D ct B Hb S H → va_S (AB B) s.heap H locs → lv_has ls 8 [(0, .ref (B + 0)), (1, .int v1), (2, .int v2), (4, .int v4), (5, .int v5), (6, .int v6)] → W p l e { frames := 6, cells := 0, slots := 0, locals := 141 } s m args below meth c H locs 0 0 (MQ below (qIw D ct B Hb V) args s 0 0 (AB B)) (F0 m 45 ls [])) (v1 : Int32) (v2 : Int32) (v4 : Int32) (v5 : Int32) (v6 : Int32) (S : St) {H : Heap} {locs : List Loc} {ls : Array Slot} (h : (b_X11_explained_104 v1 v2 v4 v5 v6 S).bind (lpF n0 (l_X11_explained_45) some) = some V) (hP : MP D ct B Hb S H) (hS : va_S (AB B) s.heap H locs) (hl : lv_has ls 8 [(0, .ref (B + 0)), (1, .int v1), (2, .int v2), (4, .int v4), (5, .int v5), (6, .int v6)]) : W p l e { frames := 6, cells := 0, slots := 0, locals := 141 } s m args below meth c H locs 0 0 (MQ below (qIw D ct B Hb V) args s 0 0 (AB B)) (F0 m 104 ls []) := by
  obtain ⟨hx, hb, hr, hml, hown, hts, hK, hlocks, hN⟩ := id C0
  unfold b_X11_explained_104 at h
  refine lv_iinc (v := v6 + (-1)) (lv' := [(6, .int (v6 + (-1))), (0, .ref (B + 0)), (1, .int v1), (2, .int v2), (4, .int v4), (5, .int v5)]) hx hb dX11_explained_104 hl (k := 5) rfl rfl (by decide) rfl (fun ls hl => ?_)
  refine lv_goto (tgt := 45) hx hb dX11_explained_107 (by decide) ?_
  exact ih0 v1 v2 v4 v5 (v6 + (-1)) S _ _ _ h hP hS (lv_sub hl [1, 2, 3, 4, 5, 0] rfl)
set_option maxRecDepth 100000 in
set_option maxHeartbeats 4000000 in
theorem w_X11_explained_98 (l : Launch) {V : Int32 × St} (C0 : XC D ct p s m args meth c cX11_explained 8 (some .int) RX11) (n0 : Nat) (ih0 : ∀ (v1 : Int32) (v2 : Int32) (v4 : Int32) (v5 : Int32) (v6 : Int32) (S : St) (H : Heap) (locs : List Loc) (ls : Array Slot), (lp n0 (l_X11_explained_45) (v1, v2, v4, v5, v6, S)).bind some = some V → MP D ct B Hb S H → va_S (AB B) s.heap H locs → lv_has ls 8 [(0, .ref (B + 0)), (1, .int v1), (2, .int v2), (4, .int v4), (5, .int v5), (6, .int v6)] → W p l e { frames := 6, cells := 0, slots := 0, locals := 141 } s m args below meth c H locs 0 0 (MQ below (qIw D ct B Hb V) args s 0 0 (AB B)) (F0 m 45 ls [])) (n1 : Nat) (ih1 : ∀ (v1 : Int32) (v2 : Int32) (v4 : Int32) (v5 : Int32) (v6 : Int32) (v7 : Int32) (S : St) (H : Heap) (locs : List Loc) (ls : Array Slot), (lp n1 (l_X11_explained_54) (v1, v2, v4, v5, v6, v7, S)).bind (lpF n0 (l_X11_explained_45) some) = some V → MP D ct B Hb S H → va_S (AB B) s.heap H locs → lv_has ls 8 [(0, .ref (B + 0)), (1, .int v1), (2, .int v2), (4, .int v4), (5, .int v5), (6, .int v6), (7, .int v7)] → W p l e { frames := 6, cells := 0, slots := 0, locals := 141 } s m args below meth c H locs 0 0 (MQ below (qIw D ct B Hb V) args s 0 0 (AB B)) (F0 m 54 ls [])) (v1 : Int32) (v2 : Int32) (v4 : Int32) (v5 : Int32) (v6 : Int32) (v7 : Int32) (S : St) {H : Heap} {locs : List Loc} {ls : Array Slot} (h : (b_X11_explained_98 v1 v2 v4 v5 v6 v7 S).bind (lpF n1 (l_X11_explained_54) (lpF n0 (l_X11_explained_45) some)) = some V) (hP : MP D ct B Hb S H) (hS : va_S (AB B) s.heap H locs) (hl : lv_has ls 8 [(0, .ref (B + 0)), (1, .int v1), (2, .int v2), (4, .int v4), (5, .int v5), (6, .int v6), (7, .int v7)]) : W p l e { frames := 6, cells := 0, slots := 0, locals := 141 } s m args below meth c H locs 0 0 (MQ below (qIw D ct B Hb V) args s 0 0 (AB B)) (F0 m 98 ls []) := by
  obtain ⟨hx, hb, hr, hml, hown, hts, hK, hlocks, hN⟩ := id C0
  unfold b_X11_explained_98 at h
  refine lv_iinc (v := v7 + (-1)) (lv' := [(7, .int (v7 + (-1))), (0, .ref (B + 0)), (1, .int v1), (2, .int v2), (4, .int v4), (5, .int v5), (6, .int v6)]) hx hb dX11_explained_98 hl (k := 6) rfl rfl (by decide) rfl (fun ls hl => ?_)
  refine lv_goto (tgt := 54) hx hb dX11_explained_101 (by decide) ?_
  exact ih1 v1 v2 v4 v5 v6 (v7 + (-1)) S _ _ _ h hP hS (lv_sub hl [1, 2, 3, 4, 5, 6, 0] rfl)
set_option maxRecDepth 100000 in
set_option maxHeartbeats 4000000 in
theorem w_X11_explained_54 (l : Launch) {V : Int32 × St} (C0 : XC D ct p s m args meth c cX11_explained 8 (some .int) RX11) (n0 : Nat) (ih0 : ∀ (v1 : Int32) (v2 : Int32) (v4 : Int32) (v5 : Int32) (v6 : Int32) (S : St) (H : Heap) (locs : List Loc) (ls : Array Slot), (lp n0 (l_X11_explained_45) (v1, v2, v4, v5, v6, S)).bind some = some V → MP D ct B Hb S H → va_S (AB B) s.heap H locs → lv_has ls 8 [(0, .ref (B + 0)), (1, .int v1), (2, .int v2), (4, .int v4), (5, .int v5), (6, .int v6)] → W p l e { frames := 6, cells := 0, slots := 0, locals := 141 } s m args below meth c H locs 0 0 (MQ below (qIw D ct B Hb V) args s 0 0 (AB B)) (F0 m 45 ls [])) (n1 : Nat) (ih1 : ∀ (v1 : Int32) (v2 : Int32) (v4 : Int32) (v5 : Int32) (v6 : Int32) (v7 : Int32) (S : St) (H : Heap) (locs : List Loc) (ls : Array Slot), (lp n1 (l_X11_explained_54) (v1, v2, v4, v5, v6, v7, S)).bind (lpF n0 (l_X11_explained_45) some) = some V → MP D ct B Hb S H → va_S (AB B) s.heap H locs → lv_has ls 8 [(0, .ref (B + 0)), (1, .int v1), (2, .int v2), (4, .int v4), (5, .int v5), (6, .int v6), (7, .int v7)] → W p l e { frames := 6, cells := 0, slots := 0, locals := 141 } s m args below meth c H locs 0 0 (MQ below (qIw D ct B Hb V) args s 0 0 (AB B)) (F0 m 54 ls [])) (v1 : Int32) (v2 : Int32) (v4 : Int32) (v5 : Int32) (v6 : Int32) (v7 : Int32) (S : St) {H : Heap} {locs : List Loc} {ls : Array Slot} (h : (b_X11_explained_54 v1 v2 v4 v5 v6 v7 S).bind (lpF n1 (l_X11_explained_54) (lpF n0 (l_X11_explained_45) some)) = some V) (hP : MP D ct B Hb S H) (hS : va_S (AB B) s.heap H locs) (hl : lv_has ls 8 [(0, .ref (B + 0)), (1, .int v1), (2, .int v2), (4, .int v4), (5, .int v5), (6, .int v6), (7, .int v7)]) : W p l e { frames := 6, cells := 0, slots := 0, locals := 141 } s m args below meth c H locs 0 0 (MQ below (qIw D ct B Hb V) args s 0 0 (AB B)) (F0 m 54 ls []) := by
  obtain ⟨hx, hb, hr, hml, hown, hts, hK, hlocks, hN⟩ := id C0
  unfold b_X11_explained_54 at h
  refine lv_iload hx hb dX11_explained_54 (lv_at hl 6 rfl) ?_
  refine lv_if_lt (tgt := 104) hx hb dX11_explained_56 (by decide) (fun z1 => ?_) (fun z1 => ?_)
  · have h := ob_t h z1
    have h := ob_mp h
    exact w_X11_explained_104 l C0 n0 ih0 v1 v2 v4 v5 v6 S h hP hS (lv_sub hl [0, 1, 2, 3, 4, 5] rfl)
  · have h := ob_f h z1
    refine lv_aload_n hx hb dX11_explained_59 rfl (lv_at hl 0 rfl) ?_
    refine lv_aload_n hx hb dX11_explained_60 rfl (lv_at hl 0 rfl) ?_
    refine x_get C0 hP (lay_X11 B ct S) rfl inG11 7 (by decide) wd_226 (fun _ h => h) rfl dX11_explained_61 ?_
    refine lv_iload_n hx hb dX11_explained_64 rfl (lv_at hl 1 rfl) ?_
    obtain ⟨g2, h⟩ := ob_gd h
    refine x_aald (v := .ref (B + (70 + 2 * v1.toNatClampNeg))) C0 hP (lay_68 B ct S) rfl rfl g2 rfl dX11_explained_65 ?_
    refine lv_iload hx hb dX11_explained_66 (lv_at hl 5 rfl) ?_
    refine lv_iload hx hb dX11_explained_68 (lv_at hl 6 rfl) ?_
    obtain ⟨r3, hr3, h⟩ := ob_bd h
    refine n_Iw (kV (As := [.ref (B + (70 + 2 * v1.toNatClampNeg)), .int v6, .int v7]) C0 (c_X11_firstMisfit l (70 + 2 * v1.toNatClampNeg) (isRow_of g2) v6 v7 hr3) ⟨wd_890, wd_887, wd_889, wp_18, wd_1⟩ kd_X11_firstMisfit ⟨Nat.le_of_ble_eq_true rfl, Nat.le_of_ble_eq_true rfl⟩ hP (lay_X11 B ct S) rfl rfl hl.1 rfl (Nat.le_of_ble_eq_true rfl) dX11_explained_70 ⟨Nat.le_of_ble_eq_true rfl, Nat.le_of_ble_eq_true rfl⟩) hS (fun H locs hP hS => ?_)
    refine lv_aload_n hx hb dX11_explained_73 rfl (lv_at hl 0 rfl) ?_
    refine x_get C0 hP (lay_X11 B ct r3.2) rfl inG11 7 (by decide) wd_226 (fun _ h => h) rfl dX11_explained_74 ?_
    refine lv_iload_n hx hb dX11_explained_77 rfl (lv_at hl 1 rfl) ?_
    obtain ⟨g4, h⟩ := ob_gd h
    refine x_aald (v := .ref (B + (70 + 2 * v1.toNatClampNeg))) C0 hP (lay_68 B ct r3.2) rfl rfl g4 rfl dX11_explained_78 ?_
    refine x_get C0 hP (lay_X8 B ct r3.2 (isRow_of g4)) rfl inG8 1 (by decide) wd_207 (fun _ h => h) rfl dX11_explained_79 ?_
    refine lv_icmp_ne (tgt := 98) hx hb dX11_explained_82 (by decide) (fun z5 => ?_) (fun z5 => ?_)
    · have h := ob_f h z5
      exact w_X11_explained_98 l C0 n0 ih0 n1 ih1 v1 v2 v4 v5 v6 v7 r3.2 h hP hS (lv_sub hl [0, 1, 2, 3, 4, 5, 6] rfl)
    · have h := ob_t h z5
      refine lv_iinc (v := v4 + 1) (lv' := [(4, .int (v4 + 1)), (0, .ref (B + 0)), (1, .int v1), (2, .int v2), (5, .int v5), (6, .int v6), (7, .int v7)]) hx hb dX11_explained_85 hl (k := 3) rfl rfl (by decide) rfl (fun ls hl => ?_)
      refine lv_bipush (v := 100) hx hb dX11_explained_88 (by decide) ?_
      refine lv_iload hx hb dX11_explained_90 (lv_at hl 5 rfl) ?_
      refine lv_imul hx hb dX11_explained_92 ?_
      refine lv_iload hx hb dX11_explained_93 (lv_at hl 6 rfl) ?_
      refine lv_iadd hx hb dX11_explained_95 ?_
      refine lv_istore (lv' := [(5, .int ((100 * v6) + v7)), (4, .int (v4 + 1)), (0, .ref (B + 0)), (1, .int v1), (2, .int v2), (6, .int v6), (7, .int v7)]) hx hb dX11_explained_96 hl (by decide) rfl (fun ls hl => ?_)
      exact w_X11_explained_98 l C0 n0 ih0 n1 ih1 v1 v2 (v4 + 1) ((100 * v6) + v7) v6 v7 r3.2 h hP hS (lv_sub hl [2, 3, 4, 1, 0, 5, 6] rfl)
set_option maxRecDepth 100000 in
set_option maxHeartbeats 4000000 in
theorem wl_X11_explained_54 (l : Launch) {V : Int32 × St} (C0 : XC D ct p s m args meth c cX11_explained 8 (some .int) RX11) (n0 : Nat) (ih0 : ∀ (v1 : Int32) (v2 : Int32) (v4 : Int32) (v5 : Int32) (v6 : Int32) (S : St) (H : Heap) (locs : List Loc) (ls : Array Slot), (lp n0 (l_X11_explained_45) (v1, v2, v4, v5, v6, S)).bind some = some V → MP D ct B Hb S H → va_S (AB B) s.heap H locs → lv_has ls 8 [(0, .ref (B + 0)), (1, .int v1), (2, .int v2), (4, .int v4), (5, .int v5), (6, .int v6)] → W p l e { frames := 6, cells := 0, slots := 0, locals := 141 } s m args below meth c H locs 0 0 (MQ below (qIw D ct B Hb V) args s 0 0 (AB B)) (F0 m 45 ls []))  : ∀ (n1 : Nat) (v1 : Int32) (v2 : Int32) (v4 : Int32) (v5 : Int32) (v6 : Int32) (v7 : Int32) (S : St) {H : Heap} {locs : List Loc} {ls : Array Slot}, (lp n1 (l_X11_explained_54) (v1, v2, v4, v5, v6, v7, S)).bind (lpF n0 (l_X11_explained_45) some) = some V → MP D ct B Hb S H → va_S (AB B) s.heap H locs → lv_has ls 8 [(0, .ref (B + 0)), (1, .int v1), (2, .int v2), (4, .int v4), (5, .int v5), (6, .int v6), (7, .int v7)] → W p l e { frames := 6, cells := 0, slots := 0, locals := 141 } s m args below meth c H locs 0 0 (MQ below (qIw D ct B Hb V) args s 0 0 (AB B)) (F0 m 54 ls []) := by
  intro n1
  induction n1 with
  | zero =>
    intro v1 v2 v4 v5 v6 v7 S H locs ls h hP hS hl
    exact (lp_0 h).elim
  | succ n1 ih1 =>
    intro v1 v2 v4 v5 v6 v7 S H locs ls h hP hS hl
    have h := lp_s h
    exact w_X11_explained_54 l C0 n0 ih0 n1 (fun v1 v2 v4 v5 v6 v7 S H locs ls h hP hS hl => ih1 v1 v2 v4 v5 v6 v7 S h hP hS hl) v1 v2 v4 v5 v6 v7 S h hP hS hl
set_option maxRecDepth 100000 in
set_option maxHeartbeats 4000000 in
theorem w_X11_explained_45 (l : Launch) {V : Int32 × St} (C0 : XC D ct p s m args meth c cX11_explained 8 (some .int) RX11) (n0 : Nat) (ih0 : ∀ (v1 : Int32) (v2 : Int32) (v4 : Int32) (v5 : Int32) (v6 : Int32) (S : St) (H : Heap) (locs : List Loc) (ls : Array Slot), (lp n0 (l_X11_explained_45) (v1, v2, v4, v5, v6, S)).bind some = some V → MP D ct B Hb S H → va_S (AB B) s.heap H locs → lv_has ls 8 [(0, .ref (B + 0)), (1, .int v1), (2, .int v2), (4, .int v4), (5, .int v5), (6, .int v6)] → W p l e { frames := 6, cells := 0, slots := 0, locals := 141 } s m args below meth c H locs 0 0 (MQ below (qIw D ct B Hb V) args s 0 0 (AB B)) (F0 m 45 ls [])) (v1 : Int32) (v2 : Int32) (v4 : Int32) (v5 : Int32) (v6 : Int32) (S : St) {H : Heap} {locs : List Loc} {ls : Array Slot} (h : (b_X11_explained_45 v1 v2 v4 v5 v6 S).bind (lpF n0 (l_X11_explained_45) some) = some V) (hP : MP D ct B Hb S H) (hS : va_S (AB B) s.heap H locs) (hl : lv_has ls 8 [(0, .ref (B + 0)), (1, .int v1), (2, .int v2), (4, .int v4), (5, .int v5), (6, .int v6)]) : W p l e { frames := 6, cells := 0, slots := 0, locals := 141 } s m args below meth c H locs 0 0 (MQ below (qIw D ct B Hb V) args s 0 0 (AB B)) (F0 m 45 ls []) := by
  obtain ⟨hx, hb, hr, hml, hown, hts, hK, hlocks, hN⟩ := id C0
  unfold b_X11_explained_45 at h
  refine lv_iload hx hb dX11_explained_45 (lv_at hl 5 rfl) ?_
  refine lv_if_lt (tgt := 110) hx hb dX11_explained_47 (by decide) (fun z1 => ?_) (fun z1 => ?_)
  · have h := ob_t h z1
    have h := ob_mp h
    exact w_X11_explained_110 l C0 v2 v4 v5 S h hP hS (lv_sub hl [2, 3, 4] rfl)
  · have h := ob_f h z1
    refine lv_bipush (v := 23) hx hb dX11_explained_50 (by decide) ?_
    refine lv_istore (lv' := [(7, .int 23), (0, .ref (B + 0)), (1, .int v1), (2, .int v2), (4, .int v4), (5, .int v5), (6, .int v6)]) hx hb dX11_explained_52 hl (by decide) rfl (fun ls hl => ?_)
    exact wl_X11_explained_54 l C0 n0 ih0 1000 v1 v2 v4 v5 v6 23 S h hP hS (lv_sub hl [1, 2, 3, 4, 5, 6, 0] rfl)
set_option maxRecDepth 100000 in
set_option maxHeartbeats 4000000 in
theorem wl_X11_explained_45 (l : Launch) {V : Int32 × St} (C0 : XC D ct p s m args meth c cX11_explained 8 (some .int) RX11)  : ∀ (n0 : Nat) (v1 : Int32) (v2 : Int32) (v4 : Int32) (v5 : Int32) (v6 : Int32) (S : St) {H : Heap} {locs : List Loc} {ls : Array Slot}, (lp n0 (l_X11_explained_45) (v1, v2, v4, v5, v6, S)).bind some = some V → MP D ct B Hb S H → va_S (AB B) s.heap H locs → lv_has ls 8 [(0, .ref (B + 0)), (1, .int v1), (2, .int v2), (4, .int v4), (5, .int v5), (6, .int v6)] → W p l e { frames := 6, cells := 0, slots := 0, locals := 141 } s m args below meth c H locs 0 0 (MQ below (qIw D ct B Hb V) args s 0 0 (AB B)) (F0 m 45 ls []) := by
  intro n0
  induction n0 with
  | zero =>
    intro v1 v2 v4 v5 v6 S H locs ls h hP hS hl
    exact (lp_0 h).elim
  | succ n0 ih0 =>
    intro v1 v2 v4 v5 v6 S H locs ls h hP hS hl
    have h := lp_s h
    exact w_X11_explained_45 l C0 n0 (fun v1 v2 v4 v5 v6 S H locs ls h hP hS hl => ih0 v1 v2 v4 v5 v6 S h hP hS hl) v1 v2 v4 v5 v6 S h hP hS hl
set_option maxRecDepth 100000 in
set_option maxHeartbeats 4000000 in
theorem w_X11_explained_0 (l : Launch) {V : Int32 × St} (C0 : XC D ct p s m args meth c cX11_explained 8 (some .int) RX11) (v1 : Int32) (v2 : Int32) (S : St) {H : Heap} {locs : List Loc} {ls : Array Slot} (h : (b_X11_explained_0 v1 v2 S).bind some = some V) (hP : MP D ct B Hb S H) (hS : va_S (AB B) s.heap H locs) (hl : lv_has ls 8 [(0, .ref (B + 0)), (1, .int v1), (2, .int v2)]) : W p l e { frames := 6, cells := 0, slots := 0, locals := 141 } s m args below meth c H locs 0 0 (MQ below (qIw D ct B Hb V) args s 0 0 (AB B)) (F0 m 0 ls []) := by
  obtain ⟨hx, hb, hr, hml, hown, hts, hK, hlocks, hN⟩ := id C0
  unfold b_X11_explained_0 at h
  refine lv_iload_n hx hb dX11_explained_0 rfl (lv_at hl 2 rfl) ?_
  refine lv_iconst (v := 0) hx hb dX11_explained_1 (by decide) ?_
  refine lv_iconst (v := 1) hx hb dX11_explained_2 (by decide) ?_
  obtain ⟨r1, hr1, h⟩ := ob_bd h
  refine n_I (kS (As := [.int v2, .int 0, .int 1]) C0 (c_X11_isOut l v2 0 1 hr1) ⟨wd_378, wd_500, wd_377, wd_1⟩ kd_X11_isOut ⟨Nat.le_of_ble_eq_true rfl, Nat.le_of_ble_eq_true rfl⟩ hP rfl hl.1 rfl (Nat.le_of_ble_eq_true rfl) dX11_explained_3 ⟨Nat.le_of_ble_eq_true rfl, Nat.le_of_ble_eq_true rfl⟩) hS (fun H locs hP hS => ?_)
  refine lv_if_eq (tgt := 11) hx hb dX11_explained_6 (by decide) (fun z2 => ?_) (fun z2 => ?_)
  · have h := ob_t h z2
    refine lv_aload_n hx hb dX11_explained_11 rfl (lv_at hl 0 rfl) ?_
    refine lv_iload_n hx hb dX11_explained_12 rfl (lv_at hl 1 rfl) ?_
    obtain ⟨r3, hr3, h⟩ := ob_bd h
    refine n_I (kV (As := [.int v1]) C0 (c_X11_toldChoicesRefusal l v1 hr3) ⟨wd_886, wd_883, wd_885, wp_17, wd_1⟩ kd_X11_toldChoicesRefusal ⟨Nat.le_of_ble_eq_true rfl, Nat.le_of_ble_eq_true rfl⟩ hP (lay_X11 B ct S) rfl rfl hl.1 rfl (Nat.le_of_ble_eq_true rfl) dX11_explained_13 ⟨Nat.le_of_ble_eq_true rfl, Nat.le_of_ble_eq_true rfl⟩) hS (fun H locs hP hS => ?_)
    refine lv_istore_n (lv' := [(3, .int r3), (0, .ref (B + 0)), (1, .int v1), (2, .int v2)]) hx hb dX11_explained_16 rfl hl (by decide) rfl (fun ls hl => ?_)
    refine lv_iload_n hx hb dX11_explained_17 rfl (lv_at hl 0 rfl) ?_
    refine lv_if_eq (tgt := 23) hx hb dX11_explained_18 (by decide) (fun z4 => ?_) (fun z4 => ?_)
    · have h := ob_t h z4
      refine lv_aload_n hx hb dX11_explained_23 rfl (lv_at hl 1 rfl) ?_
      refine x_get C0 hP (lay_X11 B ct S) rfl inG11 1 (by decide) wd_220 (fun _ h => h) rfl dX11_explained_24 ?_
      refine lv_aload_n hx hb dX11_explained_27 rfl (lv_at hl 1 rfl) ?_
      refine x_get C0 hP (lay_X11 B ct S) rfl inG11 0 (by decide) wd_219 (fun _ h => h) rfl dX11_explained_28 ?_
      obtain ⟨r5, hr5, h⟩ := ob_bd h
      refine n_Vw (kV (As := [.ref (B + 1)]) C0 (c_X10_become l 19 1 (Or.inr (Or.inl rfl)) (Or.inl rfl) hr5) ⟨wd_267, wd_264, wd_265, wd_266, wd_2⟩ kd_X10_become ⟨Nat.le_of_ble_eq_true rfl, Nat.le_of_ble_eq_true rfl⟩ hP (lay_X10 B ct S (Or.inr (Or.inl rfl))) rfl rfl hl.1 rfl (Nat.le_of_ble_eq_true rfl) dX11_explained_31 ⟨Nat.le_of_ble_eq_true rfl, Nat.le_of_ble_eq_true rfl⟩) hS (fun H locs hP hS => ?_)
      refine lv_iconst (v := 0) hx hb dX11_explained_34 (by decide) ?_
      refine lv_istore (lv' := [(4, .int 0), (3, .int r3), (0, .ref (B + 0)), (1, .int v1), (2, .int v2)]) hx hb dX11_explained_35 hl (by decide) rfl (fun ls hl => ?_)
      refine lv_bipush (v := (-4)) hx hb dX11_explained_37 (by decide) ?_
      refine lv_istore (lv' := [(5, .int ((-4))), (4, .int 0), (3, .int r3), (0, .ref (B + 0)), (1, .int v1), (2, .int v2)]) hx hb dX11_explained_39 hl (by decide) rfl (fun ls hl => ?_)
      refine lv_bipush (v := 9) hx hb dX11_explained_41 (by decide) ?_
      refine lv_istore (lv' := [(6, .int 9), (5, .int ((-4))), (4, .int 0), (3, .int r3), (0, .ref (B + 0)), (1, .int v1), (2, .int v2)]) hx hb dX11_explained_43 hl (by decide) rfl (fun ls hl => ?_)
      exact wl_X11_explained_45 l C0 1000 v1 v2 0 ((-4)) 9 r5 h hP hS (lv_sub hl [4, 5, 6, 2, 1, 0] rfl)
    · have h := ob_f h z4
      refine lv_iload_n hx hb dX11_explained_21 rfl (lv_at hl 0 rfl) ?_
      exact r_Iw C0 hP hS h dX11_explained_22
  · have h := ob_f h z2
    refine lv_iconst (v := (-1)) hx hb dX11_explained_9 (by decide) ?_
    exact r_Iw C0 hP hS h dX11_explained_10
set_option maxRecDepth 100000 in
set_option maxHeartbeats 4000000 in
theorem c_X11_explained (l : Launch) (a1 : Int32) (a2 : Int32) {D : va_G} {ct : Nat → ClassId} {B : Nat} {Hb : Heap} {S : St} {V : Int32 × St} (h : L_X11_explained a1 a2 S = some V) : Met l yX11_explained (Cond.code yX11_explained cX11_explained 8 (some .int) :: tG) { frames := 6, cells := 0, slots := 0, locals := 141 } (va_Pc [.ref (B + 0), .int a1, .int a2] (MPK D ct B Hb S)) (qIw D ct B Hb V) 0 0 (AB B) := by
  refine mk_met (by decide +kernel) (Nat.le_of_ble_eq_true rfl) (fun p e s m args below meth c ls C0 hP hl _ => ?_)
  have h := ob_of h
  exact w_X11_explained_0 l C0 a1 a2 S h hP va_S.rf (lv_sub hl [0, 1, 2] rfl)
end WALKS
