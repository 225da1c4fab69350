theorem dX12_set_0 : decode cX12_set 0 = .ok (.aload_n 0, 1) := by decide +kernel
theorem dX12_set_1 : decode cX12_set 1 = .ok (.iconst 0, 1) := by decide +kernel
theorem dX12_set_2 : decode cX12_set 2 = .ok (.putfield 160, 3) := by decide +kernel
theorem dX12_set_5 : decode cX12_set 5 = .ok (.iload_n 1, 1) := by decide +kernel
theorem dX12_set_6 : decode cX12_set 6 = .ok (.ifCond .ne 10, 3) := by decide +kernel
theorem dX12_set_9 : decode cX12_set 9 = .ok (.iload_n 2, 1) := by decide +kernel
theorem dX12_set_10 : decode cX12_set 10 = .ok (.invokestatic 297, 3) := by decide +kernel
theorem dX12_set_13 : decode cX12_set 13 = .ok (.goto 42, 3) := by decide +kernel
theorem dX12_set_16 : decode cX12_set 16 = .ok (.iload_n 1, 1) := by decide +kernel
theorem dX12_set_17 : decode cX12_set 17 = .ok (.iconst 1, 1) := by decide +kernel
theorem dX12_set_18 : decode cX12_set 18 = .ok (.if_icmp .ne 15, 3) := by decide +kernel
theorem dX12_set_21 : decode cX12_set 21 = .ok (.iload_n 2, 1) := by decide +kernel
theorem dX12_set_22 : decode cX12_set 22 = .ok (.i2l, 1) := by decide +kernel
theorem dX12_set_23 : decode cX12_set 23 = .ok (.lconst 0, 1) := by decide +kernel
theorem dX12_set_24 : decode cX12_set 24 = .ok (.ldc2_w 342, 3) := by decide +kernel
theorem dX12_set_27 : decode cX12_set 27 = .ok (.invokestatic 165, 3) := by decide +kernel
theorem dX12_set_30 : decode cX12_set 30 = .ok (.goto 25, 3) := by decide +kernel
theorem dX12_set_33 : decode cX12_set 33 = .ok (.iload_n 1, 1) := by decide +kernel
theorem dX12_set_34 : decode cX12_set 34 = .ok (.iconst 2, 1) := by decide +kernel
theorem dX12_set_35 : decode cX12_set 35 = .ok (.if_icmp .ne 19, 3) := by decide +kernel
theorem dX12_set_38 : decode cX12_set 38 = .ok (.iload_n 2, 1) := by decide +kernel
theorem dX12_set_39 : decode cX12_set 39 = .ok (.i2l, 1) := by decide +kernel
theorem dX12_set_40 : decode cX12_set 40 = .ok (.lconst 1, 1) := by decide +kernel
theorem dX12_set_41 : decode cX12_set 41 = .ok (.ldc2_w 342, 3) := by decide +kernel
theorem dX12_set_44 : decode cX12_set 44 = .ok (.invokestatic 165, 3) := by decide +kernel
theorem dX12_set_47 : decode cX12_set 47 = .ok (.ifCond .eq 7, 3) := by decide +kernel
theorem dX12_set_50 : decode cX12_set 50 = .ok (.iconst 1, 1) := by decide +kernel
theorem dX12_set_51 : decode cX12_set 51 = .ok (.goto 4, 3) := by decide +kernel
theorem dX12_set_54 : decode cX12_set 54 = .ok (.iconst 0, 1) := by decide +kernel
theorem dX12_set_55 : decode cX12_set 55 = .ok (.istore_n 3, 1) := by decide +kernel
theorem dX12_set_56 : decode cX12_set 56 = .ok (.iload_n 3, 1) := by decide +kernel
theorem dX12_set_57 : decode cX12_set 57 = .ok (.ifCond .ne 5, 3) := by decide +kernel
theorem dX12_set_60 : decode cX12_set 60 = .ok (.iconst (-1), 1) := by decide +kernel
theorem dX12_set_61 : decode cX12_set 61 = .ok (.ireturn, 1) := by decide +kernel
theorem dX12_set_62 : decode cX12_set 62 = .ok (.iload_n 1, 1) := by decide +kernel
theorem dX12_set_63 : decode cX12_set 63 = .ok (.ifCond .ne 10, 3) := by decide +kernel
theorem dX12_set_66 : decode cX12_set 66 = .ok (.aload_n 0, 1) := by decide +kernel
theorem dX12_set_67 : decode cX12_set 67 = .ok (.getfield 25, 3) := by decide +kernel
theorem dX12_set_70 : decode cX12_set 70 = .ok (.goto 19, 3) := by decide +kernel
theorem dX12_set_73 : decode cX12_set 73 = .ok (.iload_n 1, 1) := by decide +kernel
theorem dX12_set_74 : decode cX12_set 74 = .ok (.iconst 1, 1) := by decide +kernel
theorem dX12_set_75 : decode cX12_set 75 = .ok (.if_icmp .ne 10, 3) := by decide +kernel
theorem dX12_set_78 : decode cX12_set 78 = .ok (.aload_n 0, 1) := by decide +kernel
theorem dX12_set_79 : decode cX12_set 79 = .ok (.getfield 29, 3) := by decide +kernel
theorem dX12_set_82 : decode cX12_set 82 = .ok (.goto 7, 3) := by decide +kernel
theorem dX12_set_85 : decode cX12_set 85 = .ok (.aload_n 0, 1) := by decide +kernel
theorem dX12_set_86 : decode cX12_set 86 = .ok (.getfield 32, 3) := by decide +kernel
theorem dX12_set_89 : decode cX12_set 89 = .ok (.istore 4, 2) := by decide +kernel
theorem dX12_set_91 : decode cX12_set 91 = .ok (.aload_n 0, 1) := by decide +kernel
theorem dX12_set_92 : decode cX12_set 92 = .ok (.iload_n 1, 1) := by decide +kernel
theorem dX12_set_93 : decode cX12_set 93 = .ok (.ifCond .ne 7, 3) := by decide +kernel
theorem dX12_set_96 : decode cX12_set 96 = .ok (.iload_n 2, 1) := by decide +kernel
theorem dX12_set_97 : decode cX12_set 97 = .ok (.goto 7, 3) := by decide +kernel
theorem dX12_set_100 : decode cX12_set 100 = .ok (.aload_n 0, 1) := by decide +kernel
theorem dX12_set_101 : decode cX12_set 101 = .ok (.getfield 25, 3) := by decide +kernel
theorem dX12_set_104 : decode cX12_set 104 = .ok (.putfield 25, 3) := by decide +kernel
theorem dX12_set_107 : decode cX12_set 107 = .ok (.aload_n 0, 1) := by decide +kernel
theorem dX12_set_108 : decode cX12_set 108 = .ok (.iload_n 1, 1) := by decide +kernel
theorem dX12_set_109 : decode cX12_set 109 = .ok (.iconst 1, 1) := by decide +kernel
theorem dX12_set_110 : decode cX12_set 110 = .ok (.if_icmp .ne 7, 3) := by decide +kernel
theorem dX12_set_113 : decode cX12_set 113 = .ok (.iload_n 2, 1) := by decide +kernel
theorem dX12_set_114 : decode cX12_set 114 = .ok (.goto 7, 3) := by decide +kernel
theorem dX12_set_117 : decode cX12_set 117 = .ok (.aload_n 0, 1) := by decide +kernel
theorem dX12_set_118 : decode cX12_set 118 = .ok (.getfield 29, 3) := by decide +kernel
theorem dX12_set_121 : decode cX12_set 121 = .ok (.putfield 29, 3) := by decide +kernel
theorem dX12_set_124 : decode cX12_set 124 = .ok (.aload_n 0, 1) := by decide +kernel
theorem dX12_set_125 : decode cX12_set 125 = .ok (.iload_n 1, 1) := by decide +kernel
theorem dX12_set_126 : decode cX12_set 126 = .ok (.iconst 2, 1) := by decide +kernel
theorem dX12_set_127 : decode cX12_set 127 = .ok (.if_icmp .ne 7, 3) := by decide +kernel
theorem dX12_set_130 : decode cX12_set 130 = .ok (.iload_n 2, 1) := by decide +kernel
theorem dX12_set_131 : decode cX12_set 131 = .ok (.goto 7, 3) := by decide +kernel
theorem dX12_set_134 : decode cX12_set 134 = .ok (.aload_n 0, 1) := by decide +kernel
theorem dX12_set_135 : decode cX12_set 135 = .ok (.getfield 32, 3) := by decide +kernel
theorem dX12_set_138 : decode cX12_set 138 = .ok (.putfield 32, 3) := by decide +kernel
theorem dX12_set_141 : decode cX12_set 141 = .ok (.iload 4, 2) := by decide +kernel
theorem dX12_set_143 : decode cX12_set 143 = .ok (.ireturn, 1) := by decide +kernel
theorem dX12_fate_0 : decode cX12_fate 0 = .ok (.aload_n 0, 1) := by decide +kernel
theorem dX12_fate_1 : decode cX12_fate 1 = .ok (.iconst 0, 1) := by decide +kernel
theorem dX12_fate_2 : decode cX12_fate 2 = .ok (.putfield 160, 3) := by decide +kernel
theorem dX12_fate_5 : decode cX12_fate 5 = .ok (.aload_n 0, 1) := by decide +kernel
theorem dX12_fate_6 : decode cX12_fate 6 = .ok (.iload_n 1, 1) := by decide +kernel
theorem dX12_fate_7 : decode cX12_fate 7 = .ok (.invokevirtual 337, 3) := by decide +kernel
theorem dX12_fate_10 : decode cX12_fate 10 = .ok (.ifCond .eq 15, 3) := by decide +kernel
theorem dX12_fate_13 : decode cX12_fate 13 = .ok (.iload_n 2, 1) := by decide +kernel
theorem dX12_fate_14 : decode cX12_fate 14 = .ok (.i2l, 1) := by decide +kernel
theorem dX12_fate_15 : decode cX12_fate 15 = .ok (.lconst 0, 1) := by decide +kernel
theorem dX12_fate_16 : decode cX12_fate 16 = .ok (.ldc2_w 360, 3) := by decide +kernel
theorem dX12_fate_19 : decode cX12_fate 19 = .ok (.invokestatic 165, 3) := by decide +kernel
theorem dX12_fate_22 : decode cX12_fate 22 = .ok (.ifCond .ne 5, 3) := by decide +kernel
theorem dX12_fate_25 : decode cX12_fate 25 = .ok (.iconst (-1), 1) := by decide +kernel
theorem dX12_fate_26 : decode cX12_fate 26 = .ok (.ireturn, 1) := by decide +kernel
theorem dX12_fate_27 : decode cX12_fate 27 = .ok (.aload_n 0, 1) := by decide +kernel
theorem dX12_fate_28 : decode cX12_fate 28 = .ok (.invokevirtual 362, 3) := by decide +kernel
theorem dX12_fate_31 : decode cX12_fate 31 = .ok (.iload_n 2, 1) := by decide +kernel
theorem dX12_fate_32 : decode cX12_fate 32 = .ok (.tableswitch 176 0 7 #[48, 58, 70, 91, 112, 119, 134, 155], 48) := by decide +kernel
theorem dX12_fate_80 : decode cX12_fate 80 = .ok (.aload_n 0, 1) := by decide +kernel
theorem dX12_fate_81 : decode cX12_fate 81 = .ok (.getfield 94, 3) := by decide +kernel
theorem dX12_fate_84 : decode cX12_fate 84 = .ok (.iload_n 1, 1) := by decide +kernel
theorem dX12_fate_85 : decode cX12_fate 85 = .ok (.iaload, 1) := by decide +kernel
theorem dX12_fate_86 : decode cX12_fate 86 = .ok (.invokestatic 365, 3) := by decide +kernel
theorem dX12_fate_89 : decode cX12_fate 89 = .ok (.ireturn, 1) := by decide +kernel
theorem dX12_fate_90 : decode cX12_fate 90 = .ok (.aload_n 0, 1) := by decide +kernel
theorem dX12_fate_91 : decode cX12_fate 91 = .ok (.iload_n 1, 1) := by decide +kernel
theorem dX12_fate_92 : decode cX12_fate 92 = .ok (.aload_n 0, 1) := by decide +kernel
theorem dX12_fate_93 : decode cX12_fate 93 = .ok (.getfield 97, 3) := by decide +kernel
theorem dX12_fate_96 : decode cX12_fate 96 = .ok (.iload_n 1, 1) := by decide +kernel
theorem dX12_fate_97 : decode cX12_fate 97 = .ok (.iaload, 1) := by decide +kernel
theorem dX12_fate_98 : decode cX12_fate 98 = .ok (.invokevirtual 201, 3) := by decide +kernel
theorem dX12_fate_101 : decode cX12_fate 101 = .ok (.ireturn, 1) := by decide +kernel
theorem dX12_fate_102 : decode cX12_fate 102 = .ok (.aload_n 0, 1) := by decide +kernel
theorem dX12_fate_103 : decode cX12_fate 103 = .ok (.getfield 100, 3) := by decide +kernel
theorem dX12_fate_106 : decode cX12_fate 106 = .ok (.iload_n 1, 1) := by decide +kernel
theorem dX12_fate_107 : decode cX12_fate 107 = .ok (.iaload, 1) := by decide +kernel
theorem dX12_fate_108 : decode cX12_fate 108 = .ok (.ifCond .ge 8, 3) := by decide +kernel
theorem dX12_fate_111 : decode cX12_fate 111 = .ok (.bipush (-4), 2) := by decide +kernel
theorem dX12_fate_113 : decode cX12_fate 113 = .ok (.goto 9, 3) := by decide +kernel
theorem dX12_fate_116 : decode cX12_fate 116 = .ok (.aload_n 0, 1) := by decide +kernel
theorem dX12_fate_117 : decode cX12_fate 117 = .ok (.getfield 100, 3) := by decide +kernel
theorem dX12_fate_120 : decode cX12_fate 120 = .ok (.iload_n 1, 1) := by decide +kernel
theorem dX12_fate_121 : decode cX12_fate 121 = .ok (.iaload, 1) := by decide +kernel
theorem dX12_fate_122 : decode cX12_fate 122 = .ok (.ireturn, 1) := by decide +kernel
theorem dX12_fate_123 : decode cX12_fate 123 = .ok (.aload_n 0, 1) := by decide +kernel
theorem dX12_fate_124 : decode cX12_fate 124 = .ok (.getfield 100, 3) := by decide +kernel
theorem dX12_fate_127 : decode cX12_fate 127 = .ok (.iload_n 1, 1) := by decide +kernel
theorem dX12_fate_128 : decode cX12_fate 128 = .ok (.iaload, 1) := by decide +kernel
theorem dX12_fate_129 : decode cX12_fate 129 = .ok (.ifCond .ge 8, 3) := by decide +kernel
theorem dX12_fate_132 : decode cX12_fate 132 = .ok (.bipush (-4), 2) := by decide +kernel
theorem dX12_fate_134 : decode cX12_fate 134 = .ok (.goto 9, 3) := by decide +kernel
theorem dX12_fate_137 : decode cX12_fate 137 = .ok (.aload_n 0, 1) := by decide +kernel
theorem dX12_fate_138 : decode cX12_fate 138 = .ok (.getfield 103, 3) := by decide +kernel
theorem dX12_fate_141 : decode cX12_fate 141 = .ok (.iload_n 1, 1) := by decide +kernel
theorem dX12_fate_142 : decode cX12_fate 142 = .ok (.iaload, 1) := by decide +kernel
theorem dX12_fate_143 : decode cX12_fate 143 = .ok (.ireturn, 1) := by decide +kernel
theorem dX12_fate_144 : decode cX12_fate 144 = .ok (.aload_n 0, 1) := by decide +kernel
theorem dX12_fate_145 : decode cX12_fate 145 = .ok (.getfield 106, 3) := by decide +kernel
theorem dX12_fate_148 : decode cX12_fate 148 = .ok (.iload_n 1, 1) := by decide +kernel
theorem dX12_fate_149 : decode cX12_fate 149 = .ok (.iaload, 1) := by decide +kernel
theorem dX12_fate_150 : decode cX12_fate 150 = .ok (.ireturn, 1) := by decide +kernel
theorem dX12_fate_151 : decode cX12_fate 151 = .ok (.aload_n 0, 1) := by decide +kernel
theorem dX12_fate_152 : decode cX12_fate 152 = .ok (.getfield 109, 3) := by decide +kernel
theorem dX12_fate_155 : decode cX12_fate 155 = .ok (.iload_n 1, 1) := by decide +kernel
theorem dX12_fate_156 : decode cX12_fate 156 = .ok (.baload, 1) := by decide +kernel
theorem dX12_fate_157 : decode cX12_fate 157 = .ok (.ifCond .eq 7, 3) := by decide +kernel
theorem dX12_fate_160 : decode cX12_fate 160 = .ok (.iconst 1, 1) := by decide +kernel
theorem dX12_fate_161 : decode cX12_fate 161 = .ok (.goto 4, 3) := by decide +kernel
theorem dX12_fate_164 : decode cX12_fate 164 = .ok (.iconst 0, 1) := by decide +kernel
theorem dX12_fate_165 : decode cX12_fate 165 = .ok (.ireturn, 1) := by decide +kernel
theorem dX12_fate_166 : decode cX12_fate 166 = .ok (.aload_n 0, 1) := by decide +kernel
theorem dX12_fate_167 : decode cX12_fate 167 = .ok (.getfield 112, 3) := by decide +kernel
theorem dX12_fate_170 : decode cX12_fate 170 = .ok (.iload_n 1, 1) := by decide +kernel
theorem dX12_fate_171 : decode cX12_fate 171 = .ok (.iaload, 1) := by decide +kernel
theorem dX12_fate_172 : decode cX12_fate 172 = .ok (.ifCond .ge 8, 3) := by decide +kernel
theorem dX12_fate_175 : decode cX12_fate 175 = .ok (.bipush (-4), 2) := by decide +kernel
theorem dX12_fate_177 : decode cX12_fate 177 = .ok (.goto 9, 3) := by decide +kernel
theorem dX12_fate_180 : decode cX12_fate 180 = .ok (.aload_n 0, 1) := by decide +kernel
theorem dX12_fate_181 : decode cX12_fate 181 = .ok (.getfield 112, 3) := by decide +kernel
theorem dX12_fate_184 : decode cX12_fate 184 = .ok (.iload_n 1, 1) := by decide +kernel
theorem dX12_fate_185 : decode cX12_fate 185 = .ok (.iaload, 1) := by decide +kernel
theorem dX12_fate_186 : decode cX12_fate 186 = .ok (.ireturn, 1) := by decide +kernel
theorem dX12_fate_187 : decode cX12_fate 187 = .ok (.aload_n 0, 1) := by decide +kernel
theorem dX12_fate_188 : decode cX12_fate 188 = .ok (.getfield 112, 3) := by decide +kernel
theorem dX12_fate_191 : decode cX12_fate 191 = .ok (.iload_n 1, 1) := by decide +kernel
theorem dX12_fate_192 : decode cX12_fate 192 = .ok (.iaload, 1) := by decide +kernel
theorem dX12_fate_193 : decode cX12_fate 193 = .ok (.ifCond .ge 8, 3) := by decide +kernel
theorem dX12_fate_196 : decode cX12_fate 196 = .ok (.bipush (-4), 2) := by decide +kernel
theorem dX12_fate_198 : decode cX12_fate 198 = .ok (.goto 9, 3) := by decide +kernel
theorem dX12_fate_201 : decode cX12_fate 201 = .ok (.aload_n 0, 1) := by decide +kernel
theorem dX12_fate_202 : decode cX12_fate 202 = .ok (.getfield 115, 3) := by decide +kernel
theorem dX12_fate_205 : decode cX12_fate 205 = .ok (.iload_n 1, 1) := by decide +kernel
theorem dX12_fate_206 : decode cX12_fate 206 = .ok (.iaload, 1) := by decide +kernel
theorem dX12_fate_207 : decode cX12_fate 207 = .ok (.ireturn, 1) := by decide +kernel
theorem dX12_fate_208 : decode cX12_fate 208 = .ok (.aload_n 0, 1) := by decide +kernel
theorem dX12_fate_209 : decode cX12_fate 209 = .ok (.getfield 121, 3) := by decide +kernel
theorem dX12_fate_212 : decode cX12_fate 212 = .ok (.iload_n 1, 1) := by decide +kernel
theorem dX12_fate_213 : decode cX12_fate 213 = .ok (.iaload, 1) := by decide +kernel
theorem dX12_fate_214 : decode cX12_fate 214 = .ok (.ifCond .ge 8, 3) := by decide +kernel
theorem dX12_fate_217 : decode cX12_fate 217 = .ok (.bipush (-4), 2) := by decide +kernel
theorem dX12_fate_219 : decode cX12_fate 219 = .ok (.goto 9, 3) := by decide +kernel
theorem dX12_fate_222 : decode cX12_fate 222 = .ok (.aload_n 0, 1) := by decide +kernel
theorem dX12_fate_223 : decode cX12_fate 223 = .ok (.getfield 121, 3) := by decide +kernel
theorem dX12_fate_226 : decode cX12_fate 226 = .ok (.iload_n 1, 1) := by decide +kernel
theorem dX12_fate_227 : decode cX12_fate 227 = .ok (.iaload, 1) := by decide +kernel
theorem dX12_fate_228 : decode cX12_fate 228 = .ok (.ireturn, 1) := by decide +kernel
theorem dX12_sum_0 : decode cX12_sum 0 = .ok (.aload_n 0, 1) := by decide +kernel
theorem dX12_sum_1 : decode cX12_sum 1 = .ok (.iconst 0, 1) := by decide +kernel
theorem dX12_sum_2 : decode cX12_sum 2 = .ok (.putfield 160, 3) := by decide +kernel
theorem dX12_sum_5 : decode cX12_sum 5 = .ok (.aload_n 0, 1) := by decide +kernel
theorem dX12_sum_6 : decode cX12_sum 6 = .ok (.iload_n 1, 1) := by decide +kernel
theorem dX12_sum_7 : decode cX12_sum 7 = .ok (.invokevirtual 337, 3) := by decide +kernel
theorem dX12_sum_10 : decode cX12_sum 10 = .ok (.ifCond .ne 7, 3) := by decide +kernel
theorem dX12_sum_13 : decode cX12_sum 13 = .ok (.ldc_w 348, 3) := by decide +kernel
theorem dX12_sum_16 : decode cX12_sum 16 = .ok (.ireturn, 1) := by decide +kernel
theorem dX12_sum_17 : decode cX12_sum 17 = .ok (.aload_n 0, 1) := by decide +kernel
theorem dX12_sum_18 : decode cX12_sum 18 = .ok (.invokevirtual 362, 3) := by decide +kernel
theorem dX12_sum_21 : decode cX12_sum 21 = .ok (.aload_n 0, 1) := by decide +kernel
theorem dX12_sum_22 : decode cX12_sum 22 = .ok (.getfield 97, 3) := by decide +kernel
theorem dX12_sum_25 : decode cX12_sum 25 = .ok (.iload_n 1, 1) := by decide +kernel
theorem dX12_sum_26 : decode cX12_sum 26 = .ok (.iaload, 1) := by decide +kernel
theorem dX12_sum_27 : decode cX12_sum 27 = .ok (.ireturn, 1) := by decide +kernel
theorem dX12_chose_0 : decode cX12_chose 0 = .ok (.iconst 0, 1) := by decide +kernel
theorem dX12_chose_1 : decode cX12_chose 1 = .ok (.istore_n 2, 1) := by decide +kernel
theorem dX12_chose_2 : decode cX12_chose 2 = .ok (.iconst 0, 1) := by decide +kernel
theorem dX12_chose_3 : decode cX12_chose 3 = .ok (.istore_n 3, 1) := by decide +kernel
theorem dX12_chose_4 : decode cX12_chose 4 = .ok (.iload_n 3, 1) := by decide +kernel
theorem dX12_chose_5 : decode cX12_chose 5 = .ok (.aload_n 0, 1) := by decide +kernel
theorem dX12_chose_6 : decode cX12_chose 6 = .ok (.getfield 171, 3) := by decide +kernel
theorem dX12_chose_9 : decode cX12_chose 9 = .ok (.if_icmp .ge 27, 3) := by decide +kernel
theorem dX12_chose_12 : decode cX12_chose 12 = .ok (.iload_n 2, 1) := by decide +kernel
theorem dX12_chose_13 : decode cX12_chose 13 = .ok (.aload_n 0, 1) := by decide +kernel
theorem dX12_chose_14 : decode cX12_chose 14 = .ok (.getfield 94, 3) := by decide +kernel
theorem dX12_chose_17 : decode cX12_chose 17 = .ok (.iload_n 3, 1) := by decide +kernel
theorem dX12_chose_18 : decode cX12_chose 18 = .ok (.iaload, 1) := by decide +kernel
theorem dX12_chose_19 : decode cX12_chose 19 = .ok (.iload_n 1, 1) := by decide +kernel
theorem dX12_chose_20 : decode cX12_chose 20 = .ok (.if_icmp .ne 7, 3) := by decide +kernel
theorem dX12_chose_23 : decode cX12_chose 23 = .ok (.iconst 1, 1) := by decide +kernel
theorem dX12_chose_24 : decode cX12_chose 24 = .ok (.goto 4, 3) := by decide +kernel
theorem dX12_chose_27 : decode cX12_chose 27 = .ok (.iconst 0, 1) := by decide +kernel
theorem dX12_chose_28 : decode cX12_chose 28 = .ok (.iadd, 1) := by decide +kernel
theorem dX12_chose_29 : decode cX12_chose 29 = .ok (.istore_n 2, 1) := by decide +kernel
theorem dX12_chose_30 : decode cX12_chose 30 = .ok (.iinc 3 1, 3) := by decide +kernel
theorem dX12_chose_33 : decode cX12_chose 33 = .ok (.goto (-29), 3) := by decide +kernel
theorem dX12_chose_36 : decode cX12_chose 36 = .ok (.iload_n 2, 1) := by decide +kernel
theorem dX12_chose_37 : decode cX12_chose 37 = .ok (.ireturn, 1) := by decide +kernel
theorem dX12_soldMany_0 : decode cX12_soldMany 0 = .ok (.iconst 0, 1) := by decide +kernel
theorem dX12_soldMany_1 : decode cX12_soldMany 1 = .ok (.istore_n 1, 1) := by decide +kernel
theorem dX12_soldMany_2 : decode cX12_soldMany 2 = .ok (.iconst 0, 1) := by decide +kernel
theorem dX12_soldMany_3 : decode cX12_soldMany 3 = .ok (.istore_n 2, 1) := by decide +kernel
theorem dX12_soldMany_4 : decode cX12_soldMany 4 = .ok (.iload_n 2, 1) := by decide +kernel
theorem dX12_soldMany_5 : decode cX12_soldMany 5 = .ok (.aload_n 0, 1) := by decide +kernel
theorem dX12_soldMany_6 : decode cX12_soldMany 6 = .ok (.getfield 171, 3) := by decide +kernel
theorem dX12_soldMany_9 : decode cX12_soldMany 9 = .ok (.if_icmp .ge 26, 3) := by decide +kernel
theorem dX12_soldMany_12 : decode cX12_soldMany 12 = .ok (.iload_n 1, 1) := by decide +kernel
theorem dX12_soldMany_13 : decode cX12_soldMany 13 = .ok (.aload_n 0, 1) := by decide +kernel
theorem dX12_soldMany_14 : decode cX12_soldMany 14 = .ok (.getfield 100, 3) := by decide +kernel
theorem dX12_soldMany_17 : decode cX12_soldMany 17 = .ok (.iload_n 2, 1) := by decide +kernel
theorem dX12_soldMany_18 : decode cX12_soldMany 18 = .ok (.iaload, 1) := by decide +kernel
theorem dX12_soldMany_19 : decode cX12_soldMany 19 = .ok (.ifCond .lt 7, 3) := by decide +kernel
theorem dX12_soldMany_22 : decode cX12_soldMany 22 = .ok (.iconst 1, 1) := by decide +kernel
theorem dX12_soldMany_23 : decode cX12_soldMany 23 = .ok (.goto 4, 3) := by decide +kernel
theorem dX12_soldMany_26 : decode cX12_soldMany 26 = .ok (.iconst 0, 1) := by decide +kernel
theorem dX12_soldMany_27 : decode cX12_soldMany 27 = .ok (.iadd, 1) := by decide +kernel
theorem dX12_soldMany_28 : decode cX12_soldMany 28 = .ok (.istore_n 1, 1) := by decide +kernel
theorem dX12_soldMany_29 : decode cX12_soldMany 29 = .ok (.iinc 2 1, 3) := by decide +kernel
theorem dX12_soldMany_32 : decode cX12_soldMany 32 = .ok (.goto (-28), 3) := by decide +kernel
theorem dX12_soldMany_35 : decode cX12_soldMany 35 = .ok (.iload_n 1, 1) := by decide +kernel
theorem dX12_soldMany_36 : decode cX12_soldMany 36 = .ok (.ireturn, 1) := by decide +kernel
theorem dX12_paidInAll_0 : decode cX12_paidInAll 0 = .ok (.iconst 0, 1) := by decide +kernel
theorem dX12_paidInAll_1 : decode cX12_paidInAll 1 = .ok (.istore_n 1, 1) := by decide +kernel
theorem dX12_paidInAll_2 : decode cX12_paidInAll 2 = .ok (.iconst 0, 1) := by decide +kernel
theorem dX12_paidInAll_3 : decode cX12_paidInAll 3 = .ok (.istore_n 2, 1) := by decide +kernel
theorem dX12_paidInAll_4 : decode cX12_paidInAll 4 = .ok (.iload_n 2, 1) := by decide +kernel
theorem dX12_paidInAll_5 : decode cX12_paidInAll 5 = .ok (.aload_n 0, 1) := by decide +kernel
theorem dX12_paidInAll_6 : decode cX12_paidInAll 6 = .ok (.getfield 171, 3) := by decide +kernel
theorem dX12_paidInAll_9 : decode cX12_paidInAll 9 = .ok (.if_icmp .ge 18, 3) := by decide +kernel
theorem dX12_paidInAll_12 : decode cX12_paidInAll 12 = .ok (.iload_n 1, 1) := by decide +kernel
theorem dX12_paidInAll_13 : decode cX12_paidInAll 13 = .ok (.aload_n 0, 1) := by decide +kernel
theorem dX12_paidInAll_14 : decode cX12_paidInAll 14 = .ok (.getfield 103, 3) := by decide +kernel
theorem dX12_paidInAll_17 : decode cX12_paidInAll 17 = .ok (.iload_n 2, 1) := by decide +kernel
theorem dX12_paidInAll_18 : decode cX12_paidInAll 18 = .ok (.iaload, 1) := by decide +kernel
theorem dX12_paidInAll_19 : decode cX12_paidInAll 19 = .ok (.iadd, 1) := by decide +kernel
theorem dX12_paidInAll_20 : decode cX12_paidInAll 20 = .ok (.istore_n 1, 1) := by decide +kernel
theorem dX12_paidInAll_21 : decode cX12_paidInAll 21 = .ok (.iinc 2 1, 3) := by decide +kernel
theorem dX12_paidInAll_24 : decode cX12_paidInAll 24 = .ok (.goto (-20), 3) := by decide +kernel
theorem dX12_paidInAll_27 : decode cX12_paidInAll 27 = .ok (.iload_n 1, 1) := by decide +kernel
theorem dX12_paidInAll_28 : decode cX12_paidInAll 28 = .ok (.ireturn, 1) := by decide +kernel
theorem dX12_regretMany_0 : decode cX12_regretMany 0 = .ok (.iconst 0, 1) := by decide +kernel
theorem dX12_regretMany_1 : decode cX12_regretMany 1 = .ok (.istore_n 1, 1) := by decide +kernel
theorem dX12_regretMany_2 : decode cX12_regretMany 2 = .ok (.iconst 0, 1) := by decide +kernel
theorem dX12_regretMany_3 : decode cX12_regretMany 3 = .ok (.istore_n 2, 1) := by decide +kernel
theorem dX12_regretMany_4 : decode cX12_regretMany 4 = .ok (.iload_n 2, 1) := by decide +kernel
theorem dX12_regretMany_5 : decode cX12_regretMany 5 = .ok (.aload_n 0, 1) := by decide +kernel
theorem dX12_regretMany_6 : decode cX12_regretMany 6 = .ok (.getfield 171, 3) := by decide +kernel
theorem dX12_regretMany_9 : decode cX12_regretMany 9 = .ok (.if_icmp .ge 26, 3) := by decide +kernel
theorem dX12_regretMany_12 : decode cX12_regretMany 12 = .ok (.iload_n 1, 1) := by decide +kernel
theorem dX12_regretMany_13 : decode cX12_regretMany 13 = .ok (.aload_n 0, 1) := by decide +kernel
theorem dX12_regretMany_14 : decode cX12_regretMany 14 = .ok (.getfield 109, 3) := by decide +kernel
theorem dX12_regretMany_17 : decode cX12_regretMany 17 = .ok (.iload_n 2, 1) := by decide +kernel
theorem dX12_regretMany_18 : decode cX12_regretMany 18 = .ok (.baload, 1) := by decide +kernel
theorem dX12_regretMany_19 : decode cX12_regretMany 19 = .ok (.ifCond .eq 7, 3) := by decide +kernel
theorem dX12_regretMany_22 : decode cX12_regretMany 22 = .ok (.iconst 1, 1) := by decide +kernel
theorem dX12_regretMany_23 : decode cX12_regretMany 23 = .ok (.goto 4, 3) := by decide +kernel
theorem dX12_regretMany_26 : decode cX12_regretMany 26 = .ok (.iconst 0, 1) := by decide +kernel
theorem dX12_regretMany_27 : decode cX12_regretMany 27 = .ok (.iadd, 1) := by decide +kernel
theorem dX12_regretMany_28 : decode cX12_regretMany 28 = .ok (.istore_n 1, 1) := by decide +kernel
theorem dX12_regretMany_29 : decode cX12_regretMany 29 = .ok (.iinc 2 1, 3) := by decide +kernel
theorem dX12_regretMany_32 : decode cX12_regretMany 32 = .ok (.goto (-28), 3) := by decide +kernel
theorem dX12_regretMany_35 : decode cX12_regretMany 35 = .ok (.iload_n 1, 1) := by decide +kernel
theorem dX12_regretMany_36 : decode cX12_regretMany 36 = .ok (.ireturn, 1) := by decide +kernel
theorem dX12_sums_0 : decode cX12_sums 0 = .ok (.aload_n 0, 1) := by decide +kernel
theorem dX12_sums_1 : decode cX12_sums 1 = .ok (.iconst 0, 1) := by decide +kernel
theorem dX12_sums_2 : decode cX12_sums 2 = .ok (.putfield 160, 3) := by decide +kernel
theorem dX12_sums_5 : decode cX12_sums 5 = .ok (.aload_n 0, 1) := by decide +kernel
theorem dX12_sums_6 : decode cX12_sums 6 = .ok (.invokevirtual 362, 3) := by decide +kernel
theorem dX12_sums_9 : decode cX12_sums 9 = .ok (.iload_n 1, 1) := by decide +kernel
theorem dX12_sums_10 : decode cX12_sums 10 = .ok (.tableswitch 71 0 5 #[38, 44, 50, 56, 61, 66], 38) := by decide +kernel
theorem dX12_sums_48 : decode cX12_sums 48 = .ok (.aload_n 0, 1) := by decide +kernel
theorem dX12_sums_49 : decode cX12_sums 49 = .ok (.iconst 1, 1) := by decide +kernel
theorem dX12_sums_50 : decode cX12_sums 50 = .ok (.invokevirtual 368, 3) := by decide +kernel
theorem dX12_sums_53 : decode cX12_sums 53 = .ok (.ireturn, 1) := by decide +kernel
theorem dX12_sums_54 : decode cX12_sums 54 = .ok (.aload_n 0, 1) := by decide +kernel
theorem dX12_sums_55 : decode cX12_sums 55 = .ok (.iconst (-1), 1) := by decide +kernel
theorem dX12_sums_56 : decode cX12_sums 56 = .ok (.invokevirtual 368, 3) := by decide +kernel
theorem dX12_sums_59 : decode cX12_sums 59 = .ok (.ireturn, 1) := by decide +kernel
theorem dX12_sums_60 : decode cX12_sums 60 = .ok (.aload_n 0, 1) := by decide +kernel
theorem dX12_sums_61 : decode cX12_sums 61 = .ok (.iconst 0, 1) := by decide +kernel
theorem dX12_sums_62 : decode cX12_sums 62 = .ok (.invokevirtual 368, 3) := by decide +kernel
theorem dX12_sums_65 : decode cX12_sums 65 = .ok (.ireturn, 1) := by decide +kernel
theorem dX12_sums_66 : decode cX12_sums 66 = .ok (.aload_n 0, 1) := by decide +kernel
theorem dX12_sums_67 : decode cX12_sums 67 = .ok (.invokevirtual 371, 3) := by decide +kernel
theorem dX12_sums_70 : decode cX12_sums 70 = .ok (.ireturn, 1) := by decide +kernel
theorem dX12_sums_71 : decode cX12_sums 71 = .ok (.aload_n 0, 1) := by decide +kernel
theorem dX12_sums_72 : decode cX12_sums 72 = .ok (.invokevirtual 374, 3) := by decide +kernel
theorem dX12_sums_75 : decode cX12_sums 75 = .ok (.ireturn, 1) := by decide +kernel
theorem dX12_sums_76 : decode cX12_sums 76 = .ok (.aload_n 0, 1) := by decide +kernel
theorem dX12_sums_77 : decode cX12_sums 77 = .ok (.invokevirtual 377, 3) := by decide +kernel
theorem dX12_sums_80 : decode cX12_sums 80 = .ok (.ireturn, 1) := by decide +kernel
theorem dX12_sums_81 : decode cX12_sums 81 = .ok (.iconst (-1), 1) := by decide +kernel
theorem dX12_sums_82 : decode cX12_sums 82 = .ok (.ireturn, 1) := by decide +kernel
theorem dX12_market_0 : decode cX12_market 0 = .ok (.aload_n 0, 1) := by decide +kernel
theorem dX12_market_1 : decode cX12_market 1 = .ok (.iconst 0, 1) := by decide +kernel
theorem dX12_market_2 : decode cX12_market 2 = .ok (.putfield 160, 3) := by decide +kernel
theorem dX12_market_5 : decode cX12_market 5 = .ok (.iload_n 1, 1) := by decide +kernel
theorem dX12_market_6 : decode cX12_market 6 = .ok (.invokestatic 297, 3) := by decide +kernel
theorem dX12_market_9 : decode cX12_market 9 = .ok (.ifCond .ne 5, 3) := by decide +kernel
theorem dX12_market_12 : decode cX12_market 12 = .ok (.iconst (-1), 1) := by decide +kernel
theorem dX12_market_13 : decode cX12_market 13 = .ok (.ireturn, 1) := by decide +kernel
theorem dX12_market_14 : decode cX12_market 14 = .ok (.aload_n 0, 1) := by decide +kernel
theorem dX12_market_15 : decode cX12_market 15 = .ok (.invokevirtual 362, 3) := by decide +kernel
theorem dX12_market_18 : decode cX12_market 18 = .ok (.iconst 0, 1) := by decide +kernel
theorem dX12_market_19 : decode cX12_market 19 = .ok (.istore_n 2, 1) := by decide +kernel
theorem dX12_market_20 : decode cX12_market 20 = .ok (.iconst 0, 1) := by decide +kernel
theorem dX12_market_21 : decode cX12_market 21 = .ok (.istore_n 3, 1) := by decide +kernel
theorem dX12_market_22 : decode cX12_market 22 = .ok (.iload_n 3, 1) := by decide +kernel
theorem dX12_market_23 : decode cX12_market 23 = .ok (.bipush 11, 2) := by decide +kernel
theorem dX12_market_25 : decode cX12_market 25 = .ok (.if_icmp .ge 59, 3) := by decide +kernel
theorem dX12_market_28 : decode cX12_market 28 = .ok (.aload_n 0, 1) := by decide +kernel
theorem dX12_market_29 : decode cX12_market 29 = .ok (.iload_n 3, 1) := by decide +kernel
theorem dX12_market_30 : decode cX12_market 30 = .ok (.iload_n 1, 1) := by decide +kernel
theorem dX12_market_31 : decode cX12_market 31 = .ok (.invokevirtual 214, 3) := by decide +kernel
theorem dX12_market_34 : decode cX12_market 34 = .ok (.ifCond .eq 26, 3) := by decide +kernel
theorem dX12_market_37 : decode cX12_market 37 = .ok (.aload_n 0, 1) := by decide +kernel
theorem dX12_market_38 : decode cX12_market 38 = .ok (.getfield 124, 3) := by decide +kernel
theorem dX12_market_41 : decode cX12_market 41 = .ok (.iload_n 3, 1) := by decide +kernel
theorem dX12_market_42 : decode cX12_market 42 = .ok (.iaload, 1) := by decide +kernel
theorem dX12_market_43 : decode cX12_market 43 = .ok (.iload_n 1, 1) := by decide +kernel
theorem dX12_market_44 : decode cX12_market 44 = .ok (.if_icmp .le 16, 3) := by decide +kernel
theorem dX12_market_47 : decode cX12_market 47 = .ok (.aload_n 0, 1) := by decide +kernel
theorem dX12_market_48 : decode cX12_market 48 = .ok (.iload_n 3, 1) := by decide +kernel
theorem dX12_market_49 : decode cX12_market 49 = .ok (.iload_n 1, 1) := by decide +kernel
theorem dX12_market_50 : decode cX12_market 50 = .ok (.invokevirtual 204, 3) := by decide +kernel
theorem dX12_market_53 : decode cX12_market 53 = .ok (.ifCond .le 7, 3) := by decide +kernel
theorem dX12_market_56 : decode cX12_market 56 = .ok (.iconst 1, 1) := by decide +kernel
theorem dX12_market_57 : decode cX12_market 57 = .ok (.goto 4, 3) := by decide +kernel
theorem dX12_market_60 : decode cX12_market 60 = .ok (.iconst 0, 1) := by decide +kernel
theorem dX12_market_61 : decode cX12_market 61 = .ok (.istore 4, 2) := by decide +kernel
theorem dX12_market_63 : decode cX12_market 63 = .ok (.iload_n 2, 1) := by decide +kernel
theorem dX12_market_64 : decode cX12_market 64 = .ok (.iload 4, 2) := by decide +kernel
theorem dX12_market_66 : decode cX12_market 66 = .ok (.ifCond .eq 9, 3) := by decide +kernel
theorem dX12_market_69 : decode cX12_market 69 = .ok (.iconst 1, 1) := by decide +kernel
theorem dX12_market_70 : decode cX12_market 70 = .ok (.iload_n 3, 1) := by decide +kernel
theorem dX12_market_71 : decode cX12_market 71 = .ok (.ishl, 1) := by decide +kernel
theorem dX12_market_72 : decode cX12_market 72 = .ok (.goto 4, 3) := by decide +kernel
theorem dX12_market_75 : decode cX12_market 75 = .ok (.iconst 0, 1) := by decide +kernel
theorem dX12_market_76 : decode cX12_market 76 = .ok (.ior, 1) := by decide +kernel
theorem dX12_market_77 : decode cX12_market 77 = .ok (.istore_n 2, 1) := by decide +kernel
theorem dX12_market_78 : decode cX12_market 78 = .ok (.iinc 3 1, 3) := by decide +kernel
theorem dX12_market_81 : decode cX12_market 81 = .ok (.goto (-59), 3) := by decide +kernel
theorem dX12_market_84 : decode cX12_market 84 = .ok (.iload_n 2, 1) := by decide +kernel
theorem dX12_market_85 : decode cX12_market 85 = .ok (.ireturn, 1) := by decide +kernel
theorem dX12_chainOf_0 : decode cX12_chainOf 0 = .ok (.iconst 0, 1) := by decide +kernel
theorem dX12_chainOf_1 : decode cX12_chainOf 1 = .ok (.istore_n 2, 1) := by decide +kernel
theorem dX12_chainOf_2 : decode cX12_chainOf 2 = .ok (.iload_n 1, 1) := by decide +kernel
theorem dX12_chainOf_3 : decode cX12_chainOf 3 = .ok (.istore_n 3, 1) := by decide +kernel
theorem dX12_chainOf_4 : decode cX12_chainOf 4 = .ok (.iload_n 3, 1) := by decide +kernel
theorem dX12_chainOf_5 : decode cX12_chainOf 5 = .ok (.bipush 8, 2) := by decide +kernel
theorem dX12_chainOf_7 : decode cX12_chainOf 7 = .ok (.if_icmp .ge 25, 3) := by decide +kernel
theorem dX12_chainOf_10 : decode cX12_chainOf 10 = .ok (.aload_n 0, 1) := by decide +kernel
theorem dX12_chainOf_11 : decode cX12_chainOf 11 = .ok (.getfield 100, 3) := by decide +kernel
theorem dX12_chainOf_14 : decode cX12_chainOf 14 = .ok (.iload_n 3, 1) := by decide +kernel
theorem dX12_chainOf_15 : decode cX12_chainOf 15 = .ok (.iaload, 1) := by decide +kernel
theorem dX12_chainOf_16 : decode cX12_chainOf 16 = .ok (.ifCond .lt 16, 3) := by decide +kernel
theorem dX12_chainOf_19 : decode cX12_chainOf 19 = .ok (.iinc 2 1, 3) := by decide +kernel
theorem dX12_chainOf_22 : decode cX12_chainOf 22 = .ok (.aload_n 0, 1) := by decide +kernel
theorem dX12_chainOf_23 : decode cX12_chainOf 23 = .ok (.getfield 100, 3) := by decide +kernel
theorem dX12_chainOf_26 : decode cX12_chainOf 26 = .ok (.iload_n 3, 1) := by decide +kernel
theorem dX12_chainOf_27 : decode cX12_chainOf 27 = .ok (.iaload, 1) := by decide +kernel
theorem dX12_chainOf_28 : decode cX12_chainOf 28 = .ok (.istore_n 3, 1) := by decide +kernel
theorem dX12_chainOf_29 : decode cX12_chainOf 29 = .ok (.goto (-25), 3) := by decide +kernel
theorem dX12_chainOf_32 : decode cX12_chainOf 32 = .ok (.iload_n 2, 1) := by decide +kernel
theorem dX12_chainOf_33 : decode cX12_chainOf 33 = .ok (.ireturn, 1) := by decide +kernel
theorem dX12_chain_0 : decode cX12_chain 0 = .ok (.aload_n 0, 1) := by decide +kernel
theorem dX12_chain_1 : decode cX12_chain 1 = .ok (.iconst 0, 1) := by decide +kernel
theorem dX12_chain_2 : decode cX12_chain 2 = .ok (.putfield 160, 3) := by decide +kernel
theorem dX12_chain_5 : decode cX12_chain 5 = .ok (.aload_n 0, 1) := by decide +kernel
theorem dX12_chain_6 : decode cX12_chain 6 = .ok (.iload_n 1, 1) := by decide +kernel
theorem dX12_chain_7 : decode cX12_chain 7 = .ok (.invokevirtual 337, 3) := by decide +kernel
theorem dX12_chain_10 : decode cX12_chain 10 = .ok (.ifCond .ne 5, 3) := by decide +kernel
theorem dX12_chain_13 : decode cX12_chain 13 = .ok (.iconst (-1), 1) := by decide +kernel
theorem dX12_chain_14 : decode cX12_chain 14 = .ok (.ireturn, 1) := by decide +kernel
theorem dX12_chain_15 : decode cX12_chain 15 = .ok (.aload_n 0, 1) := by decide +kernel
theorem dX12_chain_16 : decode cX12_chain 16 = .ok (.invokevirtual 362, 3) := by decide +kernel
theorem dX12_chain_19 : decode cX12_chain 19 = .ok (.aload_n 0, 1) := by decide +kernel
theorem dX12_chain_20 : decode cX12_chain 20 = .ok (.iload_n 1, 1) := by decide +kernel
theorem dX12_chain_21 : decode cX12_chain 21 = .ok (.invokevirtual 380, 3) := by decide +kernel
theorem dX12_chain_24 : decode cX12_chain 24 = .ok (.ireturn, 1) := by decide +kernel
theorem dX12_longest_0 : decode cX12_longest 0 = .ok (.aload_n 0, 1) := by decide +kernel
theorem dX12_longest_1 : decode cX12_longest 1 = .ok (.iconst 0, 1) := by decide +kernel
theorem dX12_longest_2 : decode cX12_longest 2 = .ok (.putfield 160, 3) := by decide +kernel
theorem dX12_longest_5 : decode cX12_longest 5 = .ok (.aload_n 0, 1) := by decide +kernel
theorem dX12_longest_6 : decode cX12_longest 6 = .ok (.invokevirtual 362, 3) := by decide +kernel
theorem dX12_longest_9 : decode cX12_longest 9 = .ok (.iconst 0, 1) := by decide +kernel
theorem dX12_longest_10 : decode cX12_longest 10 = .ok (.istore_n 1, 1) := by decide +kernel
theorem dX12_longest_11 : decode cX12_longest 11 = .ok (.iconst 0, 1) := by decide +kernel
theorem dX12_longest_12 : decode cX12_longest 12 = .ok (.istore_n 2, 1) := by decide +kernel
theorem dX12_longest_13 : decode cX12_longest 13 = .ok (.iload_n 2, 1) := by decide +kernel
theorem dX12_longest_14 : decode cX12_longest 14 = .ok (.aload_n 0, 1) := by decide +kernel
theorem dX12_longest_15 : decode cX12_longest 15 = .ok (.getfield 171, 3) := by decide +kernel
theorem dX12_longest_18 : decode cX12_longest 18 = .ok (.if_icmp .ge 28, 3) := by decide +kernel
theorem dX12_longest_21 : decode cX12_longest 21 = .ok (.aload_n 0, 1) := by decide +kernel
theorem dX12_longest_22 : decode cX12_longest 22 = .ok (.iload_n 2, 1) := by decide +kernel
theorem dX12_longest_23 : decode cX12_longest 23 = .ok (.invokevirtual 380, 3) := by decide +kernel
theorem dX12_longest_26 : decode cX12_longest 26 = .ok (.iload_n 1, 1) := by decide +kernel
theorem dX12_longest_27 : decode cX12_longest 27 = .ok (.if_icmp .le 11, 3) := by decide +kernel
theorem dX12_longest_30 : decode cX12_longest 30 = .ok (.aload_n 0, 1) := by decide +kernel
theorem dX12_longest_31 : decode cX12_longest 31 = .ok (.iload_n 2, 1) := by decide +kernel
theorem dX12_longest_32 : decode cX12_longest 32 = .ok (.invokevirtual 380, 3) := by decide +kernel
theorem dX12_longest_35 : decode cX12_longest 35 = .ok (.goto 4, 3) := by decide +kernel
theorem dX12_longest_38 : decode cX12_longest 38 = .ok (.iload_n 1, 1) := by decide +kernel
theorem dX12_longest_39 : decode cX12_longest 39 = .ok (.istore_n 1, 1) := by decide +kernel
theorem dX12_longest_40 : decode cX12_longest 40 = .ok (.iinc 2 1, 3) := by decide +kernel
theorem dX12_longest_43 : decode cX12_longest 43 = .ok (.goto (-30), 3) := by decide +kernel
theorem dX12_longest_46 : decode cX12_longest 46 = .ok (.iload_n 1, 1) := by decide +kernel
theorem dX12_longest_47 : decode cX12_longest 47 = .ok (.ireturn, 1) := by decide +kernel
theorem dX12_choiceOf_0 : decode cX12_choiceOf 0 = .ok (.aload_n 0, 1) := by decide +kernel
theorem dX12_choiceOf_1 : decode cX12_choiceOf 1 = .ok (.invokevirtual 362, 3) := by decide +kernel
theorem dX12_choiceOf_4 : decode cX12_choiceOf 4 = .ok (.aload_n 0, 1) := by decide +kernel
theorem dX12_choiceOf_5 : decode cX12_choiceOf 5 = .ok (.getfield 94, 3) := by decide +kernel
theorem dX12_choiceOf_8 : decode cX12_choiceOf 8 = .ok (.iload_n 1, 1) := by decide +kernel
theorem dX12_choiceOf_9 : decode cX12_choiceOf 9 = .ok (.iaload, 1) := by decide +kernel
theorem dX12_choiceOf_10 : decode cX12_choiceOf 10 = .ok (.ireturn, 1) := by decide +kernel
def b_X12_set_121 (v1 : Int32) (v2 : Int32) (v4 : Int32) (s0 : Int32) (S : St) : Option (Int32 × St) := nm (si S 136 7 s0) fun S1 => (if (v1 : Int32) = 2 then nm (si S1 136 8 v2) fun S4 => some (v4, S4) else nm (si S1 136 8 (gi S1 136 8)) fun S3 => some (v4, S3))
def b_X12_set_104 (v1 : Int32) (v2 : Int32) (v4 : Int32) (s0 : Int32) (S : St) : Option (Int32 × St) := nm (si S 136 6 s0) fun S1 => (if (v1 : Int32) = 1 then (b_X12_set_121 v1 v2 v4 v2 S1) else (b_X12_set_121 v1 v2 v4 (gi S1 136 7) S1))
def b_X12_set_89 (v1 : Int32) (v2 : Int32) (s0 : Int32) (S : St) : Option (Int32 × St) := (if (v1 : Int32) = 0 then (b_X12_set_104 v1 v2 s0 v2 S) else (b_X12_set_104 v1 v2 s0 (gi S 136 6) S))
def b_X12_set_55 (v1 : Int32) (v2 : Int32) (s0 : Int32) (S : St) : Option (Int32 × St) := (if (s0 : Int32) = 0 then some ((-1), S) else (if (v1 : Int32) = 0 then (b_X12_set_89 v1 v2 (gi S 136 6) S) else (if (v1 : Int32) = 1 then (b_X12_set_89 v1 v2 (gi S 136 7) S) else (b_X12_set_89 v1 v2 (gi S 136 8) S))))
def b_X12_set_54 (v1 : Int32) (v2 : Int32) (S : St) : Option (Int32 × St) := (b_X12_set_55 v1 v2 0 S)
def b_X12_set_0 (v1 : Int32) (v2 : Int32) (S : St) : Option (Int32 × St) := nm (si S 136 28 0) fun S1 => (if (v1 : Int32) = 0 then (L_X12_isHour v2 S1).bind fun r8 => (b_X12_set_55 v1 v2 r8 S1) else (if (v1 : Int32) = 1 then (L_X12_in v2.toInt64 0 9 S1).bind fun r7 => (b_X12_set_55 v1 v2 r7 S1) else (if (v1 : Int32) = 2 then (L_X12_in v2.toInt64 1 9 S1).bind fun r5 => (if (r5 : Int32) = 0 then (b_X12_set_54 v1 v2 S1) else (b_X12_set_55 v1 v2 1 S1)) else (b_X12_set_54 v1 v2 S1))))
def L_X12_set (a1 : Int32) (a2 : Int32) (S : St) : Option (Int32 × St) := b_X12_set_0 a1 a2 S
def b_X12_fate_0 (v1 : Int32) (v2 : Int32) (S : St) : Option (Int32 × St) := nm (si S 136 28 0) fun S1 => (L_X12_isOne v1 S1).bind fun r2 => (if (r2 : Int32) = 0 then some ((-1), S1) else (L_X12_in v2.toInt64 0 8 S1).bind fun r4 => (if (r4 : Int32) = 0 then some ((-1), S1) else (L_X12_day S1).bind fun r6 => (if (v2 : Int32) = 0 then gd (inb v1 8) ((L_X12_told (gi r6 160 v1.toNatClampNeg) r6).bind fun r9 => some (r9, r6)) else if (v2 : Int32) = 1 then gd (inb v1 8) ((L_X12_strengthOf v1 (gi r6 161 v1.toNatClampNeg) r6).bind fun r12 => some (r12, r6)) else if (v2 : Int32) = 2 then gd (inb v1 8) ((if (0 : Int32) ≤ (gi r6 162 v1.toNatClampNeg) then gd (inb v1 8) (some (gi r6 162 v1.toNatClampNeg, r6)) else some ((-4), r6))) else if (v2 : Int32) = 3 then gd (inb v1 8) ((if (0 : Int32) ≤ (gi r6 162 v1.toNatClampNeg) then gd (inb v1 8) (some (gi r6 163 v1.toNatClampNeg, r6)) else some ((-4), r6))) else if (v2 : Int32) = 4 then gd (inb v1 8) (some (gi r6 164 v1.toNatClampNeg, r6)) else if (v2 : Int32) = 5 then gd (inb v1 8) ((if (gi r6 165 v1.toNatClampNeg : Int32) = 0 then some (0, r6) else some (1, r6))) else if (v2 : Int32) = 6 then gd (inb v1 11) ((if (0 : Int32) ≤ (gi r6 166 v1.toNatClampNeg) then gd (inb v1 11) (some (gi r6 166 v1.toNatClampNeg, r6)) else some ((-4), r6))) else if (v2 : Int32) = 7 then gd (inb v1 11) ((if (0 : Int32) ≤ (gi r6 166 v1.toNatClampNeg) then gd (inb v1 11) (some (gi r6 167 v1.toNatClampNeg, r6)) else some ((-4), r6))) else gd (inb v1 11) ((if (0 : Int32) ≤ (gi r6 169 v1.toNatClampNeg) then gd (inb v1 11) (some (gi r6 169 v1.toNatClampNeg, r6)) else some ((-4), r6))))))
def L_X12_fate (a1 : Int32) (a2 : Int32) (S : St) : Option (Int32 × St) := b_X12_fate_0 a1 a2 S
def b_X12_sum_0 (v1 : Int32) (S : St) : Option (Int32 × St) := nm (si S 136 28 0) fun S1 => (L_X12_isOne v1 S1).bind fun r2 => (if (r2 : Int32) = 0 then some ((-1000000001), S1) else (L_X12_day S1).bind fun r4 => gd (inb v1 8) (some (gi r4 161 v1.toNatClampNeg, r4)))
def L_X12_sum (a1 : Int32) (S : St) : Option (Int32 × St) := b_X12_sum_0 a1 S
def b_X12_chose_28 (v1 : Int32) (v3 : Int32) (s0 : Int32) (s1 : Int32) (S : St) : Option ((Int32 × Int32 × Int32) ⊕ Int32) := some (.inl (v1, (s1 + s0), (v3 + 1)))
def b_X12_chose_4 (v1 : Int32) (v2 : Int32) (v3 : Int32) (S : St) : Option ((Int32 × Int32 × Int32) ⊕ Int32) := (if (gi S 136 15 : Int32) ≤ v3 then some (.inr v2) else gd (inb v3 8) ((if (gi S 160 v3.toNatClampNeg : Int32) = v1 then (b_X12_chose_28 v1 v3 1 v2 S) else (b_X12_chose_28 v1 v3 0 v2 S))))
def l_X12_chose_4 (S : St) (x : (Int32 × Int32 × Int32)) : Option ((Int32 × Int32 × Int32) ⊕ Int32) := b_X12_chose_4 x.1 x.2.1 x.2.2 S
def b_X12_chose_0 (v1 : Int32) (S : St) : Option Int32 := (lp 1000 (l_X12_chose_4 S) (v1, 0, 0))
def L_X12_chose (a1 : Int32) (S : St) : Option Int32 := b_X12_chose_0 a1 S
def b_X12_soldMany_27 (v2 : Int32) (s0 : Int32) (s1 : Int32) (S : St) : Option ((Int32 × Int32) ⊕ Int32) := some (.inl ((s1 + s0), (v2 + 1)))
def b_X12_soldMany_4 (v1 : Int32) (v2 : Int32) (S : St) : Option ((Int32 × Int32) ⊕ Int32) := (if (gi S 136 15 : Int32) ≤ v2 then some (.inr v1) else gd (inb v2 8) ((if (gi S 162 v2.toNatClampNeg : Int32) < 0 then (b_X12_soldMany_27 v2 0 v1 S) else (b_X12_soldMany_27 v2 1 v1 S))))
def l_X12_soldMany_4 (S : St) (x : (Int32 × Int32)) : Option ((Int32 × Int32) ⊕ Int32) := b_X12_soldMany_4 x.1 x.2 S
def b_X12_soldMany_0 (S : St) : Option Int32 := (lp 1000 (l_X12_soldMany_4 S) (0, 0))
def L_X12_soldMany (S : St) : Option Int32 := b_X12_soldMany_0 S
def b_X12_paidInAll_4 (v1 : Int32) (v2 : Int32) (S : St) : Option ((Int32 × Int32) ⊕ Int32) := (if (gi S 136 15 : Int32) ≤ v2 then some (.inr v1) else gd (inb v2 8) (some (.inl ((v1 + (gi S 163 v2.toNatClampNeg)), (v2 + 1)))))
def l_X12_paidInAll_4 (S : St) (x : (Int32 × Int32)) : Option ((Int32 × Int32) ⊕ Int32) := b_X12_paidInAll_4 x.1 x.2 S
def b_X12_paidInAll_0 (S : St) : Option Int32 := (lp 1000 (l_X12_paidInAll_4 S) (0, 0))
def L_X12_paidInAll (S : St) : Option Int32 := b_X12_paidInAll_0 S
def b_X12_regretMany_27 (v2 : Int32) (s0 : Int32) (s1 : Int32) (S : St) : Option ((Int32 × Int32) ⊕ Int32) := some (.inl ((s1 + s0), (v2 + 1)))
def b_X12_regretMany_4 (v1 : Int32) (v2 : Int32) (S : St) : Option ((Int32 × Int32) ⊕ Int32) := (if (gi S 136 15 : Int32) ≤ v2 then some (.inr v1) else gd (inb v2 8) ((if (gi S 165 v2.toNatClampNeg : Int32) = 0 then (b_X12_regretMany_27 v2 0 v1 S) else (b_X12_regretMany_27 v2 1 v1 S))))
def l_X12_regretMany_4 (S : St) (x : (Int32 × Int32)) : Option ((Int32 × Int32) ⊕ Int32) := b_X12_regretMany_4 x.1 x.2 S
def b_X12_regretMany_0 (S : St) : Option Int32 := (lp 1000 (l_X12_regretMany_4 S) (0, 0))
def L_X12_regretMany (S : St) : Option Int32 := b_X12_regretMany_0 S
def b_X12_sums_0 (v1 : Int32) (S : St) : Option (Int32 × St) := nm (si S 136 28 0) fun S1 => (L_X12_day S1).bind fun r2 => (if (v1 : Int32) = 0 then (L_X12_chose 1 r2).bind fun r4 => some (r4, r2) else if (v1 : Int32) = 1 then (L_X12_chose ((-1)) r2).bind fun r6 => some (r6, r2) else if (v1 : Int32) = 2 then (L_X12_chose 0 r2).bind fun r8 => some (r8, r2) else if (v1 : Int32) = 3 then (L_X12_soldMany r2).bind fun r10 => some (r10, r2) else if (v1 : Int32) = 4 then (L_X12_paidInAll r2).bind fun r12 => some (r12, r2) else if (v1 : Int32) = 5 then (L_X12_regretMany r2).bind fun r14 => some (r14, r2) else some ((-1), r2))
def L_X12_sums (a1 : Int32) (S : St) : Option (Int32 × St) := b_X12_sums_0 a1 S
def b_X12_market_76 (v1 : Int32) (v3 : Int32) (s0 : Int32) (s1 : Int32) (S : St) : Option ((Int32 × Int32 × Int32 × St) ⊕ (Int32 × St)) := some (.inl (v1, (s1 ||| s0), (v3 + 1), S))
def b_X12_market_61 (v1 : Int32) (v2 : Int32) (v3 : Int32) (s0 : Int32) (S : St) : Option ((Int32 × Int32 × Int32 × St) ⊕ (Int32 × St)) := (if (s0 : Int32) = 0 then (b_X12_market_76 v1 v3 0 v2 S) else (b_X12_market_76 v1 v3 ((1 : Int32) <<< (v3 &&& 31)) v2 S))
def b_X12_market_60 (v1 : Int32) (v2 : Int32) (v3 : Int32) (S : St) : Option ((Int32 × Int32 × Int32 × St) ⊕ (Int32 × St)) := (b_X12_market_61 v1 v2 v3 0 S)
def b_X12_market_22 (v1 : Int32) (v2 : Int32) (v3 : Int32) (S : St) : Option ((Int32 × Int32 × Int32 × St) ⊕ (Int32 × St)) := (if (11 : Int32) ≤ v3 then some (.inr (v2, S)) else (L_X12_isThere v3 v1 S).bind fun r2 => (if (r2 : Int32) = 0 then (b_X12_market_60 v1 v2 v3 S) else gd (inb v3 11) ((if (gi S 170 v3.toNatClampNeg : Int32) ≤ v1 then (b_X12_market_60 v1 v2 v3 S) else (L_X12_leftOf v3 v1 S).bind fun r6 => (if (r6 : Int32) ≤ 0 then (b_X12_market_60 v1 v2 v3 S) else (b_X12_market_61 v1 v2 v3 1 S))))))
def l_X12_market_22 (x : (Int32 × Int32 × Int32 × St)) : Option ((Int32 × Int32 × Int32 × St) ⊕ (Int32 × St)) := b_X12_market_22 x.1 x.2.1 x.2.2.1 x.2.2.2
def b_X12_market_0 (v1 : Int32) (S : St) : Option (Int32 × St) := nm (si S 136 28 0) fun S1 => (L_X12_isHour v1 S1).bind fun r2 => (if (r2 : Int32) = 0 then some ((-1), S1) else (L_X12_day S1).bind fun r4 => (lp 1000 (l_X12_market_22) (v1, 0, 0, r4)))
def L_X12_market (a1 : Int32) (S : St) : Option (Int32 × St) := b_X12_market_0 a1 S
def b_X12_chainOf_4 (v2 : Int32) (v3 : Int32) (S : St) : Option ((Int32 × Int32) ⊕ Int32) := (if (8 : Int32) ≤ v3 then some (.inr v2) else gd (inb v3 8) ((if (gi S 162 v3.toNatClampNeg : Int32) < 0 then some (.inr v2) else gd (inb v3 8) (some (.inl ((v2 + 1), (gi S 162 v3.toNatClampNeg)))))))
def l_X12_chainOf_4 (S : St) (x : (Int32 × Int32)) : Option ((Int32 × Int32) ⊕ Int32) := b_X12_chainOf_4 x.1 x.2 S
def b_X12_chainOf_0 (v1 : Int32) (S : St) : Option Int32 := (lp 1000 (l_X12_chainOf_4 S) (0, v1))
def L_X12_chainOf (a1 : Int32) (S : St) : Option Int32 := b_X12_chainOf_0 a1 S
def b_X12_chain_0 (v1 : Int32) (S : St) : Option (Int32 × St) := nm (si S 136 28 0) fun S1 => (L_X12_isOne v1 S1).bind fun r2 => (if (r2 : Int32) = 0 then some ((-1), S1) else (L_X12_day S1).bind fun r4 => (L_X12_chainOf v1 r4).bind fun r5 => some (r5, r4))
def L_X12_chain (a1 : Int32) (S : St) : Option (Int32 × St) := b_X12_chain_0 a1 S
def b_X12_longest_39 (v2 : Int32) (s0 : Int32) (S : St) : Option ((Int32 × Int32 × St) ⊕ (Int32 × St)) := some (.inl (s0, (v2 + 1), S))
def b_X12_longest_13 (v1 : Int32) (v2 : Int32) (S : St) : Option ((Int32 × Int32 × St) ⊕ (Int32 × St)) := (if (gi S 136 15 : Int32) ≤ v2 then some (.inr (v1, S)) else (L_X12_chainOf v2 S).bind fun r2 => (if (r2 : Int32) ≤ v1 then (b_X12_longest_39 v2 v1 S) else (L_X12_chainOf v2 S).bind fun r4 => (b_X12_longest_39 v2 r4 S)))
def l_X12_longest_13 (x : (Int32 × Int32 × St)) : Option ((Int32 × Int32 × St) ⊕ (Int32 × St)) := b_X12_longest_13 x.1 x.2.1 x.2.2
def b_X12_longest_0 (S : St) : Option (Int32 × St) := nm (si S 136 28 0) fun S1 => (L_X12_day S1).bind fun r2 => (lp 1000 (l_X12_longest_13) (0, 0, r2))
def L_X12_longest (S : St) : Option (Int32 × St) := b_X12_longest_0 S
def b_X12_choiceOf_0 (v1 : Int32) (S : St) : Option (Int32 × St) := (L_X12_day S).bind fun r1 => gd (inb v1 8) (some (gi r1 160 v1.toNatClampNeg, r1))
def L_X12_choiceOf (a1 : Int32) (S : St) : Option (Int32 × St) := b_X12_choiceOf_0 a1 S
section WALKS
variable {p : Program} {e : Env} {s : State} {m : MethodId} {args : Array Value} {below : List Frame} {meth : Method} {c : Code} {D : va_G} {ct : Nat → ClassId} {B : Nat} {Hb : Heap}
set_option maxRecDepth 100000 in
set_option maxHeartbeats 4000000 in
theorem w_X12_set_121 (l : Launch) {V : Int32 × St} (C0 : XC D ct p s m args meth c cX12_set 5 (some .int) RX12) (v1 : Int32) (v2 : Int32) (v4 : Int32) (s0 : Int32) (S : St) {H : Heap} {locs : List Loc} {ls : Array Slot} (h : (b_X12_set_121 v1 v2 v4 s0 S).bind some = some V) (hP : MP D ct B Hb S H) (hS : va_S (AB B) s.heap H locs) (hl : lv_has ls 5 [(0, .ref (B + 136)), (1, .int v1), (2, .int v2), (4, .int v4)]) : W p l e { frames := 2, cells := 0, slots := 0, locals := 45 } s m args below meth c H locs 0 0 (MQ below (qIw D ct B Hb V) args s 0 0 (AB B)) (F0 m 121 ls [.int s0, .ref (B + 136)]) := by
  obtain ⟨hx, hb, hr, hml, hown, hts, hK, hlocks, hN⟩ := id C0
  unfold b_X12_set_121 at h
  obtain ⟨S1, eS1, h⟩ := ob_nm h
  refine x_put (S' := si S 136 7 s0) (FS := (fs12 B)) C0 hP hS (fun S => lay_X12 B ct S) rfl inG12 tyX12 tyX12_ok nmX12 7 (by decide) wd_1148 rfl rfl (fun a ha => lay_local (gi_si_n _ _ _ ha) rfl rfl rfl) (put_12_7 B _ _) rfl rfl (Nat.le_of_ble_eq_true rfl) dX12_set_121 (fun H locs hP hS => ?_)
  rw [← eS1] at hP
  refine lv_aload_n hx hb dX12_set_124 rfl (lv_at hl 0 rfl) ?_
  refine lv_iload_n hx hb dX12_set_125 rfl (lv_at hl 1 rfl) ?_
  refine lv_iconst (v := 2) hx hb dX12_set_126 (by decide) ?_
  refine lv_icmp_ne (tgt := 134) hx hb dX12_set_127 (by decide) (fun z2 => ?_) (fun z2 => ?_)
  · have h := ob_f h z2
    refine lv_aload_n hx hb dX12_set_134 rfl (lv_at hl 0 rfl) ?_
    refine x_get C0 hP (lay_X12 B ct S1) rfl inG12 8 (by decide) wd_1149 (fun _ h => h) rfl dX12_set_135 ?_
    obtain ⟨S3, eS3, h⟩ := ob_nm h
    refine x_put (S' := si S1 136 8 (gi S1 136 8)) (FS := (fs12 B)) C0 hP hS (fun S => lay_X12 B ct S) rfl inG12 tyX12 tyX12_ok nmX12 8 (by decide) wd_1149 rfl rfl (fun a ha => lay_local (gi_si_n _ _ _ ha) rfl rfl rfl) (put_12_8 B _ _) rfl rfl (Nat.le_of_ble_eq_true rfl) dX12_set_138 (fun H locs hP hS => ?_)
    rw [← eS3] at hP
    refine lv_iload hx hb dX12_set_141 (lv_at hl 3 rfl) ?_
    exact r_Iw C0 hP hS h dX12_set_143
  · have h := ob_t h z2
    refine lv_iload_n hx hb dX12_set_130 rfl (lv_at hl 2 rfl) ?_
    refine lv_goto (tgt := 138) hx hb dX12_set_131 (by decide) ?_
    obtain ⟨S4, eS4, h⟩ := ob_nm h
    refine x_put (S' := si S1 136 8 v2) (FS := (fs12 B)) C0 hP hS (fun S => lay_X12 B ct S) rfl inG12 tyX12 tyX12_ok nmX12 8 (by decide) wd_1149 rfl rfl (fun a ha => lay_local (gi_si_n _ _ _ ha) rfl rfl rfl) (put_12_8 B _ _) rfl rfl (Nat.le_of_ble_eq_true rfl) dX12_set_138 (fun H locs hP hS => ?_)
    rw [← eS4] at hP
    refine lv_iload hx hb dX12_set_141 (lv_at hl 3 rfl) ?_
    exact r_Iw C0 hP hS h dX12_set_143
set_option maxRecDepth 100000 in
set_option maxHeartbeats 4000000 in
theorem w_X12_set_104 (l : Launch) {V : Int32 × St} (C0 : XC D ct p s m args meth c cX12_set 5 (some .int) RX12) (v1 : Int32) (v2 : Int32) (v4 : Int32) (s0 : Int32) (S : St) {H : Heap} {locs : List Loc} {ls : Array Slot} (h : (b_X12_set_104 v1 v2 v4 s0 S).bind some = some V) (hP : MP D ct B Hb S H) (hS : va_S (AB B) s.heap H locs) (hl : lv_has ls 5 [(0, .ref (B + 136)), (1, .int v1), (2, .int v2), (4, .int v4)]) : W p l e { frames := 2, cells := 0, slots := 0, locals := 45 } s m args below meth c H locs 0 0 (MQ below (qIw D ct B Hb V) args s 0 0 (AB B)) (F0 m 104 ls [.int s0, .ref (B + 136)]) := by
  obtain ⟨hx, hb, hr, hml, hown, hts, hK, hlocks, hN⟩ := id C0
  unfold b_X12_set_104 at h
  obtain ⟨S1, eS1, h⟩ := ob_nm h
  refine x_put (S' := si S 136 6 s0) (FS := (fs12 B)) C0 hP hS (fun S => lay_X12 B ct S) rfl inG12 tyX12 tyX12_ok nmX12 6 (by decide) wd_1147 rfl rfl (fun a ha => lay_local (gi_si_n _ _ _ ha) rfl rfl rfl) (put_12_6 B _ _) rfl rfl (Nat.le_of_ble_eq_true rfl) dX12_set_104 (fun H locs hP hS => ?_)
  rw [← eS1] at hP
  refine lv_aload_n hx hb dX12_set_107 rfl (lv_at hl 0 rfl) ?_
  refine lv_iload_n hx hb dX12_set_108 rfl (lv_at hl 1 rfl) ?_
  refine lv_iconst (v := 1) hx hb dX12_set_109 (by decide) ?_
  refine lv_icmp_ne (tgt := 117) hx hb dX12_set_110 (by decide) (fun z2 => ?_) (fun z2 => ?_)
  · have h := ob_f h z2
    refine lv_aload_n hx hb dX12_set_117 rfl (lv_at hl 0 rfl) ?_
    refine x_get C0 hP (lay_X12 B ct S1) rfl inG12 7 (by decide) wd_1148 (fun _ h => h) rfl dX12_set_118 ?_
    exact w_X12_set_121 l C0 v1 v2 v4 (gi S1 136 7) S1 h hP hS (lv_sub hl [0, 1, 2, 3] rfl)
  · have h := ob_t h z2
    refine lv_iload_n hx hb dX12_set_113 rfl (lv_at hl 2 rfl) ?_
    refine lv_goto (tgt := 121) hx hb dX12_set_114 (by decide) ?_
    exact w_X12_set_121 l C0 v1 v2 v4 v2 S1 h hP hS (lv_sub hl [0, 1, 2, 3] rfl)
set_option maxRecDepth 100000 in
set_option maxHeartbeats 4000000 in
theorem w_X12_set_89 (l : Launch) {V : Int32 × St} (C0 : XC D ct p s m args meth c cX12_set 5 (some .int) RX12) (v1 : Int32) (v2 : Int32) (s0 : Int32) (S : St) {H : Heap} {locs : List Loc} {ls : Array Slot} (h : (b_X12_set_89 v1 v2 s0 S).bind some = some V) (hP : MP D ct B Hb S H) (hS : va_S (AB B) s.heap H locs) (hl : lv_has ls 5 [(0, .ref (B + 136)), (1, .int v1), (2, .int v2)]) : W p l e { frames := 2, cells := 0, slots := 0, locals := 45 } s m args below meth c H locs 0 0 (MQ below (qIw D ct B Hb V) args s 0 0 (AB B)) (F0 m 89 ls [.int s0]) := by
  obtain ⟨hx, hb, hr, hml, hown, hts, hK, hlocks, hN⟩ := id C0
  unfold b_X12_set_89 at h
  refine lv_istore (lv' := [(4, .int s0), (0, .ref (B + 136)), (1, .int v1), (2, .int v2)]) hx hb dX12_set_89 hl (by decide) rfl (fun ls hl => ?_)
  refine lv_aload_n hx hb dX12_set_91 rfl (lv_at hl 1 rfl) ?_
  refine lv_iload_n hx hb dX12_set_92 rfl (lv_at hl 2 rfl) ?_
  refine lv_if_ne (tgt := 100) hx hb dX12_set_93 (by decide) (fun z1 => ?_) (fun z1 => ?_)
  · have h := ob_f h z1
    refine lv_aload_n hx hb dX12_set_100 rfl (lv_at hl 1 rfl) ?_
    refine x_get C0 hP (lay_X12 B ct S) rfl inG12 6 (by decide) wd_1147 (fun _ h => h) rfl dX12_set_101 ?_
    exact w_X12_set_104 l C0 v1 v2 s0 (gi S 136 6) S h hP hS (lv_sub hl [1, 2, 3, 0] rfl)
  · have h := ob_t h z1
    refine lv_iload_n hx hb dX12_set_96 rfl (lv_at hl 3 rfl) ?_
    refine lv_goto (tgt := 104) hx hb dX12_set_97 (by decide) ?_
    exact w_X12_set_104 l C0 v1 v2 s0 v2 S h hP hS (lv_sub hl [1, 2, 3, 0] rfl)
set_option maxRecDepth 100000 in
set_option maxHeartbeats 4000000 in
theorem w_X12_set_55 (l : Launch) {V : Int32 × St} (C0 : XC D ct p s m args meth c cX12_set 5 (some .int) RX12) (v1 : Int32) (v2 : Int32) (s0 : Int32) (S : St) {H : Heap} {locs : List Loc} {ls : Array Slot} (h : (b_X12_set_55 v1 v2 s0 S).bind some = some V) (hP : MP D ct B Hb S H) (hS : va_S (AB B) s.heap H locs) (hl : lv_has ls 5 [(0, .ref (B + 136)), (1, .int v1), (2, .int v2)]) : W p l e { frames := 2, cells := 0, slots := 0, locals := 45 } s m args below meth c H locs 0 0 (MQ below (qIw D ct B Hb V) args s 0 0 (AB B)) (F0 m 55 ls [.int s0]) := by
  obtain ⟨hx, hb, hr, hml, hown, hts, hK, hlocks, hN⟩ := id C0
  unfold b_X12_set_55 at h
  refine lv_istore_n (lv' := [(3, .int s0), (0, .ref (B + 136)), (1, .int v1), (2, .int v2)]) hx hb dX12_set_55 rfl hl (by decide) rfl (fun ls hl => ?_)
  refine lv_iload_n hx hb dX12_set_56 rfl (lv_at hl 0 rfl) ?_
  refine lv_if_ne (tgt := 62) hx hb dX12_set_57 (by decide) (fun z1 => ?_) (fun z1 => ?_)
  · have h := ob_f h z1
    refine lv_iload_n hx hb dX12_set_62 rfl (lv_at hl 2 rfl) ?_
    refine lv_if_ne (tgt := 73) hx hb dX12_set_63 (by decide) (fun z2 => ?_) (fun z2 => ?_)
    · have h := ob_f h z2
      refine lv_iload_n hx hb dX12_set_73 rfl (lv_at hl 2 rfl) ?_
      refine lv_iconst (v := 1) hx hb dX12_set_74 (by decide) ?_
      refine lv_icmp_ne (tgt := 85) hx hb dX12_set_75 (by decide) (fun z3 => ?_) (fun z3 => ?_)
      · have h := ob_f h z3
        refine lv_aload_n hx hb dX12_set_85 rfl (lv_at hl 1 rfl) ?_
        refine x_get C0 hP (lay_X12 B ct S) rfl inG12 8 (by decide) wd_1149 (fun _ h => h) rfl dX12_set_86 ?_
        exact w_X12_set_89 l C0 v1 v2 (gi S 136 8) S h hP hS (lv_sub hl [1, 2, 3] rfl)
      · have h := ob_t h z3
        refine lv_aload_n hx hb dX12_set_78 rfl (lv_at hl 1 rfl) ?_
        refine x_get C0 hP (lay_X12 B ct S) rfl inG12 7 (by decide) wd_1148 (fun _ h => h) rfl dX12_set_79 ?_
        refine lv_goto (tgt := 89) hx hb dX12_set_82 (by decide) ?_
        exact w_X12_set_89 l C0 v1 v2 (gi S 136 7) S h hP hS (lv_sub hl [1, 2, 3] rfl)
    · have h := ob_t h z2
      refine lv_aload_n hx hb dX12_set_66 rfl (lv_at hl 1 rfl) ?_
      refine x_get C0 hP (lay_X12 B ct S) rfl inG12 6 (by decide) wd_1147 (fun _ h => h) rfl dX12_set_67 ?_
      refine lv_goto (tgt := 89) hx hb dX12_set_70 (by decide) ?_
      exact w_X12_set_89 l C0 v1 v2 (gi S 136 6) S h hP hS (lv_sub hl [1, 2, 3] rfl)
  · have h := ob_t h z1
    refine lv_iconst (v := (-1)) hx hb dX12_set_60 (by decide) ?_
    exact r_Iw C0 hP hS h dX12_set_61
set_option maxRecDepth 100000 in
set_option maxHeartbeats 4000000 in
theorem w_X12_set_54 (l : Launch) {V : Int32 × St} (C0 : XC D ct p s m args meth c cX12_set 5 (some .int) RX12) (v1 : Int32) (v2 : Int32) (S : St) {H : Heap} {locs : List Loc} {ls : Array Slot} (h : (b_X12_set_54 v1 v2 S).bind some = some V) (hP : MP D ct B Hb S H) (hS : va_S (AB B) s.heap H locs) (hl : lv_has ls 5 [(0, .ref (B + 136)), (1, .int v1), (2, .int v2)]) : W p l e { frames := 2, cells := 0, slots := 0, locals := 45 } s m args below meth c H locs 0 0 (MQ below (qIw D ct B Hb V) args s 0 0 (AB B)) (F0 m 54 ls []) := by
  obtain ⟨hx, hb, hr, hml, hown, hts, hK, hlocks, hN⟩ := id C0
  unfold b_X12_set_54 at h
  refine lv_iconst (v := 0) hx hb dX12_set_54 (by decide) ?_
  exact w_X12_set_55 l C0 v1 v2 0 S h hP hS (lv_sub hl [0, 1, 2] rfl)
set_option maxRecDepth 100000 in
set_option maxHeartbeats 4000000 in
theorem w_X12_set_0 (l : Launch) {V : Int32 × St} (C0 : XC D ct p s m args meth c cX12_set 5 (some .int) RX12) (v1 : Int32) (v2 : Int32) (S : St) {H : Heap} {locs : List Loc} {ls : Array Slot} (h : (b_X12_set_0 v1 v2 S).bind some = some V) (hP : MP D ct B Hb S H) (hS : va_S (AB B) s.heap H locs) (hl : lv_has ls 5 [(0, .ref (B + 136)), (1, .int v1), (2, .int v2)]) : W p l e { frames := 2, cells := 0, slots := 0, locals := 45 } s m args below meth c H locs 0 0 (MQ below (qIw D ct B Hb V) args s 0 0 (AB B)) (F0 m 0 ls []) := by
  obtain ⟨hx, hb, hr, hml, hown, hts, hK, hlocks, hN⟩ := id C0
  unfold b_X12_set_0 at h
  refine lv_aload_n hx hb dX12_set_0 rfl (lv_at hl 0 rfl) ?_
  refine lv_iconst (v := 0) hx hb dX12_set_1 (by decide) ?_
  obtain ⟨S1, eS1, h⟩ := ob_nm h
  refine x_put (S' := si S 136 28 0) (FS := (fs12 B)) C0 hP hS (fun S => lay_X12 B ct S) rfl inG12 tyX12 tyX12_ok nmX12 28 (by decide) wd_1169 rfl rfl (fun a ha => lay_local (gi_si_n _ _ _ ha) rfl rfl rfl) (put_12_28 B _ _) rfl rfl (Nat.le_of_ble_eq_true rfl) dX12_set_2 (fun H locs hP hS => ?_)
  rw [← eS1] at hP
  refine lv_iload_n hx hb dX12_set_5 rfl (lv_at hl 1 rfl) ?_
  refine lv_if_ne (tgt := 16) hx hb dX12_set_6 (by decide) (fun z2 => ?_) (fun z2 => ?_)
  · have h := ob_f h z2
    refine lv_iload_n hx hb dX12_set_16 rfl (lv_at hl 1 rfl) ?_
    refine lv_iconst (v := 1) hx hb dX12_set_17 (by decide) ?_
    refine lv_icmp_ne (tgt := 33) hx hb dX12_set_18 (by decide) (fun z3 => ?_) (fun z3 => ?_)
    · have h := ob_f h z3
      refine lv_iload_n hx hb dX12_set_33 rfl (lv_at hl 1 rfl) ?_
      refine lv_iconst (v := 2) hx hb dX12_set_34 (by decide) ?_
      refine lv_icmp_ne (tgt := 54) hx hb dX12_set_35 (by decide) (fun z4 => ?_) (fun z4 => ?_)
      · have h := ob_f h z4
        exact w_X12_set_54 l C0 v1 v2 S1 h hP hS (lv_sub hl [0, 1, 2] rfl)
      · have h := ob_t h z4
        refine lv_iload_n hx hb dX12_set_38 rfl (lv_at hl 2 rfl) ?_
        refine lv_i2l hx hb dX12_set_39 rfl ?_
        refine lv_lconst (v := 1) hx hb dX12_set_40 (by decide) ?_
        refine lv_ldc2 (v := 9) hx hb hown (hts _ wd_1458) dX12_set_41 ?_
        obtain ⟨r5, hr5, h⟩ := ob_bd h
        refine n_I (kS (As := [.long v2.toInt64, .long 1, .long 9]) C0 (c_X12_in l v2.toInt64 1 9 hr5) ⟨wd_1370, wd_1368, wd_1369, wd_6⟩ kd_X12_in ⟨Nat.le_of_ble_eq_true rfl, Nat.le_of_ble_eq_true rfl⟩ hP rfl hl.1 rfl (Nat.le_of_ble_eq_true rfl) dX12_set_44 ⟨Nat.le_of_ble_eq_true rfl, Nat.le_of_ble_eq_true rfl⟩) hS (fun H locs hP hS => ?_)
        refine lv_if_eq (tgt := 54) hx hb dX12_set_47 (by decide) (fun z6 => ?_) (fun z6 => ?_)
        · have h := ob_t h z6
          exact w_X12_set_54 l C0 v1 v2 S1 h hP hS (lv_sub hl [0, 1, 2] rfl)
        · have h := ob_f h z6
          refine lv_iconst (v := 1) hx hb dX12_set_50 (by decide) ?_
          refine lv_goto (tgt := 55) hx hb dX12_set_51 (by decide) ?_
          exact w_X12_set_55 l C0 v1 v2 1 S1 h hP hS (lv_sub hl [0, 1, 2] rfl)
    · have h := ob_t h z3
      refine lv_iload_n hx hb dX12_set_21 rfl (lv_at hl 2 rfl) ?_
      refine lv_i2l hx hb dX12_set_22 rfl ?_
      refine lv_lconst (v := 0) hx hb dX12_set_23 (by decide) ?_
      refine lv_ldc2 (v := 9) hx hb hown (hts _ wd_1458) dX12_set_24 ?_
      obtain ⟨r7, hr7, h⟩ := ob_bd h
      refine n_I (kS (As := [.long v2.toInt64, .long 0, .long 9]) C0 (c_X12_in l v2.toInt64 0 9 hr7) ⟨wd_1370, wd_1368, wd_1369, wd_6⟩ kd_X12_in ⟨Nat.le_of_ble_eq_true rfl, Nat.le_of_ble_eq_true rfl⟩ hP rfl hl.1 rfl (Nat.le_of_ble_eq_true rfl) dX12_set_27 ⟨Nat.le_of_ble_eq_true rfl, Nat.le_of_ble_eq_true rfl⟩) hS (fun H locs hP hS => ?_)
      refine lv_goto (tgt := 55) hx hb dX12_set_30 (by decide) ?_
      exact w_X12_set_55 l C0 v1 v2 r7 S1 h hP hS (lv_sub hl [0, 1, 2] rfl)
  · have h := ob_t h z2
    refine lv_iload_n hx hb dX12_set_9 rfl (lv_at hl 2 rfl) ?_
    obtain ⟨r8, hr8, h⟩ := ob_bd h
    refine n_I (kS (As := [.int v2]) C0 (c_X12_isHour l v2 hr8) ⟨wd_1414, wd_1412, wd_1413, wd_6⟩ kd_X12_isHour ⟨Nat.le_of_ble_eq_true rfl, Nat.le_of_ble_eq_true rfl⟩ hP rfl hl.1 rfl (Nat.le_of_ble_eq_true rfl) dX12_set_10 ⟨Nat.le_of_ble_eq_true rfl, Nat.le_of_ble_eq_true rfl⟩) hS (fun H locs hP hS => ?_)
    refine lv_goto (tgt := 55) hx hb dX12_set_13 (by decide) ?_
    exact w_X12_set_55 l C0 v1 v2 r8 S1 h hP hS (lv_sub hl [0, 1, 2] rfl)
set_option maxRecDepth 100000 in
set_option maxHeartbeats 4000000 in
theorem c_X12_set (l : Launch) (a1 : Int32) (a2 : Int32) {D : va_G} {ct : Nat → ClassId} {B : Nat} {Hb : Heap} {S : St} {V : Int32 × St} (h : L_X12_set a1 a2 S = some V) : Met l yX12_set (Cond.code yX12_set cX12_set 5 (some .int) :: tG) { frames := 2, cells := 0, slots := 0, locals := 45 } (va_Pc [.ref (B + 136), .int a1, .int a2] (MPK D ct B Hb S)) (qIw D ct B Hb V) 0 0 (AB B) := by
  refine mk_met (by decide +kernel) (Nat.le_of_ble_eq_true rfl) (fun p e s m args below meth c ls C0 hP hl _ => ?_)
  have h := ob_of h
  exact w_X12_set_0 l C0 a1 a2 S h hP va_S.rf (lv_sub hl [0, 1, 2] rfl)
set_option maxRecDepth 100000 in
set_option maxHeartbeats 4000000 in
theorem w_X12_fate_0 (l : Launch) {V : Int32 × St} (C0 : XC D ct p s m args meth c cX12_fate 3 (some .int) RX12) (v1 : Int32) (v2 : Int32) (S : St) {H : Heap} {locs : List Loc} {ls : Array Slot} (h : (b_X12_fate_0 v1 v2 S).bind some = some V) (hP : MP D ct B Hb S H) (hS : va_S (AB B) s.heap H locs) (hl : lv_has ls 3 [(0, .ref (B + 136)), (1, .int v1), (2, .int v2)]) : W p l e { frames := 7, cells := 0, slots := 0, locals := 160 } s m args below meth c H locs 0 0 (MQ below (qIw D ct B Hb V) args s 0 0 (AB B)) (F0 m 0 ls []) := by
  obtain ⟨hx, hb, hr, hml, hown, hts, hK, hlocks, hN⟩ := id C0
  unfold b_X12_fate_0 at h
  refine lv_aload_n hx hb dX12_fate_0 rfl (lv_at hl 0 rfl) ?_
  refine lv_iconst (v := 0) hx hb dX12_fate_1 (by decide) ?_
  obtain ⟨S1, eS1, h⟩ := ob_nm h
  refine x_put (S' := si S 136 28 0) (FS := (fs12 B)) C0 hP hS (fun S => lay_X12 B ct S) rfl inG12 tyX12 tyX12_ok nmX12 28 (by decide) wd_1169 rfl rfl (fun a ha => lay_local (gi_si_n _ _ _ ha) rfl rfl rfl) (put_12_28 B _ _) rfl rfl (Nat.le_of_ble_eq_true rfl) dX12_fate_2 (fun H locs hP hS => ?_)
  rw [← eS1] at hP
  refine lv_aload_n hx hb dX12_fate_5 rfl (lv_at hl 0 rfl) ?_
  refine lv_iload_n hx hb dX12_fate_6 rfl (lv_at hl 1 rfl) ?_
  obtain ⟨r2, hr2, h⟩ := ob_bd h
  refine n_I (kV (As := [.int v1]) C0 (c_X12_isOne l v1 hr2) ⟨wd_1448, wd_1445, wd_1447, wp_37, wd_6⟩ kd_X12_isOne ⟨Nat.le_of_ble_eq_true rfl, Nat.le_of_ble_eq_true rfl⟩ hP (lay_X12 B ct S1) rfl rfl hl.1 rfl (Nat.le_of_ble_eq_true rfl) dX12_fate_7 ⟨Nat.le_of_ble_eq_true rfl, Nat.le_of_ble_eq_true rfl⟩) hS (fun H locs hP hS => ?_)
  refine lv_if_eq (tgt := 25) hx hb dX12_fate_10 (by decide) (fun z3 => ?_) (fun z3 => ?_)
  · have h := ob_t h z3
    refine lv_iconst (v := (-1)) hx hb dX12_fate_25 (by decide) ?_
    exact r_Iw C0 hP hS h dX12_fate_26
  · have h := ob_f h z3
    refine lv_iload_n hx hb dX12_fate_13 rfl (lv_at hl 2 rfl) ?_
    refine lv_i2l hx hb dX12_fate_14 rfl ?_
    refine lv_lconst (v := 0) hx hb dX12_fate_15 (by decide) ?_
    refine lv_ldc2 (v := 8) hx hb hown (hts _ wd_1535) dX12_fate_16 ?_
    obtain ⟨r4, hr4, h⟩ := ob_bd h
    refine n_I (kS (As := [.long v2.toInt64, .long 0, .long 8]) C0 (c_X12_in l v2.toInt64 0 8 hr4) ⟨wd_1370, wd_1368, wd_1369, wd_6⟩ kd_X12_in ⟨Nat.le_of_ble_eq_true rfl, Nat.le_of_ble_eq_true rfl⟩ hP rfl hl.1 rfl (Nat.le_of_ble_eq_true rfl) dX12_fate_19 ⟨Nat.le_of_ble_eq_true rfl, Nat.le_of_ble_eq_true rfl⟩) hS (fun H locs hP hS => ?_)
    refine lv_if_ne (tgt := 27) hx hb dX12_fate_22 (by decide) (fun z5 => ?_) (fun z5 => ?_)
    · have h := ob_f h z5
      refine lv_aload_n hx hb dX12_fate_27 rfl (lv_at hl 0 rfl) ?_
      obtain ⟨r6, hr6, h⟩ := ob_bd h
      refine n_Vw (kV (As := []) C0 (c_X12_day l hr6) ⟨wd_1539, wd_1536, wd_1538, wp_43, wd_6⟩ kd_X12_day ⟨Nat.le_of_ble_eq_true rfl, Nat.le_of_ble_eq_true rfl⟩ hP (lay_X12 B ct S1) rfl rfl hl.1 rfl (Nat.le_of_ble_eq_true rfl) dX12_fate_28 ⟨Nat.le_of_ble_eq_true rfl, Nat.le_of_ble_eq_true rfl⟩) hS (fun H locs hP hS => ?_)
      refine lv_iload_n hx hb dX12_fate_31 rfl (lv_at hl 2 rfl) ?_
      rcases Decidable.em ((v2 : Int32) = 0) with z7 | z7
      · have h := ob_t h z7
        refine lv_tableIn (x := v2) (off := 48) (tgt := 80) hx hb dX12_fate_32 (by rw [z7]; decide) (by rw [z7]; decide) (by rw [z7]; decide) (by decide) ?_
        refine lv_aload_n hx hb dX12_fate_80 rfl (lv_at hl 0 rfl) ?_
        refine x_get C0 hP (lay_X12 B ct r6) rfl inG12 32 (by decide) wd_1173 (fun _ h => h) rfl dX12_fate_81 ?_
        refine lv_iload_n hx hb dX12_fate_84 rfl (lv_at hl 1 rfl) ?_
        obtain ⟨g8, h⟩ := ob_gd h
        refine x_iald C0 hP ((fun S => lay_160 B ct S) r6) g8 dX12_fate_85 ?_
        obtain ⟨r9, hr9, h⟩ := ob_bd h
        refine n_I (kS (As := [.int (gi r6 160 v1.toNatClampNeg)]) C0 (c_X12_told l (gi r6 160 v1.toNatClampNeg) hr9) ⟨wd_1585, wd_1583, wd_1584, wd_6⟩ kd_X12_told ⟨Nat.le_of_ble_eq_true rfl, Nat.le_of_ble_eq_true rfl⟩ hP rfl hl.1 rfl (Nat.le_of_ble_eq_true rfl) dX12_fate_86 ⟨Nat.le_of_ble_eq_true rfl, Nat.le_of_ble_eq_true rfl⟩) hS (fun H locs hP hS => ?_)
        exact r_Iw C0 hP hS h dX12_fate_89
      · have h := ob_f h z7
        rcases Decidable.em ((v2 : Int32) = 1) with z10 | z10
        · have h := ob_t h z10
          refine lv_tableIn (x := v2) (off := 58) (tgt := 90) hx hb dX12_fate_32 (by rw [z10]; decide) (by rw [z10]; decide) (by rw [z10]; decide) (by decide) ?_
          refine lv_aload_n hx hb dX12_fate_90 rfl (lv_at hl 0 rfl) ?_
          refine lv_iload_n hx hb dX12_fate_91 rfl (lv_at hl 1 rfl) ?_
          refine lv_aload_n hx hb dX12_fate_92 rfl (lv_at hl 0 rfl) ?_
          refine x_get C0 hP (lay_X12 B ct r6) rfl inG12 33 (by decide) wd_1174 (fun _ h => h) rfl dX12_fate_93 ?_
          refine lv_iload_n hx hb dX12_fate_96 rfl (lv_at hl 1 rfl) ?_
          obtain ⟨g11, h⟩ := ob_gd h
          refine x_iald C0 hP ((fun S => lay_161 B ct S) r6) g11 dX12_fate_97 ?_
          obtain ⟨r12, hr12, h⟩ := ob_bd h
          refine n_I (kV (As := [.int v1, .int (gi r6 161 v1.toNatClampNeg)]) C0 (c_X12_strengthOf l v1 (gi r6 161 v1.toNatClampNeg) hr12) ⟨wd_1475, wd_1472, wd_1474, wp_40, wd_6⟩ kd_X12_strengthOf ⟨Nat.le_of_ble_eq_true rfl, Nat.le_of_ble_eq_true rfl⟩ hP (lay_X12 B ct r6) rfl rfl hl.1 rfl (Nat.le_of_ble_eq_true rfl) dX12_fate_98 ⟨Nat.le_of_ble_eq_true rfl, Nat.le_of_ble_eq_true rfl⟩) hS (fun H locs hP hS => ?_)
          exact r_Iw C0 hP hS h dX12_fate_101
        · have h := ob_f h z10
          rcases Decidable.em ((v2 : Int32) = 2) with z13 | z13
          · have h := ob_t h z13
            refine lv_tableIn (x := v2) (off := 70) (tgt := 102) hx hb dX12_fate_32 (by rw [z13]; decide) (by rw [z13]; decide) (by rw [z13]; decide) (by decide) ?_
            refine lv_aload_n hx hb dX12_fate_102 rfl (lv_at hl 0 rfl) ?_
            refine x_get C0 hP (lay_X12 B ct r6) rfl inG12 34 (by decide) wd_1175 (fun _ h => h) rfl dX12_fate_103 ?_
            refine lv_iload_n hx hb dX12_fate_106 rfl (lv_at hl 1 rfl) ?_
            obtain ⟨g14, h⟩ := ob_gd h
            refine x_iald C0 hP ((fun S => lay_162 B ct S) r6) g14 dX12_fate_107 ?_
            refine lv_if_ge (tgt := 116) hx hb dX12_fate_108 (by decide) (fun z15 => ?_) (fun z15 => ?_)
            · have h := ob_t h z15
              refine lv_aload_n hx hb dX12_fate_116 rfl (lv_at hl 0 rfl) ?_
              refine x_get C0 hP (lay_X12 B ct r6) rfl inG12 34 (by decide) wd_1175 (fun _ h => h) rfl dX12_fate_117 ?_
              refine lv_iload_n hx hb dX12_fate_120 rfl (lv_at hl 1 rfl) ?_
              obtain ⟨g16, h⟩ := ob_gd h
              refine x_iald C0 hP ((fun S => lay_162 B ct S) r6) g16 dX12_fate_121 ?_
              exact r_Iw C0 hP hS h dX12_fate_122
            · have h := ob_f h z15
              refine lv_bipush (v := (-4)) hx hb dX12_fate_111 (by decide) ?_
              refine lv_goto (tgt := 122) hx hb dX12_fate_113 (by decide) ?_
              exact r_Iw C0 hP hS h dX12_fate_122
          · have h := ob_f h z13
            rcases Decidable.em ((v2 : Int32) = 3) with z17 | z17
            · have h := ob_t h z17
              refine lv_tableIn (x := v2) (off := 91) (tgt := 123) hx hb dX12_fate_32 (by rw [z17]; decide) (by rw [z17]; decide) (by rw [z17]; decide) (by decide) ?_
              refine lv_aload_n hx hb dX12_fate_123 rfl (lv_at hl 0 rfl) ?_
              refine x_get C0 hP (lay_X12 B ct r6) rfl inG12 34 (by decide) wd_1175 (fun _ h => h) rfl dX12_fate_124 ?_
              refine lv_iload_n hx hb dX12_fate_127 rfl (lv_at hl 1 rfl) ?_
              obtain ⟨g18, h⟩ := ob_gd h
              refine x_iald C0 hP ((fun S => lay_162 B ct S) r6) g18 dX12_fate_128 ?_
              refine lv_if_ge (tgt := 137) hx hb dX12_fate_129 (by decide) (fun z19 => ?_) (fun z19 => ?_)
              · have h := ob_t h z19
                refine lv_aload_n hx hb dX12_fate_137 rfl (lv_at hl 0 rfl) ?_
                refine x_get C0 hP (lay_X12 B ct r6) rfl inG12 35 (by decide) wd_1176 (fun _ h => h) rfl dX12_fate_138 ?_
                refine lv_iload_n hx hb dX12_fate_141 rfl (lv_at hl 1 rfl) ?_
                obtain ⟨g20, h⟩ := ob_gd h
                refine x_iald C0 hP ((fun S => lay_163 B ct S) r6) g20 dX12_fate_142 ?_
                exact r_Iw C0 hP hS h dX12_fate_143
              · have h := ob_f h z19
                refine lv_bipush (v := (-4)) hx hb dX12_fate_132 (by decide) ?_
                refine lv_goto (tgt := 143) hx hb dX12_fate_134 (by decide) ?_
                exact r_Iw C0 hP hS h dX12_fate_143
            · have h := ob_f h z17
              rcases Decidable.em ((v2 : Int32) = 4) with z21 | z21
              · have h := ob_t h z21
                refine lv_tableIn (x := v2) (off := 112) (tgt := 144) hx hb dX12_fate_32 (by rw [z21]; decide) (by rw [z21]; decide) (by rw [z21]; decide) (by decide) ?_
                refine lv_aload_n hx hb dX12_fate_144 rfl (lv_at hl 0 rfl) ?_
                refine x_get C0 hP (lay_X12 B ct r6) rfl inG12 36 (by decide) wd_1177 (fun _ h => h) rfl dX12_fate_145 ?_
                refine lv_iload_n hx hb dX12_fate_148 rfl (lv_at hl 1 rfl) ?_
                obtain ⟨g22, h⟩ := ob_gd h
                refine x_iald C0 hP ((fun S => lay_164 B ct S) r6) g22 dX12_fate_149 ?_
                exact r_Iw C0 hP hS h dX12_fate_150
              · have h := ob_f h z21
                rcases Decidable.em ((v2 : Int32) = 5) with z23 | z23
                · have h := ob_t h z23
                  refine lv_tableIn (x := v2) (off := 119) (tgt := 151) hx hb dX12_fate_32 (by rw [z23]; decide) (by rw [z23]; decide) (by rw [z23]; decide) (by decide) ?_
                  refine lv_aload_n hx hb dX12_fate_151 rfl (lv_at hl 0 rfl) ?_
                  refine x_get C0 hP (lay_X12 B ct r6) rfl inG12 37 (by decide) wd_1178 (fun _ h => h) rfl dX12_fate_152 ?_
                  refine lv_iload_n hx hb dX12_fate_155 rfl (lv_at hl 1 rfl) ?_
                  obtain ⟨g24, h⟩ := ob_gd h
                  refine x_zald C0 hP ((fun S => lay_165 B ct S) r6) g24 dX12_fate_156 ?_
                  refine lv_if_eq (tgt := 164) hx hb dX12_fate_157 (by decide) (fun z25 => ?_) (fun z25 => ?_)
                  · have h := ob_t h z25
                    refine lv_iconst (v := 0) hx hb dX12_fate_164 (by decide) ?_
                    exact r_Iw C0 hP hS h dX12_fate_165
                  · have h := ob_f h z25
                    refine lv_iconst (v := 1) hx hb dX12_fate_160 (by decide) ?_
                    refine lv_goto (tgt := 165) hx hb dX12_fate_161 (by decide) ?_
                    exact r_Iw C0 hP hS h dX12_fate_165
                · have h := ob_f h z23
                  rcases Decidable.em ((v2 : Int32) = 6) with z26 | z26
                  · have h := ob_t h z26
                    refine lv_tableIn (x := v2) (off := 134) (tgt := 166) hx hb dX12_fate_32 (by rw [z26]; decide) (by rw [z26]; decide) (by rw [z26]; decide) (by decide) ?_
                    refine lv_aload_n hx hb dX12_fate_166 rfl (lv_at hl 0 rfl) ?_
                    refine x_get C0 hP (lay_X12 B ct r6) rfl inG12 38 (by decide) wd_1179 (fun _ h => h) rfl dX12_fate_167 ?_
                    refine lv_iload_n hx hb dX12_fate_170 rfl (lv_at hl 1 rfl) ?_
                    obtain ⟨g27, h⟩ := ob_gd h
                    refine x_iald C0 hP ((fun S => lay_166 B ct S) r6) g27 dX12_fate_171 ?_
                    refine lv_if_ge (tgt := 180) hx hb dX12_fate_172 (by decide) (fun z28 => ?_) (fun z28 => ?_)
                    · have h := ob_t h z28
                      refine lv_aload_n hx hb dX12_fate_180 rfl (lv_at hl 0 rfl) ?_
                      refine x_get C0 hP (lay_X12 B ct r6) rfl inG12 38 (by decide) wd_1179 (fun _ h => h) rfl dX12_fate_181 ?_
                      refine lv_iload_n hx hb dX12_fate_184 rfl (lv_at hl 1 rfl) ?_
                      obtain ⟨g29, h⟩ := ob_gd h
                      refine x_iald C0 hP ((fun S => lay_166 B ct S) r6) g29 dX12_fate_185 ?_
                      exact r_Iw C0 hP hS h dX12_fate_186
                    · have h := ob_f h z28
                      refine lv_bipush (v := (-4)) hx hb dX12_fate_175 (by decide) ?_
                      refine lv_goto (tgt := 186) hx hb dX12_fate_177 (by decide) ?_
                      exact r_Iw C0 hP hS h dX12_fate_186
                  · have h := ob_f h z26
                    rcases Decidable.em ((v2 : Int32) = 7) with z30 | z30
                    · have h := ob_t h z30
                      refine lv_tableIn (x := v2) (off := 155) (tgt := 187) hx hb dX12_fate_32 (by rw [z30]; decide) (by rw [z30]; decide) (by rw [z30]; decide) (by decide) ?_
                      refine lv_aload_n hx hb dX12_fate_187 rfl (lv_at hl 0 rfl) ?_
                      refine x_get C0 hP (lay_X12 B ct r6) rfl inG12 38 (by decide) wd_1179 (fun _ h => h) rfl dX12_fate_188 ?_
                      refine lv_iload_n hx hb dX12_fate_191 rfl (lv_at hl 1 rfl) ?_
                      obtain ⟨g31, h⟩ := ob_gd h
                      refine x_iald C0 hP ((fun S => lay_166 B ct S) r6) g31 dX12_fate_192 ?_
                      refine lv_if_ge (tgt := 201) hx hb dX12_fate_193 (by decide) (fun z32 => ?_) (fun z32 => ?_)
                      · have h := ob_t h z32
                        refine lv_aload_n hx hb dX12_fate_201 rfl (lv_at hl 0 rfl) ?_
                        refine x_get C0 hP (lay_X12 B ct r6) rfl inG12 39 (by decide) wd_1180 (fun _ h => h) rfl dX12_fate_202 ?_
                        refine lv_iload_n hx hb dX12_fate_205 rfl (lv_at hl 1 rfl) ?_
                        obtain ⟨g33, h⟩ := ob_gd h
                        refine x_iald C0 hP ((fun S => lay_167 B ct S) r6) g33 dX12_fate_206 ?_
                        exact r_Iw C0 hP hS h dX12_fate_207
                      · have h := ob_f h z32
                        refine lv_bipush (v := (-4)) hx hb dX12_fate_196 (by decide) ?_
                        refine lv_goto (tgt := 207) hx hb dX12_fate_198 (by decide) ?_
                        exact r_Iw C0 hP hS h dX12_fate_207
                    · have h := ob_f h z30
                      refine lv_tableOut (x := v2) (tgt := 208) hx hb dX12_fate_32 (sw_0_8 z7 z10 z13 z17 z21 z23 z26 z30) (by decide) ?_
                      refine lv_aload_n hx hb dX12_fate_208 rfl (lv_at hl 0 rfl) ?_
                      refine x_get C0 hP (lay_X12 B ct r6) rfl inG12 41 (by decide) wd_1182 (fun _ h => h) rfl dX12_fate_209 ?_
                      refine lv_iload_n hx hb dX12_fate_212 rfl (lv_at hl 1 rfl) ?_
                      obtain ⟨g34, h⟩ := ob_gd h
                      refine x_iald C0 hP ((fun S => lay_169 B ct S) r6) g34 dX12_fate_213 ?_
                      refine lv_if_ge (tgt := 222) hx hb dX12_fate_214 (by decide) (fun z35 => ?_) (fun z35 => ?_)
                      · have h := ob_t h z35
                        refine lv_aload_n hx hb dX12_fate_222 rfl (lv_at hl 0 rfl) ?_
                        refine x_get C0 hP (lay_X12 B ct r6) rfl inG12 41 (by decide) wd_1182 (fun _ h => h) rfl dX12_fate_223 ?_
                        refine lv_iload_n hx hb dX12_fate_226 rfl (lv_at hl 1 rfl) ?_
                        obtain ⟨g36, h⟩ := ob_gd h
                        refine x_iald C0 hP ((fun S => lay_169 B ct S) r6) g36 dX12_fate_227 ?_
                        exact r_Iw C0 hP hS h dX12_fate_228
                      · have h := ob_f h z35
                        refine lv_bipush (v := (-4)) hx hb dX12_fate_217 (by decide) ?_
                        refine lv_goto (tgt := 228) hx hb dX12_fate_219 (by decide) ?_
                        exact r_Iw C0 hP hS h dX12_fate_228
    · have h := ob_t h z5
      refine lv_iconst (v := (-1)) hx hb dX12_fate_25 (by decide) ?_
      exact r_Iw C0 hP hS h dX12_fate_26
set_option maxRecDepth 100000 in
set_option maxHeartbeats 4000000 in
theorem c_X12_fate (l : Launch) (a1 : Int32) (a2 : Int32) {D : va_G} {ct : Nat → ClassId} {B : Nat} {Hb : Heap} {S : St} {V : Int32 × St} (h : L_X12_fate a1 a2 S = some V) : Met l yX12_fate (Cond.code yX12_fate cX12_fate 3 (some .int) :: tG) { frames := 7, cells := 0, slots := 0, locals := 160 } (va_Pc [.ref (B + 136), .int a1, .int a2] (MPK D ct B Hb S)) (qIw D ct B Hb V) 0 0 (AB B) := by
  refine mk_met (by decide +kernel) (Nat.le_of_ble_eq_true rfl) (fun p e s m args below meth c ls C0 hP hl _ => ?_)
  have h := ob_of h
  exact w_X12_fate_0 l C0 a1 a2 S h hP va_S.rf (lv_sub hl [0, 1, 2] rfl)
set_option maxRecDepth 100000 in
set_option maxHeartbeats 4000000 in
theorem w_X12_sum_0 (l : Launch) {V : Int32 × St} (C0 : XC D ct p s m args meth c cX12_sum 2 (some .int) RX12) (v1 : Int32) (S : St) {H : Heap} {locs : List Loc} {ls : Array Slot} (h : (b_X12_sum_0 v1 S).bind some = some V) (hP : MP D ct B Hb S H) (hS : va_S (AB B) s.heap H locs) (hl : lv_has ls 2 [(0, .ref (B + 136)), (1, .int v1)]) : W p l e { frames := 7, cells := 0, slots := 0, locals := 160 } s m args below meth c H locs 0 0 (MQ below (qIw D ct B Hb V) args s 0 0 (AB B)) (F0 m 0 ls []) := by
  obtain ⟨hx, hb, hr, hml, hown, hts, hK, hlocks, hN⟩ := id C0
  unfold b_X12_sum_0 at h
  refine lv_aload_n hx hb dX12_sum_0 rfl (lv_at hl 0 rfl) ?_
  refine lv_iconst (v := 0) hx hb dX12_sum_1 (by decide) ?_
  obtain ⟨S1, eS1, h⟩ := ob_nm h
  refine x_put (S' := si S 136 28 0) (FS := (fs12 B)) C0 hP hS (fun S => lay_X12 B ct S) rfl inG12 tyX12 tyX12_ok nmX12 28 (by decide) wd_1169 rfl rfl (fun a ha => lay_local (gi_si_n _ _ _ ha) rfl rfl rfl) (put_12_28 B _ _) rfl rfl (Nat.le_of_ble_eq_true rfl) dX12_sum_2 (fun H locs hP hS => ?_)
  rw [← eS1] at hP
  refine lv_aload_n hx hb dX12_sum_5 rfl (lv_at hl 0 rfl) ?_
  refine lv_iload_n hx hb dX12_sum_6 rfl (lv_at hl 1 rfl) ?_
  obtain ⟨r2, hr2, h⟩ := ob_bd h
  refine n_I (kV (As := [.int v1]) C0 (c_X12_isOne l v1 hr2) ⟨wd_1448, wd_1445, wd_1447, wp_37, wd_6⟩ kd_X12_isOne ⟨Nat.le_of_ble_eq_true rfl, Nat.le_of_ble_eq_true rfl⟩ hP (lay_X12 B ct S1) rfl rfl hl.1 rfl (Nat.le_of_ble_eq_true rfl) dX12_sum_7 ⟨Nat.le_of_ble_eq_true rfl, Nat.le_of_ble_eq_true rfl⟩) hS (fun H locs hP hS => ?_)
  refine lv_if_ne (tgt := 17) hx hb dX12_sum_10 (by decide) (fun z3 => ?_) (fun z3 => ?_)
  · have h := ob_f h z3
    refine lv_aload_n hx hb dX12_sum_17 rfl (lv_at hl 0 rfl) ?_
    obtain ⟨r4, hr4, h⟩ := ob_bd h
    refine n_Vw (kV (As := []) C0 (c_X12_day l hr4) ⟨wd_1539, wd_1536, wd_1538, wp_43, wd_6⟩ kd_X12_day ⟨Nat.le_of_ble_eq_true rfl, Nat.le_of_ble_eq_true rfl⟩ hP (lay_X12 B ct S1) rfl rfl hl.1 rfl (Nat.le_of_ble_eq_true rfl) dX12_sum_18 ⟨Nat.le_of_ble_eq_true rfl, Nat.le_of_ble_eq_true rfl⟩) hS (fun H locs hP hS => ?_)
    refine lv_aload_n hx hb dX12_sum_21 rfl (lv_at hl 0 rfl) ?_
    refine x_get C0 hP (lay_X12 B ct r4) rfl inG12 33 (by decide) wd_1174 (fun _ h => h) rfl dX12_sum_22 ?_
    refine lv_iload_n hx hb dX12_sum_25 rfl (lv_at hl 1 rfl) ?_
    obtain ⟨g5, h⟩ := ob_gd h
    refine x_iald C0 hP ((fun S => lay_161 B ct S) r4) g5 dX12_sum_26 ?_
    exact r_Iw C0 hP hS h dX12_sum_27
  · have h := ob_t h z3
    refine lv_ldcw (v := (-1000000001)) hx hb hown (hts _ wd_1465) dX12_sum_13 ?_
    exact r_Iw C0 hP hS h dX12_sum_16
set_option maxRecDepth 100000 in
set_option maxHeartbeats 4000000 in
theorem c_X12_sum (l : Launch) (a1 : Int32) {D : va_G} {ct : Nat → ClassId} {B : Nat} {Hb : Heap} {S : St} {V : Int32 × St} (h : L_X12_sum a1 S = some V) : Met l yX12_sum (Cond.code yX12_sum cX12_sum 2 (some .int) :: tG) { frames := 7, cells := 0, slots := 0, locals := 160 } (va_Pc [.ref (B + 136), .int a1] (MPK D ct B Hb S)) (qIw D ct B Hb V) 0 0 (AB B) := by
  refine mk_met (by decide +kernel) (Nat.le_of_ble_eq_true rfl) (fun p e s m args below meth c ls C0 hP hl _ => ?_)
  have h := ob_of h
  exact w_X12_sum_0 l C0 a1 S h hP va_S.rf (lv_sub hl [0, 1] rfl)
set_option maxRecDepth 100000 in
set_option maxHeartbeats 4000000 in
theorem w_X12_chose_28 (l : Launch) {V : Int32} (C0 : XC D ct p s m args meth c cX12_chose 4 (some .int) RX12) (v1 : Int32) (v3 : Int32) (s0 : Int32) (s1 : Int32) (S : St) (n0 : Nat) (ih0 : ∀ (v1 : Int32) (v2 : Int32) (v3 : Int32) (H : Heap) (locs : List Loc) (ls : Array Slot), (lp n0 (l_X12_chose_4 S) (v1, v2, v3)).bind some = some V → MP D ct B Hb S H → va_S (AB B) s.heap H locs → lv_has ls 4 [(0, .ref (B + 136)), (1, .int v1), (2, .int v2), (3, .int v3)] → W p l e { frames := 0, cells := 0, slots := 0, locals := 0 } s m args below meth c H locs 0 0 (MQ below (qI D ct B Hb S V) args s 0 0 (AB B)) (F0 m 4 ls [])) {H : Heap} {locs : List Loc} {ls : Array Slot} (h : (b_X12_chose_28 v1 v3 s0 s1 S).bind (lpF n0 (l_X12_chose_4 S) some) = some V) (hP : MP D ct B Hb S H) (hS : va_S (AB B) s.heap H locs) (hl : lv_has ls 4 [(0, .ref (B + 136)), (1, .int v1), (3, .int v3)]) : W p l e { frames := 0, cells := 0, slots := 0, locals := 0 } s m args below meth c H locs 0 0 (MQ below (qI D ct B Hb S V) args s 0 0 (AB B)) (F0 m 28 ls [.int s0, .int s1]) := by
  obtain ⟨hx, hb, hr, hml, hown, hts, hK, hlocks, hN⟩ := id C0
  unfold b_X12_chose_28 at h
  refine lv_iadd hx hb dX12_chose_28 ?_
  refine lv_istore_n (lv' := [(2, .int (s1 + s0)), (0, .ref (B + 136)), (1, .int v1), (3, .int v3)]) hx hb dX12_chose_29 rfl hl (by decide) rfl (fun ls hl => ?_)
  refine lv_iinc (v := v3 + 1) (lv' := [(3, .int (v3 + 1)), (2, .int (s1 + s0)), (0, .ref (B + 136)), (1, .int v1)]) hx hb dX12_chose_30 hl (k := 3) rfl rfl (by decide) rfl (fun ls hl => ?_)
  refine lv_goto (tgt := 4) hx hb dX12_chose_33 (by decide) ?_
  exact ih0 v1 (s1 + s0) (v3 + 1) _ _ _ h hP hS (lv_sub hl [2, 3, 1, 0] rfl)
set_option maxRecDepth 100000 in
set_option maxHeartbeats 4000000 in
theorem w_X12_chose_4 (l : Launch) {V : Int32} (C0 : XC D ct p s m args meth c cX12_chose 4 (some .int) RX12) (v1 : Int32) (v2 : Int32) (v3 : Int32) (S : St) (n0 : Nat) (ih0 : ∀ (v1 : Int32) (v2 : Int32) (v3 : Int32) (H : Heap) (locs : List Loc) (ls : Array Slot), (lp n0 (l_X12_chose_4 S) (v1, v2, v3)).bind some = some V → MP D ct B Hb S H → va_S (AB B) s.heap H locs → lv_has ls 4 [(0, .ref (B + 136)), (1, .int v1), (2, .int v2), (3, .int v3)] → W p l e { frames := 0, cells := 0, slots := 0, locals := 0 } s m args below meth c H locs 0 0 (MQ below (qI D ct B Hb S V) args s 0 0 (AB B)) (F0 m 4 ls [])) {H : Heap} {locs : List Loc} {ls : Array Slot} (h : (b_X12_chose_4 v1 v2 v3 S).bind (lpF n0 (l_X12_chose_4 S) some) = some V) (hP : MP D ct B Hb S H) (hS : va_S (AB B) s.heap H locs) (hl : lv_has ls 4 [(0, .ref (B + 136)), (1, .int v1), (2, .int v2), (3, .int v3)]) : W p l e { frames := 0, cells := 0, slots := 0, locals := 0 } s m args below meth c H locs 0 0 (MQ below (qI D ct B Hb S V) args s 0 0 (AB B)) (F0 m 4 ls []) := by
  obtain ⟨hx, hb, hr, hml, hown, hts, hK, hlocks, hN⟩ := id C0
  unfold b_X12_chose_4 at h
  refine lv_iload_n hx hb dX12_chose_4 rfl (lv_at hl 3 rfl) ?_
  refine lv_aload_n hx hb dX12_chose_5 rfl (lv_at hl 0 rfl) ?_
  refine x_get C0 hP (lay_X12 B ct S) rfl inG12 15 (by decide) wd_1156 (fun _ h => h) rfl dX12_chose_6 ?_
  refine lv_icmp_ge (tgt := 36) hx hb dX12_chose_9 (by decide) (fun z1 => ?_) (fun z1 => ?_)
  · have h := ob_t h z1
    refine lv_iload_n hx hb dX12_chose_36 rfl (lv_at hl 2 rfl) ?_
    exact r_I C0 hP hS h dX12_chose_37
  · have h := ob_f h z1
    refine lv_iload_n hx hb dX12_chose_12 rfl (lv_at hl 2 rfl) ?_
    refine lv_aload_n hx hb dX12_chose_13 rfl (lv_at hl 0 rfl) ?_
    refine x_get C0 hP (lay_X12 B ct S) rfl inG12 32 (by decide) wd_1173 (fun _ h => h) rfl dX12_chose_14 ?_
    refine lv_iload_n hx hb dX12_chose_17 rfl (lv_at hl 3 rfl) ?_
    obtain ⟨g2, h⟩ := ob_gd h
    refine x_iald C0 hP ((fun S => lay_160 B ct S) S) g2 dX12_chose_18 ?_
    refine lv_iload_n hx hb dX12_chose_19 rfl (lv_at hl 1 rfl) ?_
    refine lv_icmp_ne (tgt := 27) hx hb dX12_chose_20 (by decide) (fun z3 => ?_) (fun z3 => ?_)
    · have h := ob_f h z3
      refine lv_iconst (v := 0) hx hb dX12_chose_27 (by decide) ?_
      exact w_X12_chose_28 l C0 v1 v3 0 v2 S n0 ih0 h hP hS (lv_sub hl [0, 1, 3] rfl)
    · have h := ob_t h z3
      refine lv_iconst (v := 1) hx hb dX12_chose_23 (by decide) ?_
      refine lv_goto (tgt := 28) hx hb dX12_chose_24 (by decide) ?_
      exact w_X12_chose_28 l C0 v1 v3 1 v2 S n0 ih0 h hP hS (lv_sub hl [0, 1, 3] rfl)
set_option maxRecDepth 100000 in
set_option maxHeartbeats 4000000 in
theorem wl_X12_chose_4 (l : Launch) {V : Int32} (C0 : XC D ct p s m args meth c cX12_chose 4 (some .int) RX12) (S : St)  : ∀ (n0 : Nat) (v1 : Int32) (v2 : Int32) (v3 : Int32) {H : Heap} {locs : List Loc} {ls : Array Slot}, (lp n0 (l_X12_chose_4 S) (v1, v2, v3)).bind some = some V → MP D ct B Hb S H → va_S (AB B) s.heap H locs → lv_has ls 4 [(0, .ref (B + 136)), (1, .int v1), (2, .int v2), (3, .int v3)] → W p l e { frames := 0, cells := 0, slots := 0, locals := 0 } s m args below meth c H locs 0 0 (MQ below (qI D ct B Hb S V) args s 0 0 (AB B)) (F0 m 4 ls []) := by
  intro n0
  induction n0 with
  | zero =>
    intro v1 v2 v3 H locs ls h hP hS hl
    exact (lp_0 h).elim
  | succ n0 ih0 =>
    intro v1 v2 v3 H locs ls h hP hS hl
    have h := lp_s h
    exact w_X12_chose_4 l C0 v1 v2 v3 S n0 (fun v1 v2 v3 H locs ls h hP hS hl => ih0 v1 v2 v3 h hP hS hl) h hP hS hl
set_option maxRecDepth 100000 in
set_option maxHeartbeats 4000000 in
theorem w_X12_chose_0 (l : Launch) {V : Int32} (C0 : XC D ct p s m args meth c cX12_chose 4 (some .int) RX12) (v1 : Int32) (S : St) {H : Heap} {locs : List Loc} {ls : Array Slot} (h : (b_X12_chose_0 v1 S).bind some = some V) (hP : MP D ct B Hb S H) (hS : va_S (AB B) s.heap H locs) (hl : lv_has ls 4 [(0, .ref (B + 136)), (1, .int v1)]) : W p l e { frames := 0, cells := 0, slots := 0, locals := 0 } s m args below meth c H locs 0 0 (MQ below (qI D ct B Hb S V) args s 0 0 (AB B)) (F0 m 0 ls []) := by
  obtain ⟨hx, hb, hr, hml, hown, hts, hK, hlocks, hN⟩ := id C0
  unfold b_X12_chose_0 at h
  refine lv_iconst (v := 0) hx hb dX12_chose_0 (by decide) ?_
  refine lv_istore_n (lv' := [(2, .int 0), (0, .ref (B + 136)), (1, .int v1)]) hx hb dX12_chose_1 rfl hl (by decide) rfl (fun ls hl => ?_)
  refine lv_iconst (v := 0) hx hb dX12_chose_2 (by decide) ?_
  refine lv_istore_n (lv' := [(3, .int 0), (2, .int 0), (0, .ref (B + 136)), (1, .int v1)]) hx hb dX12_chose_3 rfl hl (by decide) rfl (fun ls hl => ?_)
  exact wl_X12_chose_4 l C0 S 1000 v1 0 0 h hP hS (lv_sub hl [2, 3, 1, 0] rfl)
set_option maxRecDepth 100000 in
set_option maxHeartbeats 4000000 in
theorem c_X12_chose (l : Launch) (a1 : Int32) {D : va_G} {ct : Nat → ClassId} {B : Nat} {Hb : Heap} {S : St} {V : Int32} (h : L_X12_chose a1 S = some V) : Met l yX12_chose (Cond.code yX12_chose cX12_chose 4 (some .int) :: tG) { frames := 0, cells := 0, slots := 0, locals := 0 } (va_Pc [.ref (B + 136), .int a1] (MPK D ct B Hb S)) (qI D ct B Hb S V) 0 0 (AB B) := by
  refine mk_met (by decide +kernel) (Nat.le_of_ble_eq_true rfl) (fun p e s m args below meth c ls C0 hP hl _ => ?_)
  have h := ob_of h
  exact w_X12_chose_0 l C0 a1 S h hP va_S.rf (lv_sub hl [0, 1] rfl)
set_option maxRecDepth 100000 in
set_option maxHeartbeats 4000000 in
theorem w_X12_soldMany_27 (l : Launch) {V : Int32} (C0 : XC D ct p s m args meth c cX12_soldMany 3 (some .int) RX12) (v2 : Int32) (s0 : Int32) (s1 : Int32) (S : St) (n0 : Nat) (ih0 : ∀ (v1 : Int32) (v2 : Int32) (H : Heap) (locs : List Loc) (ls : Array Slot), (lp n0 (l_X12_soldMany_4 S) (v1, v2)).bind some = some V → MP D ct B Hb S H → va_S (AB B) s.heap H locs → lv_has ls 3 [(0, .ref (B + 136)), (1, .int v1), (2, .int v2)] → W p l e { frames := 0, cells := 0, slots := 0, locals := 0 } s m args below meth c H locs 0 0 (MQ below (qI D ct B Hb S V) args s 0 0 (AB B)) (F0 m 4 ls [])) {H : Heap} {locs : List Loc} {ls : Array Slot} (h : (b_X12_soldMany_27 v2 s0 s1 S).bind (lpF n0 (l_X12_soldMany_4 S) some) = some V) (hP : MP D ct B Hb S H) (hS : va_S (AB B) s.heap H locs) (hl : lv_has ls 3 [(0, .ref (B + 136)), (2, .int v2)]) : W p l e { frames := 0, cells := 0, slots := 0, locals := 0 } s m args below meth c H locs 0 0 (MQ below (qI D ct B Hb S V) args s 0 0 (AB B)) (F0 m 27 ls [.int s0, .int s1]) := by
  obtain ⟨hx, hb, hr, hml, hown, hts, hK, hlocks, hN⟩ := id C0
  unfold b_X12_soldMany_27 at h
  refine lv_iadd hx hb dX12_soldMany_27 ?_
  refine lv_istore_n (lv' := [(1, .int (s1 + s0)), (0, .ref (B + 136)), (2, .int v2)]) hx hb dX12_soldMany_28 rfl hl (by decide) rfl (fun ls hl => ?_)
  refine lv_iinc (v := v2 + 1) (lv' := [(2, .int (v2 + 1)), (1, .int (s1 + s0)), (0, .ref (B + 136))]) hx hb dX12_soldMany_29 hl (k := 2) rfl rfl (by decide) rfl (fun ls hl => ?_)
  refine lv_goto (tgt := 4) hx hb dX12_soldMany_32 (by decide) ?_
  exact ih0 (s1 + s0) (v2 + 1) _ _ _ h hP hS (lv_sub hl [2, 1, 0] rfl)
set_option maxRecDepth 100000 in
set_option maxHeartbeats 4000000 in
theorem w_X12_soldMany_4 (l : Launch) {V : Int32} (C0 : XC D ct p s m args meth c cX12_soldMany 3 (some .int) RX12) (v1 : Int32) (v2 : Int32) (S : St) (n0 : Nat) (ih0 : ∀ (v1 : Int32) (v2 : Int32) (H : Heap) (locs : List Loc) (ls : Array Slot), (lp n0 (l_X12_soldMany_4 S) (v1, v2)).bind some = some V → MP D ct B Hb S H → va_S (AB B) s.heap H locs → lv_has ls 3 [(0, .ref (B + 136)), (1, .int v1), (2, .int v2)] → W p l e { frames := 0, cells := 0, slots := 0, locals := 0 } s m args below meth c H locs 0 0 (MQ below (qI D ct B Hb S V) args s 0 0 (AB B)) (F0 m 4 ls [])) {H : Heap} {locs : List Loc} {ls : Array Slot} (h : (b_X12_soldMany_4 v1 v2 S).bind (lpF n0 (l_X12_soldMany_4 S) some) = some V) (hP : MP D ct B Hb S H) (hS : va_S (AB B) s.heap H locs) (hl : lv_has ls 3 [(0, .ref (B + 136)), (1, .int v1), (2, .int v2)]) : W p l e { frames := 0, cells := 0, slots := 0, locals := 0 } s m args below meth c H locs 0 0 (MQ below (qI D ct B Hb S V) args s 0 0 (AB B)) (F0 m 4 ls []) := by
  obtain ⟨hx, hb, hr, hml, hown, hts, hK, hlocks, hN⟩ := id C0
  unfold b_X12_soldMany_4 at h
  refine lv_iload_n hx hb dX12_soldMany_4 rfl (lv_at hl 2 rfl) ?_
  refine lv_aload_n hx hb dX12_soldMany_5 rfl (lv_at hl 0 rfl) ?_
  refine x_get C0 hP (lay_X12 B ct S) rfl inG12 15 (by decide) wd_1156 (fun _ h => h) rfl dX12_soldMany_6 ?_
  refine lv_icmp_ge (tgt := 35) hx hb dX12_soldMany_9 (by decide) (fun z1 => ?_) (fun z1 => ?_)
  · have h := ob_t h z1
    refine lv_iload_n hx hb dX12_soldMany_35 rfl (lv_at hl 1 rfl) ?_
    exact r_I C0 hP hS h dX12_soldMany_36
  · have h := ob_f h z1
    refine lv_iload_n hx hb dX12_soldMany_12 rfl (lv_at hl 1 rfl) ?_
    refine lv_aload_n hx hb dX12_soldMany_13 rfl (lv_at hl 0 rfl) ?_
    refine x_get C0 hP (lay_X12 B ct S) rfl inG12 34 (by decide) wd_1175 (fun _ h => h) rfl dX12_soldMany_14 ?_
    refine lv_iload_n hx hb dX12_soldMany_17 rfl (lv_at hl 2 rfl) ?_
    obtain ⟨g2, h⟩ := ob_gd h
    refine x_iald C0 hP ((fun S => lay_162 B ct S) S) g2 dX12_soldMany_18 ?_
    refine lv_if_lt (tgt := 26) hx hb dX12_soldMany_19 (by decide) (fun z3 => ?_) (fun z3 => ?_)
    · have h := ob_t h z3
      refine lv_iconst (v := 0) hx hb dX12_soldMany_26 (by decide) ?_
      exact w_X12_soldMany_27 l C0 v2 0 v1 S n0 ih0 h hP hS (lv_sub hl [0, 2] rfl)
    · have h := ob_f h z3
      refine lv_iconst (v := 1) hx hb dX12_soldMany_22 (by decide) ?_
      refine lv_goto (tgt := 27) hx hb dX12_soldMany_23 (by decide) ?_
      exact w_X12_soldMany_27 l C0 v2 1 v1 S n0 ih0 h hP hS (lv_sub hl [0, 2] rfl)
set_option maxRecDepth 100000 in
set_option maxHeartbeats 4000000 in
theorem wl_X12_soldMany_4 (l : Launch) {V : Int32} (C0 : XC D ct p s m args meth c cX12_soldMany 3 (some .int) RX12) (S : St)  : ∀ (n0 : Nat) (v1 : Int32) (v2 : Int32) {H : Heap} {locs : List Loc} {ls : Array Slot}, (lp n0 (l_X12_soldMany_4 S) (v1, v2)).bind some = some V → MP D ct B Hb S H → va_S (AB B) s.heap H locs → lv_has ls 3 [(0, .ref (B + 136)), (1, .int v1), (2, .int v2)] → W p l e { frames := 0, cells := 0, slots := 0, locals := 0 } s m args below meth c H locs 0 0 (MQ below (qI D ct B Hb S V) args s 0 0 (AB B)) (F0 m 4 ls []) := by
  intro n0
  induction n0 with
  | zero =>
    intro v1 v2 H locs ls h hP hS hl
    exact (lp_0 h).elim
  | succ n0 ih0 =>
    intro v1 v2 H locs ls h hP hS hl
    have h := lp_s h
    exact w_X12_soldMany_4 l C0 v1 v2 S n0 (fun v1 v2 H locs ls h hP hS hl => ih0 v1 v2 h hP hS hl) h hP hS hl
set_option maxRecDepth 100000 in
set_option maxHeartbeats 4000000 in
theorem w_X12_soldMany_0 (l : Launch) {V : Int32} (C0 : XC D ct p s m args meth c cX12_soldMany 3 (some .int) RX12) (S : St) {H : Heap} {locs : List Loc} {ls : Array Slot} (h : (b_X12_soldMany_0 S).bind some = some V) (hP : MP D ct B Hb S H) (hS : va_S (AB B) s.heap H locs) (hl : lv_has ls 3 [(0, .ref (B + 136))]) : W p l e { frames := 0, cells := 0, slots := 0, locals := 0 } s m args below meth c H locs 0 0 (MQ below (qI D ct B Hb S V) args s 0 0 (AB B)) (F0 m 0 ls []) := by
  obtain ⟨hx, hb, hr, hml, hown, hts, hK, hlocks, hN⟩ := id C0
  unfold b_X12_soldMany_0 at h
  refine lv_iconst (v := 0) hx hb dX12_soldMany_0 (by decide) ?_
  refine lv_istore_n (lv' := [(1, .int 0), (0, .ref (B + 136))]) hx hb dX12_soldMany_1 rfl hl (by decide) rfl (fun ls hl => ?_)
  refine lv_iconst (v := 0) hx hb dX12_soldMany_2 (by decide) ?_
  refine lv_istore_n (lv' := [(2, .int 0), (1, .int 0), (0, .ref (B + 136))]) hx hb dX12_soldMany_3 rfl hl (by decide) rfl (fun ls hl => ?_)
  exact wl_X12_soldMany_4 l C0 S 1000 0 0 h hP hS (lv_sub hl [2, 1, 0] rfl)
set_option maxRecDepth 100000 in
set_option maxHeartbeats 4000000 in
theorem c_X12_soldMany (l : Launch) {D : va_G} {ct : Nat → ClassId} {B : Nat} {Hb : Heap} {S : St} {V : Int32} (h : L_X12_soldMany S = some V) : Met l yX12_soldMany (Cond.code yX12_soldMany cX12_soldMany 3 (some .int) :: tG) { frames := 0, cells := 0, slots := 0, locals := 0 } (va_Pc [.ref (B + 136)] (MPK D ct B Hb S)) (qI D ct B Hb S V) 0 0 (AB B) := by
  refine mk_met (by decide +kernel) (Nat.le_of_ble_eq_true rfl) (fun p e s m args below meth c ls C0 hP hl _ => ?_)
  have h := ob_of h
  exact w_X12_soldMany_0 l C0 S h hP va_S.rf (lv_sub hl [0] rfl)
set_option maxRecDepth 100000 in
set_option maxHeartbeats 4000000 in
theorem w_X12_paidInAll_4 (l : Launch) {V : Int32} (C0 : XC D ct p s m args meth c cX12_paidInAll 3 (some .int) RX12) (v1 : Int32) (v2 : Int32) (S : St) (n0 : Nat) (ih0 : ∀ (v1 : Int32) (v2 : Int32) (H : Heap) (locs : List Loc) (ls : Array Slot), (lp n0 (l_X12_paidInAll_4 S) (v1, v2)).bind some = some V → MP D ct B Hb S H → va_S (AB B) s.heap H locs → lv_has ls 3 [(0, .ref (B + 136)), (1, .int v1), (2, .int v2)] → W p l e { frames := 0, cells := 0, slots := 0, locals := 0 } s m args below meth c H locs 0 0 (MQ below (qI D ct B Hb S V) args s 0 0 (AB B)) (F0 m 4 ls [])) {H : Heap} {locs : List Loc} {ls : Array Slot} (h : (b_X12_paidInAll_4 v1 v2 S).bind (lpF n0 (l_X12_paidInAll_4 S) some) = some V) (hP : MP D ct B Hb S H) (hS : va_S (AB B) s.heap H locs) (hl : lv_has ls 3 [(0, .ref (B + 136)), (1, .int v1), (2, .int v2)]) : W p l e { frames := 0, cells := 0, slots := 0, locals := 0 } s m args below meth c H locs 0 0 (MQ below (qI D ct B Hb S V) args s 0 0 (AB B)) (F0 m 4 ls []) := by
  obtain ⟨hx, hb, hr, hml, hown, hts, hK, hlocks, hN⟩ := id C0
  unfold b_X12_paidInAll_4 at h
  refine lv_iload_n hx hb dX12_paidInAll_4 rfl (lv_at hl 2 rfl) ?_
  refine lv_aload_n hx hb dX12_paidInAll_5 rfl (lv_at hl 0 rfl) ?_
  refine x_get C0 hP (lay_X12 B ct S) rfl inG12 15 (by decide) wd_1156 (fun _ h => h) rfl dX12_paidInAll_6 ?_
  refine lv_icmp_ge (tgt := 27) hx hb dX12_paidInAll_9 (by decide) (fun z1 => ?_) (fun z1 => ?_)
  · have h := ob_t h z1
    refine lv_iload_n hx hb dX12_paidInAll_27 rfl (lv_at hl 1 rfl) ?_
    exact r_I C0 hP hS h dX12_paidInAll_28
  · have h := ob_f h z1
    refine lv_iload_n hx hb dX12_paidInAll_12 rfl (lv_at hl 1 rfl) ?_
    refine lv_aload_n hx hb dX12_paidInAll_13 rfl (lv_at hl 0 rfl) ?_
    refine x_get C0 hP (lay_X12 B ct S) rfl inG12 35 (by decide) wd_1176 (fun _ h => h) rfl dX12_paidInAll_14 ?_
    refine lv_iload_n hx hb dX12_paidInAll_17 rfl (lv_at hl 2 rfl) ?_
    obtain ⟨g2, h⟩ := ob_gd h
    refine x_iald C0 hP ((fun S => lay_163 B ct S) S) g2 dX12_paidInAll_18 ?_
    refine lv_iadd hx hb dX12_paidInAll_19 ?_
    refine lv_istore_n (lv' := [(1, .int (v1 + (gi S 163 v2.toNatClampNeg))), (0, .ref (B + 136)), (2, .int v2)]) hx hb dX12_paidInAll_20 rfl hl (by decide) rfl (fun ls hl => ?_)
    refine lv_iinc (v := v2 + 1) (lv' := [(2, .int (v2 + 1)), (1, .int (v1 + (gi S 163 v2.toNatClampNeg))), (0, .ref (B + 136))]) hx hb dX12_paidInAll_21 hl (k := 2) rfl rfl (by decide) rfl (fun ls hl => ?_)
    refine lv_goto (tgt := 4) hx hb dX12_paidInAll_24 (by decide) ?_
    exact ih0 (v1 + (gi S 163 v2.toNatClampNeg)) (v2 + 1) _ _ _ h hP hS (lv_sub hl [2, 1, 0] rfl)
set_option maxRecDepth 100000 in
set_option maxHeartbeats 4000000 in
theorem wl_X12_paidInAll_4 (l : Launch) {V : Int32} (C0 : XC D ct p s m args meth c cX12_paidInAll 3 (some .int) RX12) (S : St)  : ∀ (n0 : Nat) (v1 : Int32) (v2 : Int32) {H : Heap} {locs : List Loc} {ls : Array Slot}, (lp n0 (l_X12_paidInAll_4 S) (v1, v2)).bind some = some V → MP D ct B Hb S H → va_S (AB B) s.heap H locs → lv_has ls 3 [(0, .ref (B + 136)), (1, .int v1), (2, .int v2)] → W p l e { frames := 0, cells := 0, slots := 0, locals := 0 } s m args below meth c H locs 0 0 (MQ below (qI D ct B Hb S V) args s 0 0 (AB B)) (F0 m 4 ls []) := by
  intro n0
  induction n0 with
  | zero =>
    intro v1 v2 H locs ls h hP hS hl
    exact (lp_0 h).elim
  | succ n0 ih0 =>
    intro v1 v2 H locs ls h hP hS hl
    have h := lp_s h
    exact w_X12_paidInAll_4 l C0 v1 v2 S n0 (fun v1 v2 H locs ls h hP hS hl => ih0 v1 v2 h hP hS hl) h hP hS hl
set_option maxRecDepth 100000 in
set_option maxHeartbeats 4000000 in
theorem w_X12_paidInAll_0 (l : Launch) {V : Int32} (C0 : XC D ct p s m args meth c cX12_paidInAll 3 (some .int) RX12) (S : St) {H : Heap} {locs : List Loc} {ls : Array Slot} (h : (b_X12_paidInAll_0 S).bind some = some V) (hP : MP D ct B Hb S H) (hS : va_S (AB B) s.heap H locs) (hl : lv_has ls 3 [(0, .ref (B + 136))]) : W p l e { frames := 0, cells := 0, slots := 0, locals := 0 } s m args below meth c H locs 0 0 (MQ below (qI D ct B Hb S V) args s 0 0 (AB B)) (F0 m 0 ls []) := by
  obtain ⟨hx, hb, hr, hml, hown, hts, hK, hlocks, hN⟩ := id C0
  unfold b_X12_paidInAll_0 at h
  refine lv_iconst (v := 0) hx hb dX12_paidInAll_0 (by decide) ?_
  refine lv_istore_n (lv' := [(1, .int 0), (0, .ref (B + 136))]) hx hb dX12_paidInAll_1 rfl hl (by decide) rfl (fun ls hl => ?_)
  refine lv_iconst (v := 0) hx hb dX12_paidInAll_2 (by decide) ?_
  refine lv_istore_n (lv' := [(2, .int 0), (1, .int 0), (0, .ref (B + 136))]) hx hb dX12_paidInAll_3 rfl hl (by decide) rfl (fun ls hl => ?_)
  exact wl_X12_paidInAll_4 l C0 S 1000 0 0 h hP hS (lv_sub hl [2, 1, 0] rfl)
set_option maxRecDepth 100000 in
set_option maxHeartbeats 4000000 in
theorem c_X12_paidInAll (l : Launch) {D : va_G} {ct : Nat → ClassId} {B : Nat} {Hb : Heap} {S : St} {V : Int32} (h : L_X12_paidInAll S = some V) : Met l yX12_paidInAll (Cond.code yX12_paidInAll cX12_paidInAll 3 (some .int) :: tG) { frames := 0, cells := 0, slots := 0, locals := 0 } (va_Pc [.ref (B + 136)] (MPK D ct B Hb S)) (qI D ct B Hb S V) 0 0 (AB B) := by
  refine mk_met (by decide +kernel) (Nat.le_of_ble_eq_true rfl) (fun p e s m args below meth c ls C0 hP hl _ => ?_)
  have h := ob_of h
  exact w_X12_paidInAll_0 l C0 S h hP va_S.rf (lv_sub hl [0] rfl)
set_option maxRecDepth 100000 in
set_option maxHeartbeats 4000000 in
theorem w_X12_regretMany_27 (l : Launch) {V : Int32} (C0 : XC D ct p s m args meth c cX12_regretMany 3 (some .int) RX12) (v2 : Int32) (s0 : Int32) (s1 : Int32) (S : St) (n0 : Nat) (ih0 : ∀ (v1 : Int32) (v2 : Int32) (H : Heap) (locs : List Loc) (ls : Array Slot), (lp n0 (l_X12_regretMany_4 S) (v1, v2)).bind some = some V → MP D ct B Hb S H → va_S (AB B) s.heap H locs → lv_has ls 3 [(0, .ref (B + 136)), (1, .int v1), (2, .int v2)] → W p l e { frames := 0, cells := 0, slots := 0, locals := 0 } s m args below meth c H locs 0 0 (MQ below (qI D ct B Hb S V) args s 0 0 (AB B)) (F0 m 4 ls [])) {H : Heap} {locs : List Loc} {ls : Array Slot} (h : (b_X12_regretMany_27 v2 s0 s1 S).bind (lpF n0 (l_X12_regretMany_4 S) some) = some V) (hP : MP D ct B Hb S H) (hS : va_S (AB B) s.heap H locs) (hl : lv_has ls 3 [(0, .ref (B + 136)), (2, .int v2)]) : W p l e { frames := 0, cells := 0, slots := 0, locals := 0 } s m args below meth c H locs 0 0 (MQ below (qI D ct B Hb S V) args s 0 0 (AB B)) (F0 m 27 ls [.int s0, .int s1]) := by
  obtain ⟨hx, hb, hr, hml, hown, hts, hK, hlocks, hN⟩ := id C0
  unfold b_X12_regretMany_27 at h
  refine lv_iadd hx hb dX12_regretMany_27 ?_
  refine lv_istore_n (lv' := [(1, .int (s1 + s0)), (0, .ref (B + 136)), (2, .int v2)]) hx hb dX12_regretMany_28 rfl hl (by decide) rfl (fun ls hl => ?_)
  refine lv_iinc (v := v2 + 1) (lv' := [(2, .int (v2 + 1)), (1, .int (s1 + s0)), (0, .ref (B + 136))]) hx hb dX12_regretMany_29 hl (k := 2) rfl rfl (by decide) rfl (fun ls hl => ?_)
  refine lv_goto (tgt := 4) hx hb dX12_regretMany_32 (by decide) ?_
  exact ih0 (s1 + s0) (v2 + 1) _ _ _ h hP hS (lv_sub hl [2, 1, 0] rfl)
set_option maxRecDepth 100000 in
set_option maxHeartbeats 4000000 in
theorem w_X12_regretMany_4 (l : Launch) {V : Int32} (C0 : XC D ct p s m args meth c cX12_regretMany 3 (some .int) RX12) (v1 : Int32) (v2 : Int32) (S : St) (n0 : Nat) (ih0 : ∀ (v1 : Int32) (v2 : Int32) (H : Heap) (locs : List Loc) (ls : Array Slot), (lp n0 (l_X12_regretMany_4 S) (v1, v2)).bind some = some V → MP D ct B Hb S H → va_S (AB B) s.heap H locs → lv_has ls 3 [(0, .ref (B + 136)), (1, .int v1), (2, .int v2)] → W p l e { frames := 0, cells := 0, slots := 0, locals := 0 } s m args below meth c H locs 0 0 (MQ below (qI D ct B Hb S V) args s 0 0 (AB B)) (F0 m 4 ls [])) {H : Heap} {locs : List Loc} {ls : Array Slot} (h : (b_X12_regretMany_4 v1 v2 S).bind (lpF n0 (l_X12_regretMany_4 S) some) = some V) (hP : MP D ct B Hb S H) (hS : va_S (AB B) s.heap H locs) (hl : lv_has ls 3 [(0, .ref (B + 136)), (1, .int v1), (2, .int v2)]) : W p l e { frames := 0, cells := 0, slots := 0, locals := 0 } s m args below meth c H locs 0 0 (MQ below (qI D ct B Hb S V) args s 0 0 (AB B)) (F0 m 4 ls []) := by
  obtain ⟨hx, hb, hr, hml, hown, hts, hK, hlocks, hN⟩ := id C0
  unfold b_X12_regretMany_4 at h
  refine lv_iload_n hx hb dX12_regretMany_4 rfl (lv_at hl 2 rfl) ?_
  refine lv_aload_n hx hb dX12_regretMany_5 rfl (lv_at hl 0 rfl) ?_
  refine x_get C0 hP (lay_X12 B ct S) rfl inG12 15 (by decide) wd_1156 (fun _ h => h) rfl dX12_regretMany_6 ?_
  refine lv_icmp_ge (tgt := 35) hx hb dX12_regretMany_9 (by decide) (fun z1 => ?_) (fun z1 => ?_)
  · have h := ob_t h z1
    refine lv_iload_n hx hb dX12_regretMany_35 rfl (lv_at hl 1 rfl) ?_
    exact r_I C0 hP hS h dX12_regretMany_36
  · have h := ob_f h z1
    refine lv_iload_n hx hb dX12_regretMany_12 rfl (lv_at hl 1 rfl) ?_
    refine lv_aload_n hx hb dX12_regretMany_13 rfl (lv_at hl 0 rfl) ?_
    refine x_get C0 hP (lay_X12 B ct S) rfl inG12 37 (by decide) wd_1178 (fun _ h => h) rfl dX12_regretMany_14 ?_
    refine lv_iload_n hx hb dX12_regretMany_17 rfl (lv_at hl 2 rfl) ?_
    obtain ⟨g2, h⟩ := ob_gd h
    refine x_zald C0 hP ((fun S => lay_165 B ct S) S) g2 dX12_regretMany_18 ?_
    refine lv_if_eq (tgt := 26) hx hb dX12_regretMany_19 (by decide) (fun z3 => ?_) (fun z3 => ?_)
    · have h := ob_t h z3
      refine lv_iconst (v := 0) hx hb dX12_regretMany_26 (by decide) ?_
      exact w_X12_regretMany_27 l C0 v2 0 v1 S n0 ih0 h hP hS (lv_sub hl [0, 2] rfl)
    · have h := ob_f h z3
      refine lv_iconst (v := 1) hx hb dX12_regretMany_22 (by decide) ?_
      refine lv_goto (tgt := 27) hx hb dX12_regretMany_23 (by decide) ?_
      exact w_X12_regretMany_27 l C0 v2 1 v1 S n0 ih0 h hP hS (lv_sub hl [0, 2] rfl)
set_option maxRecDepth 100000 in
set_option maxHeartbeats 4000000 in
theorem wl_X12_regretMany_4 (l : Launch) {V : Int32} (C0 : XC D ct p s m args meth c cX12_regretMany 3 (some .int) RX12) (S : St)  : ∀ (n0 : Nat) (v1 : Int32) (v2 : Int32) {H : Heap} {locs : List Loc} {ls : Array Slot}, (lp n0 (l_X12_regretMany_4 S) (v1, v2)).bind some = some V → MP D ct B Hb S H → va_S (AB B) s.heap H locs → lv_has ls 3 [(0, .ref (B + 136)), (1, .int v1), (2, .int v2)] → W p l e { frames := 0, cells := 0, slots := 0, locals := 0 } s m args below meth c H locs 0 0 (MQ below (qI D ct B Hb S V) args s 0 0 (AB B)) (F0 m 4 ls []) := by
  intro n0
  induction n0 with
  | zero =>
    intro v1 v2 H locs ls h hP hS hl
    exact (lp_0 h).elim
  | succ n0 ih0 =>
    intro v1 v2 H locs ls h hP hS hl
    have h := lp_s h
    exact w_X12_regretMany_4 l C0 v1 v2 S n0 (fun v1 v2 H locs ls h hP hS hl => ih0 v1 v2 h hP hS hl) h hP hS hl
set_option maxRecDepth 100000 in
set_option maxHeartbeats 4000000 in
theorem w_X12_regretMany_0 (l : Launch) {V : Int32} (C0 : XC D ct p s m args meth c cX12_regretMany 3 (some .int) RX12) (S : St) {H : Heap} {locs : List Loc} {ls : Array Slot} (h : (b_X12_regretMany_0 S).bind some = some V) (hP : MP D ct B Hb S H) (hS : va_S (AB B) s.heap H locs) (hl : lv_has ls 3 [(0, .ref (B + 136))]) : W p l e { frames := 0, cells := 0, slots := 0, locals := 0 } s m args below meth c H locs 0 0 (MQ below (qI D ct B Hb S V) args s 0 0 (AB B)) (F0 m 0 ls []) := by
  obtain ⟨hx, hb, hr, hml, hown, hts, hK, hlocks, hN⟩ := id C0
  unfold b_X12_regretMany_0 at h
  refine lv_iconst (v := 0) hx hb dX12_regretMany_0 (by decide) ?_
  refine lv_istore_n (lv' := [(1, .int 0), (0, .ref (B + 136))]) hx hb dX12_regretMany_1 rfl hl (by decide) rfl (fun ls hl => ?_)
  refine lv_iconst (v := 0) hx hb dX12_regretMany_2 (by decide) ?_
  refine lv_istore_n (lv' := [(2, .int 0), (1, .int 0), (0, .ref (B + 136))]) hx hb dX12_regretMany_3 rfl hl (by decide) rfl (fun ls hl => ?_)
  exact wl_X12_regretMany_4 l C0 S 1000 0 0 h hP hS (lv_sub hl [2, 1, 0] rfl)
set_option maxRecDepth 100000 in
set_option maxHeartbeats 4000000 in
theorem c_X12_regretMany (l : Launch) {D : va_G} {ct : Nat → ClassId} {B : Nat} {Hb : Heap} {S : St} {V : Int32} (h : L_X12_regretMany S = some V) : Met l yX12_regretMany (Cond.code yX12_regretMany cX12_regretMany 3 (some .int) :: tG) { frames := 0, cells := 0, slots := 0, locals := 0 } (va_Pc [.ref (B + 136)] (MPK D ct B Hb S)) (qI D ct B Hb S V) 0 0 (AB B) := by
  refine mk_met (by decide +kernel) (Nat.le_of_ble_eq_true rfl) (fun p e s m args below meth c ls C0 hP hl _ => ?_)
  have h := ob_of h
  exact w_X12_regretMany_0 l C0 S h hP va_S.rf (lv_sub hl [0] rfl)
set_option maxRecDepth 100000 in
set_option maxHeartbeats 4000000 in
theorem w_X12_sums_0 (l : Launch) {V : Int32 × St} (C0 : XC D ct p s m args meth c cX12_sums 2 (some .int) RX12) (v1 : Int32) (S : St) {H : Heap} {locs : List Loc} {ls : Array Slot} (h : (b_X12_sums_0 v1 S).bind some = some V) (hP : MP D ct B Hb S H) (hS : va_S (AB B) s.heap H locs) (hl : lv_has ls 2 [(0, .ref (B + 136)), (1, .int v1)]) : W p l e { frames := 7, cells := 0, slots := 0, locals := 160 } s m args below meth c H locs 0 0 (MQ below (qIw D ct B Hb V) args s 0 0 (AB B)) (F0 m 0 ls []) := by
  obtain ⟨hx, hb, hr, hml, hown, hts, hK, hlocks, hN⟩ := id C0
  unfold b_X12_sums_0 at h
  refine lv_aload_n hx hb dX12_sums_0 rfl (lv_at hl 0 rfl) ?_
  refine lv_iconst (v := 0) hx hb dX12_sums_1 (by decide) ?_
  obtain ⟨S1, eS1, h⟩ := ob_nm h
  refine x_put (S' := si S 136 28 0) (FS := (fs12 B)) C0 hP hS (fun S => lay_X12 B ct S) rfl inG12 tyX12 tyX12_ok nmX12 28 (by decide) wd_1169 rfl rfl (fun a ha => lay_local (gi_si_n _ _ _ ha) rfl rfl rfl) (put_12_28 B _ _) rfl rfl (Nat.le_of_ble_eq_true rfl) dX12_sums_2 (fun H locs hP hS => ?_)
  rw [← eS1] at hP
  refine lv_aload_n hx hb dX12_sums_5 rfl (lv_at hl 0 rfl) ?_
  obtain ⟨r2, hr2, h⟩ := ob_bd h
  refine n_Vw (kV (As := []) C0 (c_X12_day l hr2) ⟨wd_1539, wd_1536, wd_1538, wp_43, wd_6⟩ kd_X12_day ⟨Nat.le_of_ble_eq_true rfl, Nat.le_of_ble_eq_true rfl⟩ hP (lay_X12 B ct S1) rfl rfl hl.1 rfl (Nat.le_of_ble_eq_true rfl) dX12_sums_6 ⟨Nat.le_of_ble_eq_true rfl, Nat.le_of_ble_eq_true rfl⟩) hS (fun H locs hP hS => ?_)
  refine lv_iload_n hx hb dX12_sums_9 rfl (lv_at hl 1 rfl) ?_
  rcases Decidable.em ((v1 : Int32) = 0) with z3 | z3
  · have h := ob_t h z3
    refine lv_tableIn (x := v1) (off := 38) (tgt := 48) hx hb dX12_sums_10 (by rw [z3]; decide) (by rw [z3]; decide) (by rw [z3]; decide) (by decide) ?_
    refine lv_aload_n hx hb dX12_sums_48 rfl (lv_at hl 0 rfl) ?_
    refine lv_iconst (v := 1) hx hb dX12_sums_49 (by decide) ?_
    obtain ⟨r4, hr4, h⟩ := ob_bd h
    refine n_I (kV (As := [.int 1]) C0 (c_X12_chose l 1 hr4) ⟨wd_1597, wd_1594, wd_1596, wp_54, wd_6⟩ kd_X12_chose ⟨Nat.le_of_ble_eq_true rfl, Nat.le_of_ble_eq_true rfl⟩ hP (lay_X12 B ct r2) rfl rfl hl.1 rfl (Nat.le_of_ble_eq_true rfl) dX12_sums_50 ⟨Nat.le_of_ble_eq_true rfl, Nat.le_of_ble_eq_true rfl⟩) hS (fun H locs hP hS => ?_)
    exact r_Iw C0 hP hS h dX12_sums_53
  · have h := ob_f h z3
    rcases Decidable.em ((v1 : Int32) = 1) with z5 | z5
    · have h := ob_t h z5
      refine lv_tableIn (x := v1) (off := 44) (tgt := 54) hx hb dX12_sums_10 (by rw [z5]; decide) (by rw [z5]; decide) (by rw [z5]; decide) (by decide) ?_
      refine lv_aload_n hx hb dX12_sums_54 rfl (lv_at hl 0 rfl) ?_
      refine lv_iconst (v := (-1)) hx hb dX12_sums_55 (by decide) ?_
      obtain ⟨r6, hr6, h⟩ := ob_bd h
      refine n_I (kV (As := [.int ((-1))]) C0 (c_X12_chose l ((-1)) hr6) ⟨wd_1597, wd_1594, wd_1596, wp_54, wd_6⟩ kd_X12_chose ⟨Nat.le_of_ble_eq_true rfl, Nat.le_of_ble_eq_true rfl⟩ hP (lay_X12 B ct r2) rfl rfl hl.1 rfl (Nat.le_of_ble_eq_true rfl) dX12_sums_56 ⟨Nat.le_of_ble_eq_true rfl, Nat.le_of_ble_eq_true rfl⟩) hS (fun H locs hP hS => ?_)
      exact r_Iw C0 hP hS h dX12_sums_59
    · have h := ob_f h z5
      rcases Decidable.em ((v1 : Int32) = 2) with z7 | z7
      · have h := ob_t h z7
        refine lv_tableIn (x := v1) (off := 50) (tgt := 60) hx hb dX12_sums_10 (by rw [z7]; decide) (by rw [z7]; decide) (by rw [z7]; decide) (by decide) ?_
        refine lv_aload_n hx hb dX12_sums_60 rfl (lv_at hl 0 rfl) ?_
        refine lv_iconst (v := 0) hx hb dX12_sums_61 (by decide) ?_
        obtain ⟨r8, hr8, h⟩ := ob_bd h
        refine n_I (kV (As := [.int 0]) C0 (c_X12_chose l 0 hr8) ⟨wd_1597, wd_1594, wd_1596, wp_54, wd_6⟩ kd_X12_chose ⟨Nat.le_of_ble_eq_true rfl, Nat.le_of_ble_eq_true rfl⟩ hP (lay_X12 B ct r2) rfl rfl hl.1 rfl (Nat.le_of_ble_eq_true rfl) dX12_sums_62 ⟨Nat.le_of_ble_eq_true rfl, Nat.le_of_ble_eq_true rfl⟩) hS (fun H locs hP hS => ?_)
        exact r_Iw C0 hP hS h dX12_sums_65
      · have h := ob_f h z7
        rcases Decidable.em ((v1 : Int32) = 3) with z9 | z9
        · have h := ob_t h z9
          refine lv_tableIn (x := v1) (off := 56) (tgt := 66) hx hb dX12_sums_10 (by rw [z9]; decide) (by rw [z9]; decide) (by rw [z9]; decide) (by decide) ?_
          refine lv_aload_n hx hb dX12_sums_66 rfl (lv_at hl 0 rfl) ?_
          obtain ⟨r10, hr10, h⟩ := ob_bd h
          refine n_I (kV (As := []) C0 (c_X12_soldMany l hr10) ⟨wd_1601, wd_1598, wd_1600, wp_55, wd_6⟩ kd_X12_soldMany ⟨Nat.le_of_ble_eq_true rfl, Nat.le_of_ble_eq_true rfl⟩ hP (lay_X12 B ct r2) rfl rfl hl.1 rfl (Nat.le_of_ble_eq_true rfl) dX12_sums_67 ⟨Nat.le_of_ble_eq_true rfl, Nat.le_of_ble_eq_true rfl⟩) hS (fun H locs hP hS => ?_)
          exact r_Iw C0 hP hS h dX12_sums_70
        · have h := ob_f h z9
          rcases Decidable.em ((v1 : Int32) = 4) with z11 | z11
          · have h := ob_t h z11
            refine lv_tableIn (x := v1) (off := 61) (tgt := 71) hx hb dX12_sums_10 (by rw [z11]; decide) (by rw [z11]; decide) (by rw [z11]; decide) (by decide) ?_
            refine lv_aload_n hx hb dX12_sums_71 rfl (lv_at hl 0 rfl) ?_
            obtain ⟨r12, hr12, h⟩ := ob_bd h
            refine n_I (kV (As := []) C0 (c_X12_paidInAll l hr12) ⟨wd_1605, wd_1602, wd_1604, wp_56, wd_6⟩ kd_X12_paidInAll ⟨Nat.le_of_ble_eq_true rfl, Nat.le_of_ble_eq_true rfl⟩ hP (lay_X12 B ct r2) rfl rfl hl.1 rfl (Nat.le_of_ble_eq_true rfl) dX12_sums_72 ⟨Nat.le_of_ble_eq_true rfl, Nat.le_of_ble_eq_true rfl⟩) hS (fun H locs hP hS => ?_)
            exact r_Iw C0 hP hS h dX12_sums_75
          · have h := ob_f h z11
            rcases Decidable.em ((v1 : Int32) = 5) with z13 | z13
            · have h := ob_t h z13
              refine lv_tableIn (x := v1) (off := 66) (tgt := 76) hx hb dX12_sums_10 (by rw [z13]; decide) (by rw [z13]; decide) (by rw [z13]; decide) (by decide) ?_
              refine lv_aload_n hx hb dX12_sums_76 rfl (lv_at hl 0 rfl) ?_
              obtain ⟨r14, hr14, h⟩ := ob_bd h
              refine n_I (kV (As := []) C0 (c_X12_regretMany l hr14) ⟨wd_1609, wd_1606, wd_1608, wp_57, wd_6⟩ kd_X12_regretMany ⟨Nat.le_of_ble_eq_true rfl, Nat.le_of_ble_eq_true rfl⟩ hP (lay_X12 B ct r2) rfl rfl hl.1 rfl (Nat.le_of_ble_eq_true rfl) dX12_sums_77 ⟨Nat.le_of_ble_eq_true rfl, Nat.le_of_ble_eq_true rfl⟩) hS (fun H locs hP hS => ?_)
              exact r_Iw C0 hP hS h dX12_sums_80
            · have h := ob_f h z13
              refine lv_tableOut (x := v1) (tgt := 81) hx hb dX12_sums_10 (sw_0_6 z3 z5 z7 z9 z11 z13) (by decide) ?_
              refine lv_iconst (v := (-1)) hx hb dX12_sums_81 (by decide) ?_
              exact r_Iw C0 hP hS h dX12_sums_82
set_option maxRecDepth 100000 in
set_option maxHeartbeats 4000000 in
theorem c_X12_sums (l : Launch) (a1 : Int32) {D : va_G} {ct : Nat → ClassId} {B : Nat} {Hb : Heap} {S : St} {V : Int32 × St} (h : L_X12_sums a1 S = some V) : Met l yX12_sums (Cond.code yX12_sums cX12_sums 2 (some .int) :: tG) { frames := 7, cells := 0, slots := 0, locals := 160 } (va_Pc [.ref (B + 136), .int a1] (MPK D ct B Hb S)) (qIw D ct B Hb V) 0 0 (AB B) := by
  refine mk_met (by decide +kernel) (Nat.le_of_ble_eq_true rfl) (fun p e s m args below meth c ls C0 hP hl _ => ?_)
  have h := ob_of h
  exact w_X12_sums_0 l C0 a1 S h hP va_S.rf (lv_sub hl [0, 1] rfl)
set_option maxRecDepth 100000 in
set_option maxHeartbeats 4000000 in
theorem w_X12_market_76 (l : Launch) {V : Int32 × St} (C0 : XC D ct p s m args meth c cX12_market 5 (some .int) RX12) (n0 : Nat) (ih0 : ∀ (v1 : Int32) (v2 : Int32) (v3 : Int32) (S : St) (H : Heap) (locs : List Loc) (ls : Array Slot), (lp n0 (l_X12_market_22) (v1, v2, v3, S)).bind some = some V → MP D ct B Hb S H → va_S (AB B) s.heap H locs → lv_has ls 5 [(0, .ref (B + 136)), (1, .int v1), (2, .int v2), (3, .int v3)] → W p l e { frames := 7, cells := 0, slots := 0, locals := 160 } s m args below meth c H locs 0 0 (MQ below (qIw D ct B Hb V) args s 0 0 (AB B)) (F0 m 22 ls [])) (v1 : Int32) (v3 : Int32) (s0 : Int32) (s1 : Int32) (S : St) {H : Heap} {locs : List Loc} {ls : Array Slot} (h : (b_X12_market_76 v1 v3 s0 s1 S).bind (lpF n0 (l_X12_market_22) some) = some V) (hP : MP D ct B Hb S H) (hS : va_S (AB B) s.heap H locs) (hl : lv_has ls 5 [(0, .ref (B + 136)), (1, .int v1), (3, .int v3)]) : W p l e { frames := 7, cells := 0, slots := 0, locals := 160 } s m args below meth c H locs 0 0 (MQ below (qIw D ct B Hb V) args s 0 0 (AB B)) (F0 m 76 ls [.int s0, .int s1]) := by
  obtain ⟨hx, hb, hr, hml, hown, hts, hK, hlocks, hN⟩ := id C0
  unfold b_X12_market_76 at h
  refine lv_ior hx hb dX12_market_76 ?_
  refine lv_istore_n (lv' := [(2, .int (s1 ||| s0)), (0, .ref (B + 136)), (1, .int v1), (3, .int v3)]) hx hb dX12_market_77 rfl hl (by decide) rfl (fun ls hl => ?_)
  refine lv_iinc (v := v3 + 1) (lv' := [(3, .int (v3 + 1)), (2, .int (s1 ||| s0)), (0, .ref (B + 136)), (1, .int v1)]) hx hb dX12_market_78 hl (k := 3) rfl rfl (by decide) rfl (fun ls hl => ?_)
  refine lv_goto (tgt := 22) hx hb dX12_market_81 (by decide) ?_
  exact ih0 v1 (s1 ||| s0) (v3 + 1) S _ _ _ h hP hS (lv_sub hl [2, 3, 1, 0] rfl)
set_option maxRecDepth 100000 in
set_option maxHeartbeats 4000000 in
theorem w_X12_market_61 (l : Launch) {V : Int32 × St} (C0 : XC D ct p s m args meth c cX12_market 5 (some .int) RX12) (n0 : Nat) (ih0 : ∀ (v1 : Int32) (v2 : Int32) (v3 : Int32) (S : St) (H : Heap) (locs : List Loc) (ls : Array Slot), (lp n0 (l_X12_market_22) (v1, v2, v3, S)).bind some = some V → MP D ct B Hb S H → va_S (AB B) s.heap H locs → lv_has ls 5 [(0, .ref (B + 136)), (1, .int v1), (2, .int v2), (3, .int v3)] → W p l e { frames := 7, cells := 0, slots := 0, locals := 160 } s m args below meth c H locs 0 0 (MQ below (qIw D ct B Hb V) args s 0 0 (AB B)) (F0 m 22 ls [])) (v1 : Int32) (v2 : Int32) (v3 : Int32) (s0 : Int32) (S : St) {H : Heap} {locs : List Loc} {ls : Array Slot} (h : (b_X12_market_61 v1 v2 v3 s0 S).bind (lpF n0 (l_X12_market_22) some) = some V) (hP : MP D ct B Hb S H) (hS : va_S (AB B) s.heap H locs) (hl : lv_has ls 5 [(0, .ref (B + 136)), (1, .int v1), (2, .int v2), (3, .int v3)]) : W p l e { frames := 7, cells := 0, slots := 0, locals := 160 } s m args below meth c H locs 0 0 (MQ below (qIw D ct B Hb V) args s 0 0 (AB B)) (F0 m 61 ls [.int s0]) := by
  obtain ⟨hx, hb, hr, hml, hown, hts, hK, hlocks, hN⟩ := id C0
  unfold b_X12_market_61 at h
  refine lv_istore (lv' := [(4, .int s0), (0, .ref (B + 136)), (1, .int v1), (2, .int v2), (3, .int v3)]) hx hb dX12_market_61 hl (by decide) rfl (fun ls hl => ?_)
  refine lv_iload_n hx hb dX12_market_63 rfl (lv_at hl 3 rfl) ?_
  refine lv_iload hx hb dX12_market_64 (lv_at hl 0 rfl) ?_
  refine lv_if_eq (tgt := 75) hx hb dX12_market_66 (by decide) (fun z1 => ?_) (fun z1 => ?_)
  · have h := ob_t h z1
    refine lv_iconst (v := 0) hx hb dX12_market_75 (by decide) ?_
    exact w_X12_market_76 l C0 n0 ih0 v1 v3 0 v2 S h hP hS (lv_sub hl [1, 2, 4] rfl)
  · have h := ob_f h z1
    refine lv_iconst (v := 1) hx hb dX12_market_69 (by decide) ?_
    refine lv_iload_n hx hb dX12_market_70 rfl (lv_at hl 4 rfl) ?_
    refine lv_ishl hx hb dX12_market_71 ?_
    refine lv_goto (tgt := 76) hx hb dX12_market_72 (by decide) ?_
    exact w_X12_market_76 l C0 n0 ih0 v1 v3 ((1 : Int32) <<< (v3 &&& 31)) v2 S h hP hS (lv_sub hl [1, 2, 4] rfl)
set_option maxRecDepth 100000 in
set_option maxHeartbeats 4000000 in
theorem w_X12_market_60 (l : Launch) {V : Int32 × St} (C0 : XC D ct p s m args meth c cX12_market 5 (some .int) RX12) (n0 : Nat) (ih0 : ∀ (v1 : Int32) (v2 : Int32) (v3 : Int32) (S : St) (H : Heap) (locs : List Loc) (ls : Array Slot), (lp n0 (l_X12_market_22) (v1, v2, v3, S)).bind some = some V → MP D ct B Hb S H → va_S (AB B) s.heap H locs → lv_has ls 5 [(0, .ref (B + 136)), (1, .int v1), (2, .int v2), (3, .int v3)] → W p l e { frames := 7, cells := 0, slots := 0, locals := 160 } s m args below meth c H locs 0 0 (MQ below (qIw D ct B Hb V) args s 0 0 (AB B)) (F0 m 22 ls [])) (v1 : Int32) (v2 : Int32) (v3 : Int32) (S : St) {H : Heap} {locs : List Loc} {ls : Array Slot} (h : (b_X12_market_60 v1 v2 v3 S).bind (lpF n0 (l_X12_market_22) some) = some V) (hP : MP D ct B Hb S H) (hS : va_S (AB B) s.heap H locs) (hl : lv_has ls 5 [(0, .ref (B + 136)), (1, .int v1), (2, .int v2), (3, .int v3)]) : W p l e { frames := 7, cells := 0, slots := 0, locals := 160 } s m args below meth c H locs 0 0 (MQ below (qIw D ct B Hb V) args s 0 0 (AB B)) (F0 m 60 ls []) := by
  obtain ⟨hx, hb, hr, hml, hown, hts, hK, hlocks, hN⟩ := id C0
  unfold b_X12_market_60 at h
  refine lv_iconst (v := 0) hx hb dX12_market_60 (by decide) ?_
  exact w_X12_market_61 l C0 n0 ih0 v1 v2 v3 0 S h hP hS (lv_sub hl [0, 1, 2, 3] rfl)
set_option maxRecDepth 100000 in
set_option maxHeartbeats 4000000 in
theorem w_X12_market_22 (l : Launch) {V : Int32 × St} (C0 : XC D ct p s m args meth c cX12_market 5 (some .int) RX12) (n0 : Nat) (ih0 : ∀ (v1 : Int32) (v2 : Int32) (v3 : Int32) (S : St) (H : Heap) (locs : List Loc) (ls : Array Slot), (lp n0 (l_X12_market_22) (v1, v2, v3, S)).bind some = some V → MP D ct B Hb S H → va_S (AB B) s.heap H locs → lv_has ls 5 [(0, .ref (B + 136)), (1, .int v1), (2, .int v2), (3, .int v3)] → W p l e { frames := 7, cells := 0, slots := 0, locals := 160 } s m args below meth c H locs 0 0 (MQ below (qIw D ct B Hb V) args s 0 0 (AB B)) (F0 m 22 ls [])) (v1 : Int32) (v2 : Int32) (v3 : Int32) (S : St) {H : Heap} {locs : List Loc} {ls : Array Slot} (h : (b_X12_market_22 v1 v2 v3 S).bind (lpF n0 (l_X12_market_22) some) = some V) (hP : MP D ct B Hb S H) (hS : va_S (AB B) s.heap H locs) (hl : lv_has ls 5 [(0, .ref (B + 136)), (1, .int v1), (2, .int v2), (3, .int v3)]) : W p l e { frames := 7, cells := 0, slots := 0, locals := 160 } s m args below meth c H locs 0 0 (MQ below (qIw D ct B Hb V) args s 0 0 (AB B)) (F0 m 22 ls []) := by
  obtain ⟨hx, hb, hr, hml, hown, hts, hK, hlocks, hN⟩ := id C0
  unfold b_X12_market_22 at h
  refine lv_iload_n hx hb dX12_market_22 rfl (lv_at hl 3 rfl) ?_
  refine lv_bipush (v := 11) hx hb dX12_market_23 (by decide) ?_
  refine lv_icmp_ge (tgt := 84) hx hb dX12_market_25 (by decide) (fun z1 => ?_) (fun z1 => ?_)
  · have h := ob_t h z1
    refine lv_iload_n hx hb dX12_market_84 rfl (lv_at hl 2 rfl) ?_
    exact r_Iw C0 hP hS h dX12_market_85
  · have h := ob_f h z1
    refine lv_aload_n hx hb dX12_market_28 rfl (lv_at hl 0 rfl) ?_
    refine lv_iload_n hx hb dX12_market_29 rfl (lv_at hl 3 rfl) ?_
    refine lv_iload_n hx hb dX12_market_30 rfl (lv_at hl 1 rfl) ?_
    obtain ⟨r2, hr2, h⟩ := ob_bd h
    refine n_I (kV (As := [.int v3, .int v1]) C0 (c_X12_isThere l v3 v1 hr2) ⟨wd_1562, wd_1559, wd_1561, wp_48, wd_6⟩ kd_X12_isThere ⟨Nat.le_of_ble_eq_true rfl, Nat.le_of_ble_eq_true rfl⟩ hP (lay_X12 B ct S) rfl rfl hl.1 rfl (Nat.le_of_ble_eq_true rfl) dX12_market_31 ⟨Nat.le_of_ble_eq_true rfl, Nat.le_of_ble_eq_true rfl⟩) hS (fun H locs hP hS => ?_)
    refine lv_if_eq (tgt := 60) hx hb dX12_market_34 (by decide) (fun z3 => ?_) (fun z3 => ?_)
    · have h := ob_t h z3
      exact w_X12_market_60 l C0 n0 ih0 v1 v2 v3 S h hP hS (lv_sub hl [0, 1, 2, 3] rfl)
    · have h := ob_f h z3
      refine lv_aload_n hx hb dX12_market_37 rfl (lv_at hl 0 rfl) ?_
      refine x_get C0 hP (lay_X12 B ct S) rfl inG12 42 (by decide) wd_1183 (fun _ h => h) rfl dX12_market_38 ?_
      refine lv_iload_n hx hb dX12_market_41 rfl (lv_at hl 3 rfl) ?_
      obtain ⟨g4, h⟩ := ob_gd h
      refine x_iald C0 hP ((fun S => lay_170 B ct S) S) g4 dX12_market_42 ?_
      refine lv_iload_n hx hb dX12_market_43 rfl (lv_at hl 1 rfl) ?_
      refine lv_icmp_le (tgt := 60) hx hb dX12_market_44 (by decide) (fun z5 => ?_) (fun z5 => ?_)
      · have h := ob_t h z5
        exact w_X12_market_60 l C0 n0 ih0 v1 v2 v3 S h hP hS (lv_sub hl [0, 1, 2, 3] rfl)
      · have h := ob_f h z5
        refine lv_aload_n hx hb dX12_market_47 rfl (lv_at hl 0 rfl) ?_
        refine lv_iload_n hx hb dX12_market_48 rfl (lv_at hl 3 rfl) ?_
        refine lv_iload_n hx hb dX12_market_49 rfl (lv_at hl 1 rfl) ?_
        obtain ⟨r6, hr6, h⟩ := ob_bd h
        refine n_I (kV (As := [.int v3, .int v1]) C0 (c_X12_leftOf l v3 v1 hr6) ⟨wd_1570, wd_1567, wd_1569, wp_50, wd_6⟩ kd_X12_leftOf ⟨Nat.le_of_ble_eq_true rfl, Nat.le_of_ble_eq_true rfl⟩ hP (lay_X12 B ct S) rfl rfl hl.1 rfl (Nat.le_of_ble_eq_true rfl) dX12_market_50 ⟨Nat.le_of_ble_eq_true rfl, Nat.le_of_ble_eq_true rfl⟩) hS (fun H locs hP hS => ?_)
        refine lv_if_le (tgt := 60) hx hb dX12_market_53 (by decide) (fun z7 => ?_) (fun z7 => ?_)
        · have h := ob_t h z7
          exact w_X12_market_60 l C0 n0 ih0 v1 v2 v3 S h hP hS (lv_sub hl [0, 1, 2, 3] rfl)
        · have h := ob_f h z7
          refine lv_iconst (v := 1) hx hb dX12_market_56 (by decide) ?_
          refine lv_goto (tgt := 61) hx hb dX12_market_57 (by decide) ?_
          exact w_X12_market_61 l C0 n0 ih0 v1 v2 v3 1 S h hP hS (lv_sub hl [0, 1, 2, 3] rfl)
set_option maxRecDepth 100000 in
set_option maxHeartbeats 4000000 in
theorem wl_X12_market_22 (l : Launch) {V : Int32 × St} (C0 : XC D ct p s m args meth c cX12_market 5 (some .int) RX12)  : ∀ (n0 : Nat) (v1 : Int32) (v2 : Int32) (v3 : Int32) (S : St) {H : Heap} {locs : List Loc} {ls : Array Slot}, (lp n0 (l_X12_market_22) (v1, v2, v3, S)).bind some = some V → MP D ct B Hb S H → va_S (AB B) s.heap H locs → lv_has ls 5 [(0, .ref (B + 136)), (1, .int v1), (2, .int v2), (3, .int v3)] → W p l e { frames := 7, cells := 0, slots := 0, locals := 160 } s m args below meth c H locs 0 0 (MQ below (qIw D ct B Hb V) args s 0 0 (AB B)) (F0 m 22 ls []) := by
  intro n0
  induction n0 with
  | zero =>
    intro v1 v2 v3 S H locs ls h hP hS hl
    exact (lp_0 h).elim
  | succ n0 ih0 =>
    intro v1 v2 v3 S H locs ls h hP hS hl
    have h := lp_s h
    exact w_X12_market_22 l C0 n0 (fun v1 v2 v3 S H locs ls h hP hS hl => ih0 v1 v2 v3 S h hP hS hl) v1 v2 v3 S h hP hS hl
set_option maxRecDepth 100000 in
set_option maxHeartbeats 4000000 in
theorem w_X12_market_0 (l : Launch) {V : Int32 × St} (C0 : XC D ct p s m args meth c cX12_market 5 (some .int) RX12) (v1 : Int32) (S : St) {H : Heap} {locs : List Loc} {ls : Array Slot} (h : (b_X12_market_0 v1 S).bind some = some V) (hP : MP D ct B Hb S H) (hS : va_S (AB B) s.heap H locs) (hl : lv_has ls 5 [(0, .ref (B + 136)), (1, .int v1)]) : W p l e { frames := 7, cells := 0, slots := 0, locals := 160 } s m args below meth c H locs 0 0 (MQ below (qIw D ct B Hb V) args s 0 0 (AB B)) (F0 m 0 ls []) := by
  obtain ⟨hx, hb, hr, hml, hown, hts, hK, hlocks, hN⟩ := id C0
  unfold b_X12_market_0 at h
  refine lv_aload_n hx hb dX12_market_0 rfl (lv_at hl 0 rfl) ?_
  refine lv_iconst (v := 0) hx hb dX12_market_1 (by decide) ?_
  obtain ⟨S1, eS1, h⟩ := ob_nm h
  refine x_put (S' := si S 136 28 0) (FS := (fs12 B)) C0 hP hS (fun S => lay_X12 B ct S) rfl inG12 tyX12 tyX12_ok nmX12 28 (by decide) wd_1169 rfl rfl (fun a ha => lay_local (gi_si_n _ _ _ ha) rfl rfl rfl) (put_12_28 B _ _) rfl rfl (Nat.le_of_ble_eq_true rfl) dX12_market_2 (fun H locs hP hS => ?_)
  rw [← eS1] at hP
  refine lv_iload_n hx hb dX12_market_5 rfl (lv_at hl 1 rfl) ?_
  obtain ⟨r2, hr2, h⟩ := ob_bd h
  refine n_I (kS (As := [.int v1]) C0 (c_X12_isHour l v1 hr2) ⟨wd_1414, wd_1412, wd_1413, wd_6⟩ kd_X12_isHour ⟨Nat.le_of_ble_eq_true rfl, Nat.le_of_ble_eq_true rfl⟩ hP rfl hl.1 rfl (Nat.le_of_ble_eq_true rfl) dX12_market_6 ⟨Nat.le_of_ble_eq_true rfl, Nat.le_of_ble_eq_true rfl⟩) hS (fun H locs hP hS => ?_)
  refine lv_if_ne (tgt := 14) hx hb dX12_market_9 (by decide) (fun z3 => ?_) (fun z3 => ?_)
  · have h := ob_f h z3
    refine lv_aload_n hx hb dX12_market_14 rfl (lv_at hl 0 rfl) ?_
    obtain ⟨r4, hr4, h⟩ := ob_bd h
    refine n_Vw (kV (As := []) C0 (c_X12_day l hr4) ⟨wd_1539, wd_1536, wd_1538, wp_43, wd_6⟩ kd_X12_day ⟨Nat.le_of_ble_eq_true rfl, Nat.le_of_ble_eq_true rfl⟩ hP (lay_X12 B ct S1) rfl rfl hl.1 rfl (Nat.le_of_ble_eq_true rfl) dX12_market_15 ⟨Nat.le_of_ble_eq_true rfl, Nat.le_of_ble_eq_true rfl⟩) hS (fun H locs hP hS => ?_)
    refine lv_iconst (v := 0) hx hb dX12_market_18 (by decide) ?_
    refine lv_istore_n (lv' := [(2, .int 0), (0, .ref (B + 136)), (1, .int v1)]) hx hb dX12_market_19 rfl hl (by decide) rfl (fun ls hl => ?_)
    refine lv_iconst (v := 0) hx hb dX12_market_20 (by decide) ?_
    refine lv_istore_n (lv' := [(3, .int 0), (2, .int 0), (0, .ref (B + 136)), (1, .int v1)]) hx hb dX12_market_21 rfl hl (by decide) rfl (fun ls hl => ?_)
    exact wl_X12_market_22 l C0 1000 v1 0 0 r4 h hP hS (lv_sub hl [2, 3, 1, 0] rfl)
  · have h := ob_t h z3
    refine lv_iconst (v := (-1)) hx hb dX12_market_12 (by decide) ?_
    exact r_Iw C0 hP hS h dX12_market_13
set_option maxRecDepth 100000 in
set_option maxHeartbeats 4000000 in
theorem c_X12_market (l : Launch) (a1 : Int32) {D : va_G} {ct : Nat → ClassId} {B : Nat} {Hb : Heap} {S : St} {V : Int32 × St} (h : L_X12_market a1 S = some V) : Met l yX12_market (Cond.code yX12_market cX12_market 5 (some .int) :: tG) { frames := 7, cells := 0, slots := 0, locals := 160 } (va_Pc [.ref (B + 136), .int a1] (MPK D ct B Hb S)) (qIw D ct B Hb V) 0 0 (AB B) := by
  refine mk_met (by decide +kernel) (Nat.le_of_ble_eq_true rfl) (fun p e s m args below meth c ls C0 hP hl _ => ?_)
  have h := ob_of h
  exact w_X12_market_0 l C0 a1 S h hP va_S.rf (lv_sub hl [0, 1] rfl)
set_option maxRecDepth 100000 in
set_option maxHeartbeats 4000000 in
theorem w_X12_chainOf_4 (l : Launch) {V : Int32} (C0 : XC D ct p s m args meth c cX12_chainOf 4 (some .int) RX12) (v2 : Int32) (v3 : Int32) (S : St) (n0 : Nat) (ih0 : ∀ (v2 : Int32) (v3 : Int32) (H : Heap) (locs : List Loc) (ls : Array Slot), (lp n0 (l_X12_chainOf_4 S) (v2, v3)).bind some = some V → MP D ct B Hb S H → va_S (AB B) s.heap H locs → lv_has ls 4 [(0, .ref (B + 136)), (2, .int v2), (3, .int v3)] → W p l e { frames := 0, cells := 0, slots := 0, locals := 0 } s m args below meth c H locs 0 0 (MQ below (qI D ct B Hb S V) args s 0 0 (AB B)) (F0 m 4 ls [])) {H : Heap} {locs : List Loc} {ls : Array Slot} (h : (b_X12_chainOf_4 v2 v3 S).bind (lpF n0 (l_X12_chainOf_4 S) some) = some V) (hP : MP D ct B Hb S H) (hS : va_S (AB B) s.heap H locs) (hl : lv_has ls 4 [(0, .ref (B + 136)), (2, .int v2), (3, .int v3)]) : W p l e { frames := 0, cells := 0, slots := 0, locals := 0 } s m args below meth c H locs 0 0 (MQ below (qI D ct B Hb S V) args s 0 0 (AB B)) (F0 m 4 ls []) := by
  obtain ⟨hx, hb, hr, hml, hown, hts, hK, hlocks, hN⟩ := id C0
  unfold b_X12_chainOf_4 at h
  refine lv_iload_n hx hb dX12_chainOf_4 rfl (lv_at hl 2 rfl) ?_
  refine lv_bipush (v := 8) hx hb dX12_chainOf_5 (by decide) ?_
  refine lv_icmp_ge (tgt := 32) hx hb dX12_chainOf_7 (by decide) (fun z1 => ?_) (fun z1 => ?_)
  · have h := ob_t h z1
    refine lv_iload_n hx hb dX12_chainOf_32 rfl (lv_at hl 1 rfl) ?_
    exact r_I C0 hP hS h dX12_chainOf_33
  · have h := ob_f h z1
    refine lv_aload_n hx hb dX12_chainOf_10 rfl (lv_at hl 0 rfl) ?_
    refine x_get C0 hP (lay_X12 B ct S) rfl inG12 34 (by decide) wd_1175 (fun _ h => h) rfl dX12_chainOf_11 ?_
    refine lv_iload_n hx hb dX12_chainOf_14 rfl (lv_at hl 2 rfl) ?_
    obtain ⟨g2, h⟩ := ob_gd h
    refine x_iald C0 hP ((fun S => lay_162 B ct S) S) g2 dX12_chainOf_15 ?_
    refine lv_if_lt (tgt := 32) hx hb dX12_chainOf_16 (by decide) (fun z3 => ?_) (fun z3 => ?_)
    · have h := ob_t h z3
      refine lv_iload_n hx hb dX12_chainOf_32 rfl (lv_at hl 1 rfl) ?_
      exact r_I C0 hP hS h dX12_chainOf_33
    · have h := ob_f h z3
      refine lv_iinc (v := v2 + 1) (lv' := [(2, .int (v2 + 1)), (0, .ref (B + 136)), (3, .int v3)]) hx hb dX12_chainOf_19 hl (k := 1) rfl rfl (by decide) rfl (fun ls hl => ?_)
      refine lv_aload_n hx hb dX12_chainOf_22 rfl (lv_at hl 1 rfl) ?_
      refine x_get C0 hP (lay_X12 B ct S) rfl inG12 34 (by decide) wd_1175 (fun _ h => h) rfl dX12_chainOf_23 ?_
      refine lv_iload_n hx hb dX12_chainOf_26 rfl (lv_at hl 2 rfl) ?_
      obtain ⟨g4, h⟩ := ob_gd h
      refine x_iald C0 hP ((fun S => lay_162 B ct S) S) g4 dX12_chainOf_27 ?_
      refine lv_istore_n (lv' := [(3, .int (gi S 162 v3.toNatClampNeg)), (2, .int (v2 + 1)), (0, .ref (B + 136))]) hx hb dX12_chainOf_28 rfl hl (by decide) rfl (fun ls hl => ?_)
      refine lv_goto (tgt := 4) hx hb dX12_chainOf_29 (by decide) ?_
      exact ih0 (v2 + 1) (gi S 162 v3.toNatClampNeg) _ _ _ h hP hS (lv_sub hl [2, 1, 0] rfl)
set_option maxRecDepth 100000 in
set_option maxHeartbeats 4000000 in
theorem wl_X12_chainOf_4 (l : Launch) {V : Int32} (C0 : XC D ct p s m args meth c cX12_chainOf 4 (some .int) RX12) (S : St)  : ∀ (n0 : Nat) (v2 : Int32) (v3 : Int32) {H : Heap} {locs : List Loc} {ls : Array Slot}, (lp n0 (l_X12_chainOf_4 S) (v2, v3)).bind some = some V → MP D ct B Hb S H → va_S (AB B) s.heap H locs → lv_has ls 4 [(0, .ref (B + 136)), (2, .int v2), (3, .int v3)] → W p l e { frames := 0, cells := 0, slots := 0, locals := 0 } s m args below meth c H locs 0 0 (MQ below (qI D ct B Hb S V) args s 0 0 (AB B)) (F0 m 4 ls []) := by
  intro n0
  induction n0 with
  | zero =>
    intro v2 v3 H locs ls h hP hS hl
    exact (lp_0 h).elim
  | succ n0 ih0 =>
    intro v2 v3 H locs ls h hP hS hl
    have h := lp_s h
    exact w_X12_chainOf_4 l C0 v2 v3 S n0 (fun v2 v3 H locs ls h hP hS hl => ih0 v2 v3 h hP hS hl) h hP hS hl
set_option maxRecDepth 100000 in
set_option maxHeartbeats 4000000 in
theorem w_X12_chainOf_0 (l : Launch) {V : Int32} (C0 : XC D ct p s m args meth c cX12_chainOf 4 (some .int) RX12) (v1 : Int32) (S : St) {H : Heap} {locs : List Loc} {ls : Array Slot} (h : (b_X12_chainOf_0 v1 S).bind some = some V) (hP : MP D ct B Hb S H) (hS : va_S (AB B) s.heap H locs) (hl : lv_has ls 4 [(0, .ref (B + 136)), (1, .int v1)]) : W p l e { frames := 0, cells := 0, slots := 0, locals := 0 } s m args below meth c H locs 0 0 (MQ below (qI D ct B Hb S V) args s 0 0 (AB B)) (F0 m 0 ls []) := by
  obtain ⟨hx, hb, hr, hml, hown, hts, hK, hlocks, hN⟩ := id C0
  unfold b_X12_chainOf_0 at h
  refine lv_iconst (v := 0) hx hb dX12_chainOf_0 (by decide) ?_
  refine lv_istore_n (lv' := [(2, .int 0), (0, .ref (B + 136)), (1, .int v1)]) hx hb dX12_chainOf_1 rfl hl (by decide) rfl (fun ls hl => ?_)
  refine lv_iload_n hx hb dX12_chainOf_2 rfl (lv_at hl 2 rfl) ?_
  refine lv_istore_n (lv' := [(3, .int v1), (2, .int 0), (0, .ref (B + 136)), (1, .int v1)]) hx hb dX12_chainOf_3 rfl hl (by decide) rfl (fun ls hl => ?_)
  exact wl_X12_chainOf_4 l C0 S 1000 0 v1 h hP hS (lv_sub hl [2, 1, 0] rfl)
set_option maxRecDepth 100000 in
set_option maxHeartbeats 4000000 in
theorem c_X12_chainOf (l : Launch) (a1 : Int32) {D : va_G} {ct : Nat → ClassId} {B : Nat} {Hb : Heap} {S : St} {V : Int32} (h : L_X12_chainOf a1 S = some V) : Met l yX12_chainOf (Cond.code yX12_chainOf cX12_chainOf 4 (some .int) :: tG) { frames := 0, cells := 0, slots := 0, locals := 0 } (va_Pc [.ref (B + 136), .int a1] (MPK D ct B Hb S)) (qI D ct B Hb S V) 0 0 (AB B) := by
  refine mk_met (by decide +kernel) (Nat.le_of_ble_eq_true rfl) (fun p e s m args below meth c ls C0 hP hl _ => ?_)
  have h := ob_of h
  exact w_X12_chainOf_0 l C0 a1 S h hP va_S.rf (lv_sub hl [0, 1] rfl)
set_option maxRecDepth 100000 in
set_option maxHeartbeats 4000000 in
theorem w_X12_chain_0 (l : Launch) {V : Int32 × St} (C0 : XC D ct p s m args meth c cX12_chain 2 (some .int) RX12) (v1 : Int32) (S : St) {H : Heap} {locs : List Loc} {ls : Array Slot} (h : (b_X12_chain_0 v1 S).bind some = some V) (hP : MP D ct B Hb S H) (hS : va_S (AB B) s.heap H locs) (hl : lv_has ls 2 [(0, .ref (B + 136)), (1, .int v1)]) : W p l e { frames := 7, cells := 0, slots := 0, locals := 160 } s m args below meth c H locs 0 0 (MQ below (qIw D ct B Hb V) args s 0 0 (AB B)) (F0 m 0 ls []) := by
  obtain ⟨hx, hb, hr, hml, hown, hts, hK, hlocks, hN⟩ := id C0
  unfold b_X12_chain_0 at h
  refine lv_aload_n hx hb dX12_chain_0 rfl (lv_at hl 0 rfl) ?_
  refine lv_iconst (v := 0) hx hb dX12_chain_1 (by decide) ?_
  obtain ⟨S1, eS1, h⟩ := ob_nm h
  refine x_put (S' := si S 136 28 0) (FS := (fs12 B)) C0 hP hS (fun S => lay_X12 B ct S) rfl inG12 tyX12 tyX12_ok nmX12 28 (by decide) wd_1169 rfl rfl (fun a ha => lay_local (gi_si_n _ _ _ ha) rfl rfl rfl) (put_12_28 B _ _) rfl rfl (Nat.le_of_ble_eq_true rfl) dX12_chain_2 (fun H locs hP hS => ?_)
  rw [← eS1] at hP
  refine lv_aload_n hx hb dX12_chain_5 rfl (lv_at hl 0 rfl) ?_
  refine lv_iload_n hx hb dX12_chain_6 rfl (lv_at hl 1 rfl) ?_
  obtain ⟨r2, hr2, h⟩ := ob_bd h
  refine n_I (kV (As := [.int v1]) C0 (c_X12_isOne l v1 hr2) ⟨wd_1448, wd_1445, wd_1447, wp_37, wd_6⟩ kd_X12_isOne ⟨Nat.le_of_ble_eq_true rfl, Nat.le_of_ble_eq_true rfl⟩ hP (lay_X12 B ct S1) rfl rfl hl.1 rfl (Nat.le_of_ble_eq_true rfl) dX12_chain_7 ⟨Nat.le_of_ble_eq_true rfl, Nat.le_of_ble_eq_true rfl⟩) hS (fun H locs hP hS => ?_)
  refine lv_if_ne (tgt := 15) hx hb dX12_chain_10 (by decide) (fun z3 => ?_) (fun z3 => ?_)
  · have h := ob_f h z3
    refine lv_aload_n hx hb dX12_chain_15 rfl (lv_at hl 0 rfl) ?_
    obtain ⟨r4, hr4, h⟩ := ob_bd h
    refine n_Vw (kV (As := []) C0 (c_X12_day l hr4) ⟨wd_1539, wd_1536, wd_1538, wp_43, wd_6⟩ kd_X12_day ⟨Nat.le_of_ble_eq_true rfl, Nat.le_of_ble_eq_true rfl⟩ hP (lay_X12 B ct S1) rfl rfl hl.1 rfl (Nat.le_of_ble_eq_true rfl) dX12_chain_16 ⟨Nat.le_of_ble_eq_true rfl, Nat.le_of_ble_eq_true rfl⟩) hS (fun H locs hP hS => ?_)
    refine lv_aload_n hx hb dX12_chain_19 rfl (lv_at hl 0 rfl) ?_
    refine lv_iload_n hx hb dX12_chain_20 rfl (lv_at hl 1 rfl) ?_
    obtain ⟨r5, hr5, h⟩ := ob_bd h
    refine n_I (kV (As := [.int v1]) C0 (c_X12_chainOf l v1 hr5) ⟨wd_1621, wd_1618, wd_1620, wp_58, wd_6⟩ kd_X12_chainOf ⟨Nat.le_of_ble_eq_true rfl, Nat.le_of_ble_eq_true rfl⟩ hP (lay_X12 B ct r4) rfl rfl hl.1 rfl (Nat.le_of_ble_eq_true rfl) dX12_chain_21 ⟨Nat.le_of_ble_eq_true rfl, Nat.le_of_ble_eq_true rfl⟩) hS (fun H locs hP hS => ?_)
    exact r_Iw C0 hP hS h dX12_chain_24
  · have h := ob_t h z3
    refine lv_iconst (v := (-1)) hx hb dX12_chain_13 (by decide) ?_
    exact r_Iw C0 hP hS h dX12_chain_14
set_option maxRecDepth 100000 in
set_option maxHeartbeats 4000000 in
theorem c_X12_chain (l : Launch) (a1 : Int32) {D : va_G} {ct : Nat → ClassId} {B : Nat} {Hb : Heap} {S : St} {V : Int32 × St} (h : L_X12_chain a1 S = some V) : Met l yX12_chain (Cond.code yX12_chain cX12_chain 2 (some .int) :: tG) { frames := 7, cells := 0, slots := 0, locals := 160 } (va_Pc [.ref (B + 136), .int a1] (MPK D ct B Hb S)) (qIw D ct B Hb V) 0 0 (AB B) := by
  refine mk_met (by decide +kernel) (Nat.le_of_ble_eq_true rfl) (fun p e s m args below meth c ls C0 hP hl _ => ?_)
  have h := ob_of h
  exact w_X12_chain_0 l C0 a1 S h hP va_S.rf (lv_sub hl [0, 1] rfl)
set_option maxRecDepth 100000 in
set_option maxHeartbeats 4000000 in
theorem w_X12_longest_39 (l : Launch) {V : Int32 × St} (C0 : XC D ct p s m args meth c cX12_longest 3 (some .int) RX12) (n0 : Nat) (ih0 : ∀ (v1 : Int32) (v2 : Int32) (S : St) (H : Heap) (locs : List Loc) (ls : Array Slot), (lp n0 (l_X12_longest_13) (v1, v2, S)).bind some = some V → MP D ct B Hb S H → va_S (AB B) s.heap H locs → lv_has ls 3 [(0, .ref (B + 136)), (1, .int v1), (2, .int v2)] → W p l e { frames := 7, cells := 0, slots := 0, locals := 160 } s m args below meth c H locs 0 0 (MQ below (qIw D ct B Hb V) args s 0 0 (AB B)) (F0 m 13 ls [])) (v2 : Int32) (s0 : Int32) (S : St) {H : Heap} {locs : List Loc} {ls : Array Slot} (h : (b_X12_longest_39 v2 s0 S).bind (lpF n0 (l_X12_longest_13) some) = some V) (hP : MP D ct B Hb S H) (hS : va_S (AB B) s.heap H locs) (hl : lv_has ls 3 [(0, .ref (B + 136)), (2, .int v2)]) : W p l e { frames := 7, cells := 0, slots := 0, locals := 160 } s m args below meth c H locs 0 0 (MQ below (qIw D ct B Hb V) args s 0 0 (AB B)) (F0 m 39 ls [.int s0]) := by
  obtain ⟨hx, hb, hr, hml, hown, hts, hK, hlocks, hN⟩ := id C0
  unfold b_X12_longest_39 at h
  refine lv_istore_n (lv' := [(1, .int s0), (0, .ref (B + 136)), (2, .int v2)]) hx hb dX12_longest_39 rfl hl (by decide) rfl (fun ls hl => ?_)
  refine lv_iinc (v := v2 + 1) (lv' := [(2, .int (v2 + 1)), (1, .int s0), (0, .ref (B + 136))]) hx hb dX12_longest_40 hl (k := 2) rfl rfl (by decide) rfl (fun ls hl => ?_)
  refine lv_goto (tgt := 13) hx hb dX12_longest_43 (by decide) ?_
  exact ih0 s0 (v2 + 1) S _ _ _ h hP hS (lv_sub hl [2, 1, 0] rfl)
set_option maxRecDepth 100000 in
set_option maxHeartbeats 4000000 in
theorem w_X12_longest_13 (l : Launch) {V : Int32 × St} (C0 : XC D ct p s m args meth c cX12_longest 3 (some .int) RX12) (n0 : Nat) (ih0 : ∀ (v1 : Int32) (v2 : Int32) (S : St) (H : Heap) (locs : List Loc) (ls : Array Slot), (lp n0 (l_X12_longest_13) (v1, v2, S)).bind some = some V → MP D ct B Hb S H → va_S (AB B) s.heap H locs → lv_has ls 3 [(0, .ref (B + 136)), (1, .int v1), (2, .int v2)] → W p l e { frames := 7, cells := 0, slots := 0, locals := 160 } s m args below meth c H locs 0 0 (MQ below (qIw D ct B Hb V) args s 0 0 (AB B)) (F0 m 13 ls [])) (v1 : Int32) (v2 : Int32) (S : St) {H : Heap} {locs : List Loc} {ls : Array Slot} (h : (b_X12_longest_13 v1 v2 S).bind (lpF n0 (l_X12_longest_13) some) = some V) (hP : MP D ct B Hb S H) (hS : va_S (AB B) s.heap H locs) (hl : lv_has ls 3 [(0, .ref (B + 136)), (1, .int v1), (2, .int v2)]) : W p l e { frames := 7, cells := 0, slots := 0, locals := 160 } s m args below meth c H locs 0 0 (MQ below (qIw D ct B Hb V) args s 0 0 (AB B)) (F0 m 13 ls []) := by
  obtain ⟨hx, hb, hr, hml, hown, hts, hK, hlocks, hN⟩ := id C0
  unfold b_X12_longest_13 at h
  refine lv_iload_n hx hb dX12_longest_13 rfl (lv_at hl 2 rfl) ?_
  refine lv_aload_n hx hb dX12_longest_14 rfl (lv_at hl 0 rfl) ?_
  refine x_get C0 hP (lay_X12 B ct S) rfl inG12 15 (by decide) wd_1156 (fun _ h => h) rfl dX12_longest_15 ?_
  refine lv_icmp_ge (tgt := 46) hx hb dX12_longest_18 (by decide) (fun z1 => ?_) (fun z1 => ?_)
  · have h := ob_t h z1
    refine lv_iload_n hx hb dX12_longest_46 rfl (lv_at hl 1 rfl) ?_
    exact r_Iw C0 hP hS h dX12_longest_47
  · have h := ob_f h z1
    refine lv_aload_n hx hb dX12_longest_21 rfl (lv_at hl 0 rfl) ?_
    refine lv_iload_n hx hb dX12_longest_22 rfl (lv_at hl 2 rfl) ?_
    obtain ⟨r2, hr2, h⟩ := ob_bd h
    refine n_I (kV (As := [.int v2]) C0 (c_X12_chainOf l v2 hr2) ⟨wd_1621, wd_1618, wd_1620, wp_58, wd_6⟩ kd_X12_chainOf ⟨Nat.le_of_ble_eq_true rfl, Nat.le_of_ble_eq_true rfl⟩ hP (lay_X12 B ct S) rfl rfl hl.1 rfl (Nat.le_of_ble_eq_true rfl) dX12_longest_23 ⟨Nat.le_of_ble_eq_true rfl, Nat.le_of_ble_eq_true rfl⟩) hS (fun H locs hP hS => ?_)
    refine lv_iload_n hx hb dX12_longest_26 rfl (lv_at hl 1 rfl) ?_
    refine lv_icmp_le (tgt := 38) hx hb dX12_longest_27 (by decide) (fun z3 => ?_) (fun z3 => ?_)
    · have h := ob_t h z3
      refine lv_iload_n hx hb dX12_longest_38 rfl (lv_at hl 1 rfl) ?_
      exact w_X12_longest_39 l C0 n0 ih0 v2 v1 S h hP hS (lv_sub hl [0, 2] rfl)
    · have h := ob_f h z3
      refine lv_aload_n hx hb dX12_longest_30 rfl (lv_at hl 0 rfl) ?_
      refine lv_iload_n hx hb dX12_longest_31 rfl (lv_at hl 2 rfl) ?_
      obtain ⟨r4, hr4, h⟩ := ob_bd h
      refine n_I (kV (As := [.int v2]) C0 (c_X12_chainOf l v2 hr4) ⟨wd_1621, wd_1618, wd_1620, wp_58, wd_6⟩ kd_X12_chainOf ⟨Nat.le_of_ble_eq_true rfl, Nat.le_of_ble_eq_true rfl⟩ hP (lay_X12 B ct S) rfl rfl hl.1 rfl (Nat.le_of_ble_eq_true rfl) dX12_longest_32 ⟨Nat.le_of_ble_eq_true rfl, Nat.le_of_ble_eq_true rfl⟩) hS (fun H locs hP hS => ?_)
      refine lv_goto (tgt := 39) hx hb dX12_longest_35 (by decide) ?_
      exact w_X12_longest_39 l C0 n0 ih0 v2 r4 S h hP hS (lv_sub hl [0, 2] rfl)
set_option maxRecDepth 100000 in
set_option maxHeartbeats 4000000 in
theorem wl_X12_longest_13 (l : Launch) {V : Int32 × St} (C0 : XC D ct p s m args meth c cX12_longest 3 (some .int) RX12)  : ∀ (n0 : Nat) (v1 : Int32) (v2 : Int32) (S : St) {H : Heap} {locs : List Loc} {ls : Array Slot}, (lp n0 (l_X12_longest_13) (v1, v2, S)).bind some = some V → MP D ct B Hb S H → va_S (AB B) s.heap H locs → lv_has ls 3 [(0, .ref (B + 136)), (1, .int v1), (2, .int v2)] → W p l e { frames := 7, cells := 0, slots := 0, locals := 160 } s m args below meth c H locs 0 0 (MQ below (qIw D ct B Hb V) args s 0 0 (AB B)) (F0 m 13 ls []) := by
  intro n0
  induction n0 with
  | zero =>
    intro v1 v2 S H locs ls h hP hS hl
    exact (lp_0 h).elim
  | succ n0 ih0 =>
    intro v1 v2 S H locs ls h hP hS hl
    have h := lp_s h
    exact w_X12_longest_13 l C0 n0 (fun v1 v2 S H locs ls h hP hS hl => ih0 v1 v2 S h hP hS hl) v1 v2 S h hP hS hl
set_option maxRecDepth 100000 in
set_option maxHeartbeats 4000000 in
theorem w_X12_longest_0 (l : Launch) {V : Int32 × St} (C0 : XC D ct p s m args meth c cX12_longest 3 (some .int) RX12) (S : St) {H : Heap} {locs : List Loc} {ls : Array Slot} (h : (b_X12_longest_0 S).bind some = some V) (hP : MP D ct B Hb S H) (hS : va_S (AB B) s.heap H locs) (hl : lv_has ls 3 [(0, .ref (B + 136))]) : W p l e { frames := 7, cells := 0, slots := 0, locals := 160 } s m args below meth c H locs 0 0 (MQ below (qIw D ct B Hb V) args s 0 0 (AB B)) (F0 m 0 ls []) := by
  obtain ⟨hx, hb, hr, hml, hown, hts, hK, hlocks, hN⟩ := id C0
  unfold b_X12_longest_0 at h
  refine lv_aload_n hx hb dX12_longest_0 rfl (lv_at hl 0 rfl) ?_
  refine lv_iconst (v := 0) hx hb dX12_longest_1 (by decide) ?_
  obtain ⟨S1, eS1, h⟩ := ob_nm h
  refine x_put (S' := si S 136 28 0) (FS := (fs12 B)) C0 hP hS (fun S => lay_X12 B ct S) rfl inG12 tyX12 tyX12_ok nmX12 28 (by decide) wd_1169 rfl rfl (fun a ha => lay_local (gi_si_n _ _ _ ha) rfl rfl rfl) (put_12_28 B _ _) rfl rfl (Nat.le_of_ble_eq_true rfl) dX12_longest_2 (fun H locs hP hS => ?_)
  rw [← eS1] at hP
  refine lv_aload_n hx hb dX12_longest_5 rfl (lv_at hl 0 rfl) ?_
  obtain ⟨r2, hr2, h⟩ := ob_bd h
  refine n_Vw (kV (As := []) C0 (c_X12_day l hr2) ⟨wd_1539, wd_1536, wd_1538, wp_43, wd_6⟩ kd_X12_day ⟨Nat.le_of_ble_eq_true rfl, Nat.le_of_ble_eq_true rfl⟩ hP (lay_X12 B ct S1) rfl rfl hl.1 rfl (Nat.le_of_ble_eq_true rfl) dX12_longest_6 ⟨Nat.le_of_ble_eq_true rfl, Nat.le_of_ble_eq_true rfl⟩) hS (fun H locs hP hS => ?_)
  refine lv_iconst (v := 0) hx hb dX12_longest_9 (by decide) ?_
  refine lv_istore_n (lv' := [(1, .int 0), (0, .ref (B + 136))]) hx hb dX12_longest_10 rfl hl (by decide) rfl (fun ls hl => ?_)
  refine lv_iconst (v := 0) hx hb dX12_longest_11 (by decide) ?_
  refine lv_istore_n (lv' := [(2, .int 0), (1, .int 0), (0, .ref (B + 136))]) hx hb dX12_longest_12 rfl hl (by decide) rfl (fun ls hl => ?_)
  exact wl_X12_longest_13 l C0 1000 0 0 r2 h hP hS (lv_sub hl [2, 1, 0] rfl)
set_option maxRecDepth 100000 in
set_option maxHeartbeats 4000000 in
theorem c_X12_longest (l : Launch) {D : va_G} {ct : Nat → ClassId} {B : Nat} {Hb : Heap} {S : St} {V : Int32 × St} (h : L_X12_longest S = some V) : Met l yX12_longest (Cond.code yX12_longest cX12_longest 3 (some .int) :: tG) { frames := 7, cells := 0, slots := 0, locals := 160 } (va_Pc [.ref (B + 136)] (MPK D ct B Hb S)) (qIw D ct B Hb V) 0 0 (AB B) := by
  refine mk_met (by decide +kernel) (Nat.le_of_ble_eq_true rfl) (fun p e s m args below meth c ls C0 hP hl _ => ?_)
  have h := ob_of h
  exact w_X12_longest_0 l C0 S h hP va_S.rf (lv_sub hl [0] rfl)
set_option maxRecDepth 100000 in
set_option maxHeartbeats 4000000 in
theorem w_X12_choiceOf_0 (l : Launch) {V : Int32 × St} (C0 : XC D ct p s m args meth c cX12_choiceOf 2 (some .int) RX12) (v1 : Int32) (S : St) {H : Heap} {locs : List Loc} {ls : Array Slot} (h : (b_X12_choiceOf_0 v1 S).bind some = some V) (hP : MP D ct B Hb S H) (hS : va_S (AB B) s.heap H locs) (hl : lv_has ls 2 [(0, .ref (B + 136)), (1, .int v1)]) : W p l e { frames := 7, cells := 0, slots := 0, locals := 160 } s m args below meth c H locs 0 0 (MQ below (qIw D ct B Hb V) args s 0 0 (AB B)) (F0 m 0 ls []) := by
  obtain ⟨hx, hb, hr, hml, hown, hts, hK, hlocks, hN⟩ := id C0
  unfold b_X12_choiceOf_0 at h
  refine lv_aload_n hx hb dX12_choiceOf_0 rfl (lv_at hl 0 rfl) ?_
  obtain ⟨r1, hr1, h⟩ := ob_bd h
  refine n_Vw (kV (As := []) C0 (c_X12_day l hr1) ⟨wd_1539, wd_1536, wd_1538, wp_43, wd_6⟩ kd_X12_day ⟨Nat.le_of_ble_eq_true rfl, Nat.le_of_ble_eq_true rfl⟩ hP (lay_X12 B ct S) rfl rfl hl.1 rfl (Nat.le_of_ble_eq_true rfl) dX12_choiceOf_1 ⟨Nat.le_of_ble_eq_true rfl, Nat.le_of_ble_eq_true rfl⟩) hS (fun H locs hP hS => ?_)
  refine lv_aload_n hx hb dX12_choiceOf_4 rfl (lv_at hl 0 rfl) ?_
  refine x_get C0 hP (lay_X12 B ct r1) rfl inG12 32 (by decide) wd_1173 (fun _ h => h) rfl dX12_choiceOf_5 ?_
  refine lv_iload_n hx hb dX12_choiceOf_8 rfl (lv_at hl 1 rfl) ?_
  obtain ⟨g2, h⟩ := ob_gd h
  refine x_iald C0 hP ((fun S => lay_160 B ct S) r1) g2 dX12_choiceOf_9 ?_
  exact r_Iw C0 hP hS h dX12_choiceOf_10
set_option maxRecDepth 100000 in
set_option maxHeartbeats 4000000 in
theorem c_X12_choiceOf (l : Launch) (a1 : Int32) {D : va_G} {ct : Nat → ClassId} {B : Nat} {Hb : Heap} {S : St} {V : Int32 × St} (h : L_X12_choiceOf a1 S = some V) : Met l yX12_choiceOf (Cond.code yX12_choiceOf cX12_choiceOf 2 (some .int) :: tG) { frames := 7, cells := 0, slots := 0, locals := 160 } (va_Pc [.ref (B + 136), .int a1] (MPK D ct B Hb S)) (qIw D ct B Hb V) 0 0 (AB B) := by
  refine mk_met (by decide +kernel) (Nat.le_of_ble_eq_true rfl) (fun p e s m args below meth c ls C0 hP hl _ => ?_)
  have h := ob_of h
  exact w_X12_choiceOf_0 l C0 a1 S h hP va_S.rf (lv_sub hl [0, 1] rfl)
end WALKS
