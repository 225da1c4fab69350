theorem dX2_run_0 : decode cX2_run 0 = .ok (.aload_n 0, 1) := by decide +kernel
theorem dX2_run_1 : decode cX2_run 1 = .ok (.aload_n 1, 1) := by decide +kernel
theorem dX2_run_2 : decode cX2_run 2 = .ok (.putfield 9, 3) := by decide +kernel
theorem dX2_run_5 : decode cX2_run 5 = .ok (.aload_n 0, 1) := by decide +kernel
theorem dX2_run_6 : decode cX2_run 6 = .ok (.iload_n 2, 1) := by decide +kernel
theorem dX2_run_7 : decode cX2_run 7 = .ok (.putfield 15, 3) := by decide +kernel
theorem dX2_run_10 : decode cX2_run 10 = .ok (.iconst 0, 1) := by decide +kernel
theorem dX2_run_11 : decode cX2_run 11 = .ok (.istore_n 3, 1) := by decide +kernel
theorem dX2_run_12 : decode cX2_run 12 = .ok (.iload_n 3, 1) := by decide +kernel
theorem dX2_run_13 : decode cX2_run 13 = .ok (.bipush 11, 2) := by decide +kernel
theorem dX2_run_15 : decode cX2_run 15 = .ok (.if_icmp .ge 24, 3) := by decide +kernel
theorem dX2_run_18 : decode cX2_run 18 = .ok (.aload_n 0, 1) := by decide +kernel
theorem dX2_run_19 : decode cX2_run 19 = .ok (.getfield 35, 3) := by decide +kernel
theorem dX2_run_22 : decode cX2_run 22 = .ok (.iload_n 3, 1) := by decide +kernel
theorem dX2_run_23 : decode cX2_run 23 = .ok (.iconst 0, 1) := by decide +kernel
theorem dX2_run_24 : decode cX2_run 24 = .ok (.iastore, 1) := by decide +kernel
theorem dX2_run_25 : decode cX2_run 25 = .ok (.aload_n 0, 1) := by decide +kernel
theorem dX2_run_26 : decode cX2_run 26 = .ok (.getfield 47, 3) := by decide +kernel
theorem dX2_run_29 : decode cX2_run 29 = .ok (.iload_n 3, 1) := by decide +kernel
theorem dX2_run_30 : decode cX2_run 30 = .ok (.bipush (-4), 2) := by decide +kernel
theorem dX2_run_32 : decode cX2_run 32 = .ok (.iastore, 1) := by decide +kernel
theorem dX2_run_33 : decode cX2_run 33 = .ok (.iinc 3 1, 3) := by decide +kernel
theorem dX2_run_36 : decode cX2_run 36 = .ok (.goto (-24), 3) := by decide +kernel
theorem dX2_run_39 : decode cX2_run 39 = .ok (.iconst 0, 1) := by decide +kernel
theorem dX2_run_40 : decode cX2_run 40 = .ok (.istore_n 3, 1) := by decide +kernel
theorem dX2_run_41 : decode cX2_run 41 = .ok (.iload_n 3, 1) := by decide +kernel
theorem dX2_run_42 : decode cX2_run 42 = .ok (.aload_n 0, 1) := by decide +kernel
theorem dX2_run_43 : decode cX2_run 43 = .ok (.getfield 9, 3) := by decide +kernel
theorem dX2_run_46 : decode cX2_run 46 = .ok (.getfield 50, 3) := by decide +kernel
theorem dX2_run_49 : decode cX2_run 49 = .ok (.if_icmp .ge 36, 3) := by decide +kernel
theorem dX2_run_52 : decode cX2_run 52 = .ok (.aload_n 0, 1) := by decide +kernel
theorem dX2_run_53 : decode cX2_run 53 = .ok (.getfield 19, 3) := by decide +kernel
theorem dX2_run_56 : decode cX2_run 56 = .ok (.iload_n 3, 1) := by decide +kernel
theorem dX2_run_57 : decode cX2_run 57 = .ok (.aload_n 0, 1) := by decide +kernel
theorem dX2_run_58 : decode cX2_run 58 = .ok (.getfield 9, 3) := by decide +kernel
theorem dX2_run_61 : decode cX2_run 61 = .ok (.getfield 55, 3) := by decide +kernel
theorem dX2_run_64 : decode cX2_run 64 = .ok (.iload_n 3, 1) := by decide +kernel
theorem dX2_run_65 : decode cX2_run 65 = .ok (.aaload, 1) := by decide +kernel
theorem dX2_run_66 : decode cX2_run 66 = .ok (.aload_n 0, 1) := by decide +kernel
theorem dX2_run_67 : decode cX2_run 67 = .ok (.getfield 9, 3) := by decide +kernel
theorem dX2_run_70 : decode cX2_run 70 = .ok (.getfield 59, 3) := by decide +kernel
theorem dX2_run_73 : decode cX2_run 73 = .ok (.iload_n 3, 1) := by decide +kernel
theorem dX2_run_74 : decode cX2_run 74 = .ok (.iaload, 1) := by decide +kernel
theorem dX2_run_75 : decode cX2_run 75 = .ok (.invokevirtual 62, 3) := by decide +kernel
theorem dX2_run_78 : decode cX2_run 78 = .ok (.iastore, 1) := by decide +kernel
theorem dX2_run_79 : decode cX2_run 79 = .ok (.iinc 3 1, 3) := by decide +kernel
theorem dX2_run_82 : decode cX2_run 82 = .ok (.goto (-41), 3) := by decide +kernel
theorem dX2_run_85 : decode cX2_run 85 = .ok (.iconst 0, 1) := by decide +kernel
theorem dX2_run_86 : decode cX2_run 86 = .ok (.istore_n 3, 1) := by decide +kernel
theorem dX2_run_87 : decode cX2_run 87 = .ok (.iload_n 3, 1) := by decide +kernel
theorem dX2_run_88 : decode cX2_run 88 = .ok (.aload_n 0, 1) := by decide +kernel
theorem dX2_run_89 : decode cX2_run 89 = .ok (.getfield 9, 3) := by decide +kernel
theorem dX2_run_92 : decode cX2_run 92 = .ok (.getfield 68, 3) := by decide +kernel
theorem dX2_run_95 : decode cX2_run 95 = .ok (.if_icmp .ge 53, 3) := by decide +kernel
theorem dX2_run_98 : decode cX2_run 98 = .ok (.aload_n 0, 1) := by decide +kernel
theorem dX2_run_99 : decode cX2_run 99 = .ok (.bipush 8, 2) := by decide +kernel
theorem dX2_run_101 : decode cX2_run 101 = .ok (.iload_n 3, 1) := by decide +kernel
theorem dX2_run_102 : decode cX2_run 102 = .ok (.iadd, 1) := by decide +kernel
theorem dX2_run_103 : decode cX2_run 103 = .ok (.aload_n 0, 1) := by decide +kernel
theorem dX2_run_104 : decode cX2_run 104 = .ok (.getfield 9, 3) := by decide +kernel
theorem dX2_run_107 : decode cX2_run 107 = .ok (.getfield 71, 3) := by decide +kernel
theorem dX2_run_110 : decode cX2_run 110 = .ok (.iload_n 3, 1) := by decide +kernel
theorem dX2_run_111 : decode cX2_run 111 = .ok (.iaload, 1) := by decide +kernel
theorem dX2_run_112 : decode cX2_run 112 = .ok (.aload_n 0, 1) := by decide +kernel
theorem dX2_run_113 : decode cX2_run 113 = .ok (.getfield 9, 3) := by decide +kernel
theorem dX2_run_116 : decode cX2_run 116 = .ok (.getfield 74, 3) := by decide +kernel
theorem dX2_run_119 : decode cX2_run 119 = .ok (.iload_n 3, 1) := by decide +kernel
theorem dX2_run_120 : decode cX2_run 120 = .ok (.iaload, 1) := by decide +kernel
theorem dX2_run_121 : decode cX2_run 121 = .ok (.aload_n 0, 1) := by decide +kernel
theorem dX2_run_122 : decode cX2_run 122 = .ok (.getfield 9, 3) := by decide +kernel
theorem dX2_run_125 : decode cX2_run 125 = .ok (.getfield 77, 3) := by decide +kernel
theorem dX2_run_128 : decode cX2_run 128 = .ok (.iload_n 3, 1) := by decide +kernel
theorem dX2_run_129 : decode cX2_run 129 = .ok (.iaload, 1) := by decide +kernel
theorem dX2_run_130 : decode cX2_run 130 = .ok (.aload_n 0, 1) := by decide +kernel
theorem dX2_run_131 : decode cX2_run 131 = .ok (.getfield 9, 3) := by decide +kernel
theorem dX2_run_134 : decode cX2_run 134 = .ok (.getfield 80, 3) := by decide +kernel
theorem dX2_run_137 : decode cX2_run 137 = .ok (.iconst 1, 1) := by decide +kernel
theorem dX2_run_138 : decode cX2_run 138 = .ok (.iaload, 1) := by decide +kernel
theorem dX2_run_139 : decode cX2_run 139 = .ok (.invokevirtual 83, 3) := by decide +kernel
theorem dX2_run_142 : decode cX2_run 142 = .ok (.iinc 3 1, 3) := by decide +kernel
theorem dX2_run_145 : decode cX2_run 145 = .ok (.goto (-58), 3) := by decide +kernel
theorem dX2_run_148 : decode cX2_run 148 = .ok (.iconst 0, 1) := by decide +kernel
theorem dX2_run_149 : decode cX2_run 149 = .ok (.istore_n 3, 1) := by decide +kernel
theorem dX2_run_150 : decode cX2_run 150 = .ok (.iload_n 3, 1) := by decide +kernel
theorem dX2_run_151 : decode cX2_run 151 = .ok (.bipush 23, 2) := by decide +kernel
theorem dX2_run_153 : decode cX2_run 153 = .ok (.if_icmp .gt 65, 3) := by decide +kernel
theorem dX2_run_156 : decode cX2_run 156 = .ok (.iconst 0, 1) := by decide +kernel
theorem dX2_run_157 : decode cX2_run 157 = .ok (.istore 4, 2) := by decide +kernel
theorem dX2_run_159 : decode cX2_run 159 = .ok (.iload 4, 2) := by decide +kernel
theorem dX2_run_161 : decode cX2_run 161 = .ok (.aload_n 0, 1) := by decide +kernel
theorem dX2_run_162 : decode cX2_run 162 = .ok (.getfield 9, 3) := by decide +kernel
theorem dX2_run_165 : decode cX2_run 165 = .ok (.getfield 50, 3) := by decide +kernel
theorem dX2_run_168 : decode cX2_run 168 = .ok (.if_icmp .ge 44, 3) := by decide +kernel
theorem dX2_run_171 : decode cX2_run 171 = .ok (.aload_n 0, 1) := by decide +kernel
theorem dX2_run_172 : decode cX2_run 172 = .ok (.getfield 19, 3) := by decide +kernel
theorem dX2_run_175 : decode cX2_run 175 = .ok (.iload 4, 2) := by decide +kernel
theorem dX2_run_177 : decode cX2_run 177 = .ok (.iaload, 1) := by decide +kernel
theorem dX2_run_178 : decode cX2_run 178 = .ok (.iload_n 3, 1) := by decide +kernel
theorem dX2_run_179 : decode cX2_run 179 = .ok (.if_icmp .ne 27, 3) := by decide +kernel
theorem dX2_run_182 : decode cX2_run 182 = .ok (.aload_n 0, 1) := by decide +kernel
theorem dX2_run_183 : decode cX2_run 183 = .ok (.iload 4, 2) := by decide +kernel
theorem dX2_run_185 : decode cX2_run 185 = .ok (.invokevirtual 87, 3) := by decide +kernel
theorem dX2_run_188 : decode cX2_run 188 = .ok (.aload_n 0, 1) := by decide +kernel
theorem dX2_run_189 : decode cX2_run 189 = .ok (.iload 4, 2) := by decide +kernel
theorem dX2_run_191 : decode cX2_run 191 = .ok (.invokevirtual 91, 3) := by decide +kernel
theorem dX2_run_194 : decode cX2_run 194 = .ok (.aload_n 0, 1) := by decide +kernel
theorem dX2_run_195 : decode cX2_run 195 = .ok (.iload 4, 2) := by decide +kernel
theorem dX2_run_197 : decode cX2_run 197 = .ok (.invokevirtual 94, 3) := by decide +kernel
theorem dX2_run_200 : decode cX2_run 200 = .ok (.aload_n 0, 1) := by decide +kernel
theorem dX2_run_201 : decode cX2_run 201 = .ok (.iload 4, 2) := by decide +kernel
theorem dX2_run_203 : decode cX2_run 203 = .ok (.invokevirtual 97, 3) := by decide +kernel
theorem dX2_run_206 : decode cX2_run 206 = .ok (.iinc 4 1, 3) := by decide +kernel
theorem dX2_run_209 : decode cX2_run 209 = .ok (.goto (-50), 3) := by decide +kernel
theorem dX2_run_212 : decode cX2_run 212 = .ok (.iinc 3 1, 3) := by decide +kernel
theorem dX2_run_215 : decode cX2_run 215 = .ok (.goto (-65), 3) := by decide +kernel
theorem dX2_run_218 : decode cX2_run 218 = .ok (.return_, 1) := by decide +kernel
theorem dX2_toldChoice_0 : decode cX2_toldChoice 0 = .ok (.aload_n 0, 1) := by decide +kernel
theorem dX2_toldChoice_1 : decode cX2_toldChoice 1 = .ok (.getfield 26, 3) := by decide +kernel
theorem dX2_toldChoice_4 : decode cX2_toldChoice 4 = .ok (.iload_n 1, 1) := by decide +kernel
theorem dX2_toldChoice_5 : decode cX2_toldChoice 5 = .ok (.iaload, 1) := by decide +kernel
theorem dX2_toldChoice_6 : decode cX2_toldChoice 6 = .ok (.ifCond .ge 7, 3) := by decide +kernel
theorem dX2_toldChoice_9 : decode cX2_toldChoice 9 = .ok (.iconst 2, 1) := by decide +kernel
theorem dX2_toldChoice_10 : decode cX2_toldChoice 10 = .ok (.goto 9, 3) := by decide +kernel
theorem dX2_toldChoice_13 : decode cX2_toldChoice 13 = .ok (.aload_n 0, 1) := by decide +kernel
theorem dX2_toldChoice_14 : decode cX2_toldChoice 14 = .ok (.getfield 26, 3) := by decide +kernel
theorem dX2_toldChoice_17 : decode cX2_toldChoice 17 = .ok (.iload_n 1, 1) := by decide +kernel
theorem dX2_toldChoice_18 : decode cX2_toldChoice 18 = .ok (.iaload, 1) := by decide +kernel
theorem dX2_toldChoice_19 : decode cX2_toldChoice 19 = .ok (.ireturn, 1) := by decide +kernel
theorem dX2_choices_0 : decode cX2_choices 0 = .ok (.iconst 0, 1) := by decide +kernel
theorem dX2_choices_1 : decode cX2_choices 1 = .ok (.istore_n 1, 1) := by decide +kernel
theorem dX2_choices_2 : decode cX2_choices 2 = .ok (.iconst 0, 1) := by decide +kernel
theorem dX2_choices_3 : decode cX2_choices 3 = .ok (.istore_n 2, 1) := by decide +kernel
theorem dX2_choices_4 : decode cX2_choices 4 = .ok (.iload_n 2, 1) := by decide +kernel
theorem dX2_choices_5 : decode cX2_choices 5 = .ok (.aload_n 0, 1) := by decide +kernel
theorem dX2_choices_6 : decode cX2_choices 6 = .ok (.getfield 9, 3) := by decide +kernel
theorem dX2_choices_9 : decode cX2_choices 9 = .ok (.getfield 50, 3) := by decide +kernel
theorem dX2_choices_12 : decode cX2_choices 12 = .ok (.if_icmp .ge 21, 3) := by decide +kernel
theorem dX2_choices_15 : decode cX2_choices 15 = .ok (.iload_n 1, 1) := by decide +kernel
theorem dX2_choices_16 : decode cX2_choices 16 = .ok (.aload_n 0, 1) := by decide +kernel
theorem dX2_choices_17 : decode cX2_choices 17 = .ok (.iload_n 2, 1) := by decide +kernel
theorem dX2_choices_18 : decode cX2_choices 18 = .ok (.invokevirtual 156, 3) := by decide +kernel
theorem dX2_choices_21 : decode cX2_choices 21 = .ok (.iconst 2, 1) := by decide +kernel
theorem dX2_choices_22 : decode cX2_choices 22 = .ok (.iload_n 2, 1) := by decide +kernel
theorem dX2_choices_23 : decode cX2_choices 23 = .ok (.imul, 1) := by decide +kernel
theorem dX2_choices_24 : decode cX2_choices 24 = .ok (.ishl, 1) := by decide +kernel
theorem dX2_choices_25 : decode cX2_choices 25 = .ok (.ior, 1) := by decide +kernel
theorem dX2_choices_26 : decode cX2_choices 26 = .ok (.istore_n 1, 1) := by decide +kernel
theorem dX2_choices_27 : decode cX2_choices 27 = .ok (.iinc 2 1, 3) := by decide +kernel
theorem dX2_choices_30 : decode cX2_choices 30 = .ok (.goto (-26), 3) := by decide +kernel
theorem dX2_choices_33 : decode cX2_choices 33 = .ok (.iload_n 1, 1) := by decide +kernel
theorem dX2_choices_34 : decode cX2_choices 34 = .ok (.ireturn, 1) := by decide +kernel
theorem dX2_sayYes_0 : decode cX2_sayYes 0 = .ok (.iconst 0, 1) := by decide +kernel
theorem dX2_sayYes_1 : decode cX2_sayYes 1 = .ok (.istore_n 1, 1) := by decide +kernel
theorem dX2_sayYes_2 : decode cX2_sayYes 2 = .ok (.iconst 0, 1) := by decide +kernel
theorem dX2_sayYes_3 : decode cX2_sayYes 3 = .ok (.istore_n 2, 1) := by decide +kernel
theorem dX2_sayYes_4 : decode cX2_sayYes 4 = .ok (.iload_n 2, 1) := by decide +kernel
theorem dX2_sayYes_5 : decode cX2_sayYes 5 = .ok (.aload_n 0, 1) := by decide +kernel
theorem dX2_sayYes_6 : decode cX2_sayYes 6 = .ok (.getfield 9, 3) := by decide +kernel
theorem dX2_sayYes_9 : decode cX2_sayYes 9 = .ok (.getfield 50, 3) := by decide +kernel
theorem dX2_sayYes_12 : decode cX2_sayYes 12 = .ok (.if_icmp .ge 24, 3) := by decide +kernel
theorem dX2_sayYes_15 : decode cX2_sayYes 15 = .ok (.aload_n 0, 1) := by decide +kernel
theorem dX2_sayYes_16 : decode cX2_sayYes 16 = .ok (.getfield 26, 3) := by decide +kernel
theorem dX2_sayYes_19 : decode cX2_sayYes 19 = .ok (.iload_n 2, 1) := by decide +kernel
theorem dX2_sayYes_20 : decode cX2_sayYes 20 = .ok (.iaload, 1) := by decide +kernel
theorem dX2_sayYes_21 : decode cX2_sayYes 21 = .ok (.ifCond .le 9, 3) := by decide +kernel
theorem dX2_sayYes_24 : decode cX2_sayYes 24 = .ok (.iload_n 1, 1) := by decide +kernel
theorem dX2_sayYes_25 : decode cX2_sayYes 25 = .ok (.iconst 1, 1) := by decide +kernel
theorem dX2_sayYes_26 : decode cX2_sayYes 26 = .ok (.iload_n 2, 1) := by decide +kernel
theorem dX2_sayYes_27 : decode cX2_sayYes 27 = .ok (.ishl, 1) := by decide +kernel
theorem dX2_sayYes_28 : decode cX2_sayYes 28 = .ok (.ior, 1) := by decide +kernel
theorem dX2_sayYes_29 : decode cX2_sayYes 29 = .ok (.istore_n 1, 1) := by decide +kernel
theorem dX2_sayYes_30 : decode cX2_sayYes 30 = .ok (.iinc 2 1, 3) := by decide +kernel
theorem dX2_sayYes_33 : decode cX2_sayYes 33 = .ok (.goto (-29), 3) := by decide +kernel
theorem dX2_sayYes_36 : decode cX2_sayYes 36 = .ok (.iload_n 1, 1) := by decide +kernel
theorem dX2_sayYes_37 : decode cX2_sayYes 37 = .ok (.ireturn, 1) := by decide +kernel
theorem dX2_coinsAt_0 : decode cX2_coinsAt 0 = .ok (.aload_n 0, 1) := by decide +kernel
theorem dX2_coinsAt_1 : decode cX2_coinsAt 1 = .ok (.getfield 9, 3) := by decide +kernel
theorem dX2_coinsAt_4 : decode cX2_coinsAt 4 = .ok (.getfield 150, 3) := by decide +kernel
theorem dX2_coinsAt_7 : decode cX2_coinsAt 7 = .ok (.iload_n 1, 1) := by decide +kernel
theorem dX2_coinsAt_8 : decode cX2_coinsAt 8 = .ok (.iaload, 1) := by decide +kernel
theorem dX2_coinsAt_9 : decode cX2_coinsAt 9 = .ok (.istore_n 3, 1) := by decide +kernel
theorem dX2_coinsAt_10 : decode cX2_coinsAt 10 = .ok (.aload_n 0, 1) := by decide +kernel
theorem dX2_coinsAt_11 : decode cX2_coinsAt 11 = .ok (.getfield 19, 3) := by decide +kernel
theorem dX2_coinsAt_14 : decode cX2_coinsAt 14 = .ok (.iload_n 1, 1) := by decide +kernel
theorem dX2_coinsAt_15 : decode cX2_coinsAt 15 = .ok (.iaload, 1) := by decide +kernel
theorem dX2_coinsAt_16 : decode cX2_coinsAt 16 = .ok (.iload_n 2, 1) := by decide +kernel
theorem dX2_coinsAt_17 : decode cX2_coinsAt 17 = .ok (.if_icmp .gt 12, 3) := by decide +kernel
theorem dX2_coinsAt_20 : decode cX2_coinsAt 20 = .ok (.iload_n 3, 1) := by decide +kernel
theorem dX2_coinsAt_21 : decode cX2_coinsAt 21 = .ok (.aload_n 0, 1) := by decide +kernel
theorem dX2_coinsAt_22 : decode cX2_coinsAt 22 = .ok (.getfield 32, 3) := by decide +kernel
theorem dX2_coinsAt_25 : decode cX2_coinsAt 25 = .ok (.iload_n 1, 1) := by decide +kernel
theorem dX2_coinsAt_26 : decode cX2_coinsAt 26 = .ok (.iaload, 1) := by decide +kernel
theorem dX2_coinsAt_27 : decode cX2_coinsAt 27 = .ok (.isub, 1) := by decide +kernel
theorem dX2_coinsAt_28 : decode cX2_coinsAt 28 = .ok (.istore_n 3, 1) := by decide +kernel
theorem dX2_coinsAt_29 : decode cX2_coinsAt 29 = .ok (.aload_n 0, 1) := by decide +kernel
theorem dX2_coinsAt_30 : decode cX2_coinsAt 30 = .ok (.getfield 47, 3) := by decide +kernel
theorem dX2_coinsAt_33 : decode cX2_coinsAt 33 = .ok (.iload_n 1, 1) := by decide +kernel
theorem dX2_coinsAt_34 : decode cX2_coinsAt 34 = .ok (.iaload, 1) := by decide +kernel
theorem dX2_coinsAt_35 : decode cX2_coinsAt 35 = .ok (.istore 4, 2) := by decide +kernel
theorem dX2_coinsAt_37 : decode cX2_coinsAt 37 = .ok (.iload 4, 2) := by decide +kernel
theorem dX2_coinsAt_39 : decode cX2_coinsAt 39 = .ok (.ifCond .lt 24, 3) := by decide +kernel
theorem dX2_coinsAt_42 : decode cX2_coinsAt 42 = .ok (.aload_n 0, 1) := by decide +kernel
theorem dX2_coinsAt_43 : decode cX2_coinsAt 43 = .ok (.getfield 19, 3) := by decide +kernel
theorem dX2_coinsAt_46 : decode cX2_coinsAt 46 = .ok (.iload 4, 2) := by decide +kernel
theorem dX2_coinsAt_48 : decode cX2_coinsAt 48 = .ok (.iaload, 1) := by decide +kernel
theorem dX2_coinsAt_49 : decode cX2_coinsAt 49 = .ok (.iload_n 2, 1) := by decide +kernel
theorem dX2_coinsAt_50 : decode cX2_coinsAt 50 = .ok (.if_icmp .gt 13, 3) := by decide +kernel
theorem dX2_coinsAt_53 : decode cX2_coinsAt 53 = .ok (.iload_n 3, 1) := by decide +kernel
theorem dX2_coinsAt_54 : decode cX2_coinsAt 54 = .ok (.aload_n 0, 1) := by decide +kernel
theorem dX2_coinsAt_55 : decode cX2_coinsAt 55 = .ok (.getfield 32, 3) := by decide +kernel
theorem dX2_coinsAt_58 : decode cX2_coinsAt 58 = .ok (.iload 4, 2) := by decide +kernel
theorem dX2_coinsAt_60 : decode cX2_coinsAt 60 = .ok (.iaload, 1) := by decide +kernel
theorem dX2_coinsAt_61 : decode cX2_coinsAt 61 = .ok (.iadd, 1) := by decide +kernel
theorem dX2_coinsAt_62 : decode cX2_coinsAt 62 = .ok (.istore_n 3, 1) := by decide +kernel
theorem dX2_coinsAt_63 : decode cX2_coinsAt 63 = .ok (.iload_n 3, 1) := by decide +kernel
theorem dX2_coinsAt_64 : decode cX2_coinsAt 64 = .ok (.ireturn, 1) := by decide +kernel
theorem dX2_fateOf_0 : decode cX2_fateOf 0 = .ok (.aload_n 0, 1) := by decide +kernel
theorem dX2_fateOf_1 : decode cX2_fateOf 1 = .ok (.getfield 35, 3) := by decide +kernel
theorem dX2_fateOf_4 : decode cX2_fateOf 4 = .ok (.iload_n 1, 1) := by decide +kernel
theorem dX2_fateOf_5 : decode cX2_fateOf 5 = .ok (.iaload, 1) := by decide +kernel
theorem dX2_fateOf_6 : decode cX2_fateOf 6 = .ok (.ifCond .eq 7, 3) := by decide +kernel
theorem dX2_fateOf_9 : decode cX2_fateOf 9 = .ok (.iconst 1, 1) := by decide +kernel
theorem dX2_fateOf_10 : decode cX2_fateOf 10 = .ok (.goto 4, 3) := by decide +kernel
theorem dX2_fateOf_13 : decode cX2_fateOf 13 = .ok (.iconst 0, 1) := by decide +kernel
theorem dX2_fateOf_14 : decode cX2_fateOf 14 = .ok (.istore_n 3, 1) := by decide +kernel
theorem dX2_fateOf_15 : decode cX2_fateOf 15 = .ok (.iload_n 2, 1) := by decide +kernel
theorem dX2_fateOf_16 : decode cX2_fateOf 16 = .ok (.tableswitch 151 0 7 #[48, 54, 73, 80, 101, 109, 119, 135], 48) := by decide +kernel
theorem dX2_fateOf_64 : decode cX2_fateOf 64 = .ok (.aload_n 0, 1) := by decide +kernel
theorem dX2_fateOf_65 : decode cX2_fateOf 65 = .ok (.iload_n 1, 1) := by decide +kernel
theorem dX2_fateOf_66 : decode cX2_fateOf 66 = .ok (.invokevirtual 156, 3) := by decide +kernel
theorem dX2_fateOf_69 : decode cX2_fateOf 69 = .ok (.ireturn, 1) := by decide +kernel
theorem dX2_fateOf_70 : decode cX2_fateOf 70 = .ok (.aload_n 0, 1) := by decide +kernel
theorem dX2_fateOf_71 : decode cX2_fateOf 71 = .ok (.getfield 9, 3) := by decide +kernel
theorem dX2_fateOf_74 : decode cX2_fateOf 74 = .ok (.getfield 55, 3) := by decide +kernel
theorem dX2_fateOf_77 : decode cX2_fateOf 77 = .ok (.iload_n 1, 1) := by decide +kernel
theorem dX2_fateOf_78 : decode cX2_fateOf 78 = .ok (.aaload, 1) := by decide +kernel
theorem dX2_fateOf_79 : decode cX2_fateOf 79 = .ok (.aload_n 0, 1) := by decide +kernel
theorem dX2_fateOf_80 : decode cX2_fateOf 80 = .ok (.getfield 23, 3) := by decide +kernel
theorem dX2_fateOf_83 : decode cX2_fateOf 83 = .ok (.iload_n 1, 1) := by decide +kernel
theorem dX2_fateOf_84 : decode cX2_fateOf 84 = .ok (.iaload, 1) := by decide +kernel
theorem dX2_fateOf_85 : decode cX2_fateOf 85 = .ok (.invokevirtual 122, 3) := by decide +kernel
theorem dX2_fateOf_88 : decode cX2_fateOf 88 = .ok (.ireturn, 1) := by decide +kernel
theorem dX2_fateOf_89 : decode cX2_fateOf 89 = .ok (.aload_n 0, 1) := by decide +kernel
theorem dX2_fateOf_90 : decode cX2_fateOf 90 = .ok (.getfield 29, 3) := by decide +kernel
theorem dX2_fateOf_93 : decode cX2_fateOf 93 = .ok (.iload_n 1, 1) := by decide +kernel
theorem dX2_fateOf_94 : decode cX2_fateOf 94 = .ok (.iaload, 1) := by decide +kernel
theorem dX2_fateOf_95 : decode cX2_fateOf 95 = .ok (.ireturn, 1) := by decide +kernel
theorem dX2_fateOf_96 : decode cX2_fateOf 96 = .ok (.aload_n 0, 1) := by decide +kernel
theorem dX2_fateOf_97 : decode cX2_fateOf 97 = .ok (.getfield 29, 3) := by decide +kernel
theorem dX2_fateOf_100 : decode cX2_fateOf 100 = .ok (.iload_n 1, 1) := by decide +kernel
theorem dX2_fateOf_101 : decode cX2_fateOf 101 = .ok (.iaload, 1) := by decide +kernel
theorem dX2_fateOf_102 : decode cX2_fateOf 102 = .ok (.ifCond .lt 12, 3) := by decide +kernel
theorem dX2_fateOf_105 : decode cX2_fateOf 105 = .ok (.aload_n 0, 1) := by decide +kernel
theorem dX2_fateOf_106 : decode cX2_fateOf 106 = .ok (.getfield 32, 3) := by decide +kernel
theorem dX2_fateOf_109 : decode cX2_fateOf 109 = .ok (.iload_n 1, 1) := by decide +kernel
theorem dX2_fateOf_110 : decode cX2_fateOf 110 = .ok (.iaload, 1) := by decide +kernel
theorem dX2_fateOf_111 : decode cX2_fateOf 111 = .ok (.goto 5, 3) := by decide +kernel
theorem dX2_fateOf_114 : decode cX2_fateOf 114 = .ok (.bipush (-4), 2) := by decide +kernel
theorem dX2_fateOf_116 : decode cX2_fateOf 116 = .ok (.ireturn, 1) := by decide +kernel
theorem dX2_fateOf_117 : decode cX2_fateOf 117 = .ok (.aload_n 0, 1) := by decide +kernel
theorem dX2_fateOf_118 : decode cX2_fateOf 118 = .ok (.iload_n 1, 1) := by decide +kernel
theorem dX2_fateOf_119 : decode cX2_fateOf 119 = .ok (.bipush 23, 2) := by decide +kernel
theorem dX2_fateOf_121 : decode cX2_fateOf 121 = .ok (.invokevirtual 159, 3) := by decide +kernel
theorem dX2_fateOf_124 : decode cX2_fateOf 124 = .ok (.ireturn, 1) := by decide +kernel
theorem dX2_fateOf_125 : decode cX2_fateOf 125 = .ok (.iload_n 3, 1) := by decide +kernel
theorem dX2_fateOf_126 : decode cX2_fateOf 126 = .ok (.ifCond .eq 7, 3) := by decide +kernel
theorem dX2_fateOf_129 : decode cX2_fateOf 129 = .ok (.iconst 1, 1) := by decide +kernel
theorem dX2_fateOf_130 : decode cX2_fateOf 130 = .ok (.goto 4, 3) := by decide +kernel
theorem dX2_fateOf_133 : decode cX2_fateOf 133 = .ok (.iconst 0, 1) := by decide +kernel
theorem dX2_fateOf_134 : decode cX2_fateOf 134 = .ok (.ireturn, 1) := by decide +kernel
theorem dX2_fateOf_135 : decode cX2_fateOf 135 = .ok (.iload_n 3, 1) := by decide +kernel
theorem dX2_fateOf_136 : decode cX2_fateOf 136 = .ok (.ifCond .eq 12, 3) := by decide +kernel
theorem dX2_fateOf_139 : decode cX2_fateOf 139 = .ok (.aload_n 0, 1) := by decide +kernel
theorem dX2_fateOf_140 : decode cX2_fateOf 140 = .ok (.getfield 41, 3) := by decide +kernel
theorem dX2_fateOf_143 : decode cX2_fateOf 143 = .ok (.iload_n 1, 1) := by decide +kernel
theorem dX2_fateOf_144 : decode cX2_fateOf 144 = .ok (.iaload, 1) := by decide +kernel
theorem dX2_fateOf_145 : decode cX2_fateOf 145 = .ok (.goto 5, 3) := by decide +kernel
theorem dX2_fateOf_148 : decode cX2_fateOf 148 = .ok (.bipush (-4), 2) := by decide +kernel
theorem dX2_fateOf_150 : decode cX2_fateOf 150 = .ok (.ireturn, 1) := by decide +kernel
theorem dX2_fateOf_151 : decode cX2_fateOf 151 = .ok (.iload_n 3, 1) := by decide +kernel
theorem dX2_fateOf_152 : decode cX2_fateOf 152 = .ok (.ifCond .eq 12, 3) := by decide +kernel
theorem dX2_fateOf_155 : decode cX2_fateOf 155 = .ok (.aload_n 0, 1) := by decide +kernel
theorem dX2_fateOf_156 : decode cX2_fateOf 156 = .ok (.getfield 38, 3) := by decide +kernel
theorem dX2_fateOf_159 : decode cX2_fateOf 159 = .ok (.iload_n 1, 1) := by decide +kernel
theorem dX2_fateOf_160 : decode cX2_fateOf 160 = .ok (.iaload, 1) := by decide +kernel
theorem dX2_fateOf_161 : decode cX2_fateOf 161 = .ok (.goto 5, 3) := by decide +kernel
theorem dX2_fateOf_164 : decode cX2_fateOf 164 = .ok (.bipush (-4), 2) := by decide +kernel
theorem dX2_fateOf_166 : decode cX2_fateOf 166 = .ok (.ireturn, 1) := by decide +kernel
theorem dX2_fateOf_167 : decode cX2_fateOf 167 = .ok (.aload_n 0, 1) := by decide +kernel
theorem dX2_fateOf_168 : decode cX2_fateOf 168 = .ok (.getfield 47, 3) := by decide +kernel
theorem dX2_fateOf_171 : decode cX2_fateOf 171 = .ok (.iload_n 1, 1) := by decide +kernel
theorem dX2_fateOf_172 : decode cX2_fateOf 172 = .ok (.iaload, 1) := by decide +kernel
theorem dX2_fateOf_173 : decode cX2_fateOf 173 = .ok (.ireturn, 1) := by decide +kernel
theorem dX2_howManyChoose_0 : decode cX2_howManyChoose 0 = .ok (.iconst 0, 1) := by decide +kernel
theorem dX2_howManyChoose_1 : decode cX2_howManyChoose 1 = .ok (.istore_n 2, 1) := by decide +kernel
theorem dX2_howManyChoose_2 : decode cX2_howManyChoose 2 = .ok (.iconst 0, 1) := by decide +kernel
theorem dX2_howManyChoose_3 : decode cX2_howManyChoose 3 = .ok (.istore_n 3, 1) := by decide +kernel
theorem dX2_howManyChoose_4 : decode cX2_howManyChoose 4 = .ok (.iload_n 3, 1) := by decide +kernel
theorem dX2_howManyChoose_5 : decode cX2_howManyChoose 5 = .ok (.aload_n 0, 1) := by decide +kernel
theorem dX2_howManyChoose_6 : decode cX2_howManyChoose 6 = .ok (.getfield 9, 3) := by decide +kernel
theorem dX2_howManyChoose_9 : decode cX2_howManyChoose 9 = .ok (.getfield 50, 3) := by decide +kernel
theorem dX2_howManyChoose_12 : decode cX2_howManyChoose 12 = .ok (.if_icmp .ge 27, 3) := by decide +kernel
theorem dX2_howManyChoose_15 : decode cX2_howManyChoose 15 = .ok (.iload_n 2, 1) := by decide +kernel
theorem dX2_howManyChoose_16 : decode cX2_howManyChoose 16 = .ok (.aload_n 0, 1) := by decide +kernel
theorem dX2_howManyChoose_17 : decode cX2_howManyChoose 17 = .ok (.getfield 26, 3) := by decide +kernel
theorem dX2_howManyChoose_20 : decode cX2_howManyChoose 20 = .ok (.iload_n 3, 1) := by decide +kernel
theorem dX2_howManyChoose_21 : decode cX2_howManyChoose 21 = .ok (.iaload, 1) := by decide +kernel
theorem dX2_howManyChoose_22 : decode cX2_howManyChoose 22 = .ok (.iload_n 1, 1) := by decide +kernel
theorem dX2_howManyChoose_23 : decode cX2_howManyChoose 23 = .ok (.if_icmp .ne 7, 3) := by decide +kernel
theorem dX2_howManyChoose_26 : decode cX2_howManyChoose 26 = .ok (.iconst 1, 1) := by decide +kernel
theorem dX2_howManyChoose_27 : decode cX2_howManyChoose 27 = .ok (.goto 4, 3) := by decide +kernel
theorem dX2_howManyChoose_30 : decode cX2_howManyChoose 30 = .ok (.iconst 0, 1) := by decide +kernel
theorem dX2_howManyChoose_31 : decode cX2_howManyChoose 31 = .ok (.iadd, 1) := by decide +kernel
theorem dX2_howManyChoose_32 : decode cX2_howManyChoose 32 = .ok (.istore_n 2, 1) := by decide +kernel
theorem dX2_howManyChoose_33 : decode cX2_howManyChoose 33 = .ok (.iinc 3 1, 3) := by decide +kernel
theorem dX2_howManyChoose_36 : decode cX2_howManyChoose 36 = .ok (.goto (-32), 3) := by decide +kernel
theorem dX2_howManyChoose_39 : decode cX2_howManyChoose 39 = .ok (.iload_n 2, 1) := by decide +kernel
theorem dX2_howManyChoose_40 : decode cX2_howManyChoose 40 = .ok (.ireturn, 1) := by decide +kernel
theorem dX2_howManySold_0 : decode cX2_howManySold 0 = .ok (.iconst 0, 1) := by decide +kernel
theorem dX2_howManySold_1 : decode cX2_howManySold 1 = .ok (.istore_n 1, 1) := by decide +kernel
theorem dX2_howManySold_2 : decode cX2_howManySold 2 = .ok (.iconst 0, 1) := by decide +kernel
theorem dX2_howManySold_3 : decode cX2_howManySold 3 = .ok (.istore_n 2, 1) := by decide +kernel
theorem dX2_howManySold_4 : decode cX2_howManySold 4 = .ok (.iload_n 2, 1) := by decide +kernel
theorem dX2_howManySold_5 : decode cX2_howManySold 5 = .ok (.aload_n 0, 1) := by decide +kernel
theorem dX2_howManySold_6 : decode cX2_howManySold 6 = .ok (.getfield 9, 3) := by decide +kernel
theorem dX2_howManySold_9 : decode cX2_howManySold 9 = .ok (.getfield 50, 3) := by decide +kernel
theorem dX2_howManySold_12 : decode cX2_howManySold 12 = .ok (.if_icmp .ge 26, 3) := by decide +kernel
theorem dX2_howManySold_15 : decode cX2_howManySold 15 = .ok (.iload_n 1, 1) := by decide +kernel
theorem dX2_howManySold_16 : decode cX2_howManySold 16 = .ok (.aload_n 0, 1) := by decide +kernel
theorem dX2_howManySold_17 : decode cX2_howManySold 17 = .ok (.getfield 29, 3) := by decide +kernel
theorem dX2_howManySold_20 : decode cX2_howManySold 20 = .ok (.iload_n 2, 1) := by decide +kernel
theorem dX2_howManySold_21 : decode cX2_howManySold 21 = .ok (.iaload, 1) := by decide +kernel
theorem dX2_howManySold_22 : decode cX2_howManySold 22 = .ok (.ifCond .lt 7, 3) := by decide +kernel
theorem dX2_howManySold_25 : decode cX2_howManySold 25 = .ok (.iconst 1, 1) := by decide +kernel
theorem dX2_howManySold_26 : decode cX2_howManySold 26 = .ok (.goto 4, 3) := by decide +kernel
theorem dX2_howManySold_29 : decode cX2_howManySold 29 = .ok (.iconst 0, 1) := by decide +kernel
theorem dX2_howManySold_30 : decode cX2_howManySold 30 = .ok (.iadd, 1) := by decide +kernel
theorem dX2_howManySold_31 : decode cX2_howManySold 31 = .ok (.istore_n 1, 1) := by decide +kernel
theorem dX2_howManySold_32 : decode cX2_howManySold 32 = .ok (.iinc 2 1, 3) := by decide +kernel
theorem dX2_howManySold_35 : decode cX2_howManySold 35 = .ok (.goto (-31), 3) := by decide +kernel
theorem dX2_howManySold_38 : decode cX2_howManySold 38 = .ok (.iload_n 1, 1) := by decide +kernel
theorem dX2_howManySold_39 : decode cX2_howManySold 39 = .ok (.ireturn, 1) := by decide +kernel
theorem dX2_allPaid_0 : decode cX2_allPaid 0 = .ok (.iconst 0, 1) := by decide +kernel
theorem dX2_allPaid_1 : decode cX2_allPaid 1 = .ok (.istore_n 1, 1) := by decide +kernel
theorem dX2_allPaid_2 : decode cX2_allPaid 2 = .ok (.iconst 0, 1) := by decide +kernel
theorem dX2_allPaid_3 : decode cX2_allPaid 3 = .ok (.istore_n 2, 1) := by decide +kernel
theorem dX2_allPaid_4 : decode cX2_allPaid 4 = .ok (.iload_n 2, 1) := by decide +kernel
theorem dX2_allPaid_5 : decode cX2_allPaid 5 = .ok (.aload_n 0, 1) := by decide +kernel
theorem dX2_allPaid_6 : decode cX2_allPaid 6 = .ok (.getfield 9, 3) := by decide +kernel
theorem dX2_allPaid_9 : decode cX2_allPaid 9 = .ok (.getfield 50, 3) := by decide +kernel
theorem dX2_allPaid_12 : decode cX2_allPaid 12 = .ok (.if_icmp .ge 18, 3) := by decide +kernel
theorem dX2_allPaid_15 : decode cX2_allPaid 15 = .ok (.iload_n 1, 1) := by decide +kernel
theorem dX2_allPaid_16 : decode cX2_allPaid 16 = .ok (.aload_n 0, 1) := by decide +kernel
theorem dX2_allPaid_17 : decode cX2_allPaid 17 = .ok (.getfield 32, 3) := by decide +kernel
theorem dX2_allPaid_20 : decode cX2_allPaid 20 = .ok (.iload_n 2, 1) := by decide +kernel
theorem dX2_allPaid_21 : decode cX2_allPaid 21 = .ok (.iaload, 1) := by decide +kernel
theorem dX2_allPaid_22 : decode cX2_allPaid 22 = .ok (.iadd, 1) := by decide +kernel
theorem dX2_allPaid_23 : decode cX2_allPaid 23 = .ok (.istore_n 1, 1) := by decide +kernel
theorem dX2_allPaid_24 : decode cX2_allPaid 24 = .ok (.iinc 2 1, 3) := by decide +kernel
theorem dX2_allPaid_27 : decode cX2_allPaid 27 = .ok (.goto (-23), 3) := by decide +kernel
theorem dX2_allPaid_30 : decode cX2_allPaid 30 = .ok (.iload_n 1, 1) := by decide +kernel
theorem dX2_allPaid_31 : decode cX2_allPaid 31 = .ok (.ireturn, 1) := by decide +kernel
theorem dX2_howManyRegret_0 : decode cX2_howManyRegret 0 = .ok (.iconst 0, 1) := by decide +kernel
theorem dX2_howManyRegret_1 : decode cX2_howManyRegret 1 = .ok (.istore_n 1, 1) := by decide +kernel
theorem dX2_howManyRegret_2 : decode cX2_howManyRegret 2 = .ok (.iconst 0, 1) := by decide +kernel
theorem dX2_howManyRegret_3 : decode cX2_howManyRegret 3 = .ok (.istore_n 2, 1) := by decide +kernel
theorem dX2_howManyRegret_4 : decode cX2_howManyRegret 4 = .ok (.iload_n 2, 1) := by decide +kernel
theorem dX2_howManyRegret_5 : decode cX2_howManyRegret 5 = .ok (.aload_n 0, 1) := by decide +kernel
theorem dX2_howManyRegret_6 : decode cX2_howManyRegret 6 = .ok (.getfield 9, 3) := by decide +kernel
theorem dX2_howManyRegret_9 : decode cX2_howManyRegret 9 = .ok (.getfield 50, 3) := by decide +kernel
theorem dX2_howManyRegret_12 : decode cX2_howManyRegret 12 = .ok (.if_icmp .ge 26, 3) := by decide +kernel
theorem dX2_howManyRegret_15 : decode cX2_howManyRegret 15 = .ok (.iload_n 1, 1) := by decide +kernel
theorem dX2_howManyRegret_16 : decode cX2_howManyRegret 16 = .ok (.aload_n 0, 1) := by decide +kernel
theorem dX2_howManyRegret_17 : decode cX2_howManyRegret 17 = .ok (.getfield 35, 3) := by decide +kernel
theorem dX2_howManyRegret_20 : decode cX2_howManyRegret 20 = .ok (.iload_n 2, 1) := by decide +kernel
theorem dX2_howManyRegret_21 : decode cX2_howManyRegret 21 = .ok (.iaload, 1) := by decide +kernel
theorem dX2_howManyRegret_22 : decode cX2_howManyRegret 22 = .ok (.ifCond .eq 7, 3) := by decide +kernel
theorem dX2_howManyRegret_25 : decode cX2_howManyRegret 25 = .ok (.iconst 1, 1) := by decide +kernel
theorem dX2_howManyRegret_26 : decode cX2_howManyRegret 26 = .ok (.goto 4, 3) := by decide +kernel
theorem dX2_howManyRegret_29 : decode cX2_howManyRegret 29 = .ok (.iconst 0, 1) := by decide +kernel
theorem dX2_howManyRegret_30 : decode cX2_howManyRegret 30 = .ok (.iadd, 1) := by decide +kernel
theorem dX2_howManyRegret_31 : decode cX2_howManyRegret 31 = .ok (.istore_n 1, 1) := by decide +kernel
theorem dX2_howManyRegret_32 : decode cX2_howManyRegret 32 = .ok (.iinc 2 1, 3) := by decide +kernel
theorem dX2_howManyRegret_35 : decode cX2_howManyRegret 35 = .ok (.goto (-31), 3) := by decide +kernel
theorem dX2_howManyRegret_38 : decode cX2_howManyRegret 38 = .ok (.iload_n 1, 1) := by decide +kernel
theorem dX2_howManyRegret_39 : decode cX2_howManyRegret 39 = .ok (.ireturn, 1) := by decide +kernel
theorem dX2_countOf_0 : decode cX2_countOf 0 = .ok (.iload_n 1, 1) := by decide +kernel
theorem dX2_countOf_1 : decode cX2_countOf 1 = .ok (.tableswitch 63 0 4 #[35, 41, 47, 53, 58], 35) := by decide +kernel
theorem dX2_countOf_36 : decode cX2_countOf 36 = .ok (.aload_n 0, 1) := by decide +kernel
theorem dX2_countOf_37 : decode cX2_countOf 37 = .ok (.iconst 1, 1) := by decide +kernel
theorem dX2_countOf_38 : decode cX2_countOf 38 = .ok (.invokevirtual 162, 3) := by decide +kernel
theorem dX2_countOf_41 : decode cX2_countOf 41 = .ok (.ireturn, 1) := by decide +kernel
theorem dX2_countOf_42 : decode cX2_countOf 42 = .ok (.aload_n 0, 1) := by decide +kernel
theorem dX2_countOf_43 : decode cX2_countOf 43 = .ok (.iconst (-1), 1) := by decide +kernel
theorem dX2_countOf_44 : decode cX2_countOf 44 = .ok (.invokevirtual 162, 3) := by decide +kernel
theorem dX2_countOf_47 : decode cX2_countOf 47 = .ok (.ireturn, 1) := by decide +kernel
theorem dX2_countOf_48 : decode cX2_countOf 48 = .ok (.aload_n 0, 1) := by decide +kernel
theorem dX2_countOf_49 : decode cX2_countOf 49 = .ok (.iconst 0, 1) := by decide +kernel
theorem dX2_countOf_50 : decode cX2_countOf 50 = .ok (.invokevirtual 162, 3) := by decide +kernel
theorem dX2_countOf_53 : decode cX2_countOf 53 = .ok (.ireturn, 1) := by decide +kernel
theorem dX2_countOf_54 : decode cX2_countOf 54 = .ok (.aload_n 0, 1) := by decide +kernel
theorem dX2_countOf_55 : decode cX2_countOf 55 = .ok (.invokevirtual 165, 3) := by decide +kernel
theorem dX2_countOf_58 : decode cX2_countOf 58 = .ok (.ireturn, 1) := by decide +kernel
theorem dX2_countOf_59 : decode cX2_countOf 59 = .ok (.aload_n 0, 1) := by decide +kernel
theorem dX2_countOf_60 : decode cX2_countOf 60 = .ok (.invokevirtual 169, 3) := by decide +kernel
theorem dX2_countOf_63 : decode cX2_countOf 63 = .ok (.ireturn, 1) := by decide +kernel
theorem dX2_countOf_64 : decode cX2_countOf 64 = .ok (.aload_n 0, 1) := by decide +kernel
theorem dX2_countOf_65 : decode cX2_countOf 65 = .ok (.invokevirtual 172, 3) := by decide +kernel
theorem dX2_countOf_68 : decode cX2_countOf 68 = .ok (.ireturn, 1) := by decide +kernel
def b_X2_run_212 (u1 : Nat) (v3 : Int32) (S : St) : Option ((Int32 × St) ⊕ St) := some (.inl ((v3 + 1), S))
def b_X2_run_206 (u1 : Nat) (v3 : Int32) (v4 : Int32) (S : St) : Option ((Int32 × Int32 × St) ⊕ ((Int32 × St) ⊕ St)) := some (.inl (v3, (v4 + 1), S))
def b_X2_run_159 (u1 : Nat) (v3 : Int32) (v4 : Int32) (S : St) : Option ((Int32 × Int32 × St) ⊕ ((Int32 × St) ⊕ St)) := (gr S 55 0).bind fun t1 => gd (isTownB t1) ((if (gi S t1 0 : Int32) ≤ v4 then ((b_X2_run_212 u1 v3 S).map Sum.inr) else gd (inb v4 8) ((if (gi S 56 v4.toNatClampNeg : Int32) = v3 then (L_X2_thinkFirst v4 S).bind fun r6 => (L_X2_buyBest v4 r6).bind fun r7 => (L_X2_choose v4 r7).bind fun r8 => (L_X2_thinkAgain v4 r8).bind fun r9 => (b_X2_run_206 u1 v3 v4 r9) else (b_X2_run_206 u1 v3 v4 S)))))
def l_X2_run_159 (u1 : Nat) (x : (Int32 × Int32 × St)) : Option ((Int32 × Int32 × St) ⊕ ((Int32 × St) ⊕ St)) := b_X2_run_159 u1 x.1 x.2.1 x.2.2
def b_X2_run_150 (u1 : Nat) (v3 : Int32) (S : St) : Option ((Int32 × St) ⊕ St) := (if (23 : Int32) < v3 then some (.inr S) else (lp 1000 (l_X2_run_159 u1) (v3, 0, S)))
def l_X2_run_150 (u1 : Nat) (x : (Int32 × St)) : Option ((Int32 × St) ⊕ St) := b_X2_run_150 u1 x.1 x.2
def b_X2_run_148 (u1 : Nat) (S : St) : Option St := (lp 1000 (l_X2_run_150 u1) (0, S))
def b_X2_run_87 (u1 : Nat) (v3 : Int32) (S : St) : Option ((Int32 × St) ⊕ St) := (gr S 55 0).bind fun t1 => gd (isTownB t1) ((if (gi S t1 11 : Int32) ≤ v3 then ((b_X2_run_148 u1 S).map Sum.inr) else (gr S 55 0).bind fun t4 => gd (isTownB t4) (gd (inb v3 3) ((gr S 55 0).bind fun t7 => gd (isTownB t7) (gd (inb v3 3) ((gr S 55 0).bind fun t10 => gd (isTownB t10) (gd (inb v3 3) ((gr S 55 0).bind fun t13 => gd (isTownB t13) (gd (inb 1 3) ((L_X2_offer (8 + v3) (gi S (t4 + 12) v3.toNatClampNeg) (gi S (t7 + 13) v3.toNatClampNeg) (gi S (t10 + 15) v3.toNatClampNeg) (gi S (t13 + 17) ((1 : Int32)).toNatClampNeg) S).bind fun r16 => some (.inl ((v3 + 1), r16))))))))))))
def l_X2_run_87 (u1 : Nat) (x : (Int32 × St)) : Option ((Int32 × St) ⊕ St) := b_X2_run_87 u1 x.1 x.2
def b_X2_run_85 (u1 : Nat) (S : St) : Option St := (lp 1000 (l_X2_run_87 u1) (0, S))
def b_X2_run_41 (u1 : Nat) (v3 : Int32) (S : St) : Option ((Int32 × St) ⊕ St) := (gr S 55 0).bind fun t1 => gd (isTownB t1) ((if (gi S t1 0 : Int32) ≤ v3 then ((b_X2_run_85 u1 S).map Sum.inr) else (gr S 55 0).bind fun t4 => gd (isTownB t4) (gd (inb v3 8) ((gr S (t4 + 1) v3.toNatClampNeg).bind fun q7 => (gr S 55 0).bind fun t8 => gd (isTownB t8) (gd (inb v3 8) ((L_v_dueWhenTold q7 (gi S (t8 + 4) v3.toNatClampNeg) S).bind fun r11 => gd (inb v3 8) (nm (si S 56 v3.toNatClampNeg r11) fun S13 => some (.inl ((v3 + 1), S13)))))))))
def l_X2_run_41 (u1 : Nat) (x : (Int32 × St)) : Option ((Int32 × St) ⊕ St) := b_X2_run_41 u1 x.1 x.2
def b_X2_run_39 (u1 : Nat) (S : St) : Option St := (lp 1000 (l_X2_run_41 u1) (0, S))
def b_X2_run_12 (u1 : Nat) (v3 : Int32) (S : St) : Option ((Int32 × St) ⊕ St) := (if (11 : Int32) ≤ v3 then ((b_X2_run_39 u1 S).map Sum.inr) else gd (inb v3 11) (nm (si S 61 v3.toNatClampNeg 0) fun S3 => gd (inb v3 11) (nm (si S3 65 v3.toNatClampNeg ((-4))) fun S5 => some (.inl ((v3 + 1), S5)))))
def l_X2_run_12 (u1 : Nat) (x : (Int32 × St)) : Option ((Int32 × St) ⊕ St) := b_X2_run_12 u1 x.1 x.2
def b_X2_run_0 (u1 : Nat) (v2 : Int32) (S : St) : Option St := nm (sr S 55 0 (some u1)) fun S1 => nm (si S1 55 1 v2) fun S2 => (lp 1000 (l_X2_run_12 u1) (0, S2))
def L_X2_run (u1 : Nat) (a2 : Int32) (S : St) : Option St := b_X2_run_0 u1 a2 S
def b_X2_toldChoice_0 (v1 : Int32) (S : St) : Option Int32 := gd (inb v1 8) ((if (0 : Int32) ≤ (gi S 58 v1.toNatClampNeg) then gd (inb v1 8) (some (gi S 58 v1.toNatClampNeg)) else some 2))
def L_X2_toldChoice (a1 : Int32) (S : St) : Option Int32 := b_X2_toldChoice_0 a1 S
def b_X2_choices_4 (v1 : Int32) (v2 : Int32) (S : St) : Option ((Int32 × Int32) ⊕ Int32) := (gr S 55 0).bind fun t1 => gd (isTownB t1) ((if (gi S t1 0 : Int32) ≤ v2 then some (.inr v1) else (L_X2_toldChoice v2 S).bind fun r4 => some (.inl ((v1 ||| (r4 <<< ((2 * v2) &&& 31))), (v2 + 1)))))
def l_X2_choices_4 (S : St) (x : (Int32 × Int32)) : Option ((Int32 × Int32) ⊕ Int32) := b_X2_choices_4 x.1 x.2 S
def b_X2_choices_0 (S : St) : Option Int32 := (lp 1000 (l_X2_choices_4 S) (0, 0))
def L_X2_choices (S : St) : Option Int32 := b_X2_choices_0 S
def b_X2_sayYes_30 (v1 : Int32) (v2 : Int32) (S : St) : Option ((Int32 × Int32) ⊕ Int32) := some (.inl (v1, (v2 + 1)))
def b_X2_sayYes_4 (v1 : Int32) (v2 : Int32) (S : St) : Option ((Int32 × Int32) ⊕ Int32) := (gr S 55 0).bind fun t1 => gd (isTownB t1) ((if (gi S t1 0 : Int32) ≤ v2 then some (.inr v1) else gd (inb v2 8) ((if (gi S 58 v2.toNatClampNeg : Int32) ≤ 0 then (b_X2_sayYes_30 v1 v2 S) else (b_X2_sayYes_30 (v1 ||| ((1 : Int32) <<< (v2 &&& 31))) v2 S)))))
def l_X2_sayYes_4 (S : St) (x : (Int32 × Int32)) : Option ((Int32 × Int32) ⊕ Int32) := b_X2_sayYes_4 x.1 x.2 S
def b_X2_sayYes_0 (S : St) : Option Int32 := (lp 1000 (l_X2_sayYes_4 S) (0, 0))
def L_X2_sayYes (S : St) : Option Int32 := b_X2_sayYes_0 S
def b_X2_coinsAt_29 (v1 : Int32) (v2 : Int32) (v3 : Int32) (S : St) : Option Int32 := gd (inb v1 11) ((if (gi S 65 v1.toNatClampNeg : Int32) < 0 then some v3 else gd (inb (gi S 65 v1.toNatClampNeg) 8) ((if (v2 : Int32) < (gi S 56 (gi S 65 v1.toNatClampNeg).toNatClampNeg) then some v3 else gd (inb (gi S 65 v1.toNatClampNeg) 8) (some (v3 + (gi S 60 (gi S 65 v1.toNatClampNeg).toNatClampNeg)))))))
def b_X2_coinsAt_0 (v1 : Int32) (v2 : Int32) (S : St) : Option Int32 := (gr S 55 0).bind fun t1 => gd (isTownB t1) (gd (inb v1 8) (gd (inb v1 8) ((if (v2 : Int32) < (gi S 56 v1.toNatClampNeg) then (b_X2_coinsAt_29 v1 v2 (gi S (t1 + 6) v1.toNatClampNeg) S) else gd (inb v1 8) ((b_X2_coinsAt_29 v1 v2 ((gi S (t1 + 6) v1.toNatClampNeg) - (gi S 60 v1.toNatClampNeg)) S))))))
def L_X2_coinsAt (a1 : Int32) (a2 : Int32) (S : St) : Option Int32 := b_X2_coinsAt_0 a1 a2 S
def b_X2_fateOf_14 (v1 : Int32) (v2 : Int32) (s0 : Int32) (S : St) : Option Int32 := (if (v2 : Int32) = 0 then (L_X2_toldChoice v1 S).bind fun r2 => some r2 else if (v2 : Int32) = 1 then (gr S 55 0).bind fun t4 => gd (isTownB t4) (gd (inb v1 8) ((gr S (t4 + 1) v1.toNatClampNeg).bind fun q7 => gd (inb v1 8) ((L_v_strengthOf q7 (gi S 57 v1.toNatClampNeg) S).bind fun r9 => some r9))) else if (v2 : Int32) = 2 then gd (inb v1 8) (some (gi S 59 v1.toNatClampNeg)) else if (v2 : Int32) = 3 then gd (inb v1 8) ((if (gi S 59 v1.toNatClampNeg : Int32) < 0 then some ((-4)) else gd (inb v1 8) (some (gi S 60 v1.toNatClampNeg)))) else if (v2 : Int32) = 4 then (L_X2_coinsAt v1 23 S).bind fun r17 => some r17 else if (v2 : Int32) = 5 then (if (s0 : Int32) = 0 then some 0 else some 1) else if (v2 : Int32) = 6 then (if (s0 : Int32) = 0 then some ((-4)) else gd (inb v1 11) (some (gi S 63 v1.toNatClampNeg))) else if (v2 : Int32) = 7 then (if (s0 : Int32) = 0 then some ((-4)) else gd (inb v1 11) (some (gi S 62 v1.toNatClampNeg))) else gd (inb v1 11) (some (gi S 65 v1.toNatClampNeg)))
def b_X2_fateOf_0 (v1 : Int32) (v2 : Int32) (S : St) : Option Int32 := gd (inb v1 11) ((if (gi S 61 v1.toNatClampNeg : Int32) = 0 then (b_X2_fateOf_14 v1 v2 0 S) else (b_X2_fateOf_14 v1 v2 1 S)))
def L_X2_fateOf (a1 : Int32) (a2 : Int32) (S : St) : Option Int32 := b_X2_fateOf_0 a1 a2 S
def b_X2_howManyChoose_31 (v1 : Int32) (v3 : Int32) (s0 : Int32) (s1 : Int32) (S : St) : Option ((Int32 × Int32 × Int32) ⊕ Int32) := some (.inl (v1, (s1 + s0), (v3 + 1)))
def b_X2_howManyChoose_4 (v1 : Int32) (v2 : Int32) (v3 : Int32) (S : St) : Option ((Int32 × Int32 × Int32) ⊕ Int32) := (gr S 55 0).bind fun t1 => gd (isTownB t1) ((if (gi S t1 0 : Int32) ≤ v3 then some (.inr v2) else gd (inb v3 8) ((if (gi S 58 v3.toNatClampNeg : Int32) = v1 then (b_X2_howManyChoose_31 v1 v3 1 v2 S) else (b_X2_howManyChoose_31 v1 v3 0 v2 S)))))
def l_X2_howManyChoose_4 (S : St) (x : (Int32 × Int32 × Int32)) : Option ((Int32 × Int32 × Int32) ⊕ Int32) := b_X2_howManyChoose_4 x.1 x.2.1 x.2.2 S
def b_X2_howManyChoose_0 (v1 : Int32) (S : St) : Option Int32 := (lp 1000 (l_X2_howManyChoose_4 S) (v1, 0, 0))
def L_X2_howManyChoose (a1 : Int32) (S : St) : Option Int32 := b_X2_howManyChoose_0 a1 S
def b_X2_howManySold_30 (v2 : Int32) (s0 : Int32) (s1 : Int32) (S : St) : Option ((Int32 × Int32) ⊕ Int32) := some (.inl ((s1 + s0), (v2 + 1)))
def b_X2_howManySold_4 (v1 : Int32) (v2 : Int32) (S : St) : Option ((Int32 × Int32) ⊕ Int32) := (gr S 55 0).bind fun t1 => gd (isTownB t1) ((if (gi S t1 0 : Int32) ≤ v2 then some (.inr v1) else gd (inb v2 8) ((if (gi S 59 v2.toNatClampNeg : Int32) < 0 then (b_X2_howManySold_30 v2 0 v1 S) else (b_X2_howManySold_30 v2 1 v1 S)))))
def l_X2_howManySold_4 (S : St) (x : (Int32 × Int32)) : Option ((Int32 × Int32) ⊕ Int32) := b_X2_howManySold_4 x.1 x.2 S
def b_X2_howManySold_0 (S : St) : Option Int32 := (lp 1000 (l_X2_howManySold_4 S) (0, 0))
def L_X2_howManySold (S : St) : Option Int32 := b_X2_howManySold_0 S
def b_X2_allPaid_4 (v1 : Int32) (v2 : Int32) (S : St) : Option ((Int32 × Int32) ⊕ Int32) := (gr S 55 0).bind fun t1 => gd (isTownB t1) ((if (gi S t1 0 : Int32) ≤ v2 then some (.inr v1) else gd (inb v2 8) (some (.inl ((v1 + (gi S 60 v2.toNatClampNeg)), (v2 + 1))))))
def l_X2_allPaid_4 (S : St) (x : (Int32 × Int32)) : Option ((Int32 × Int32) ⊕ Int32) := b_X2_allPaid_4 x.1 x.2 S
def b_X2_allPaid_0 (S : St) : Option Int32 := (lp 1000 (l_X2_allPaid_4 S) (0, 0))
def L_X2_allPaid (S : St) : Option Int32 := b_X2_allPaid_0 S
def b_X2_howManyRegret_30 (v2 : Int32) (s0 : Int32) (s1 : Int32) (S : St) : Option ((Int32 × Int32) ⊕ Int32) := some (.inl ((s1 + s0), (v2 + 1)))
def b_X2_howManyRegret_4 (v1 : Int32) (v2 : Int32) (S : St) : Option ((Int32 × Int32) ⊕ Int32) := (gr S 55 0).bind fun t1 => gd (isTownB t1) ((if (gi S t1 0 : Int32) ≤ v2 then some (.inr v1) else gd (inb v2 11) ((if (gi S 61 v2.toNatClampNeg : Int32) = 0 then (b_X2_howManyRegret_30 v2 0 v1 S) else (b_X2_howManyRegret_30 v2 1 v1 S)))))
def l_X2_howManyRegret_4 (S : St) (x : (Int32 × Int32)) : Option ((Int32 × Int32) ⊕ Int32) := b_X2_howManyRegret_4 x.1 x.2 S
def b_X2_howManyRegret_0 (S : St) : Option Int32 := (lp 1000 (l_X2_howManyRegret_4 S) (0, 0))
def L_X2_howManyRegret (S : St) : Option Int32 := b_X2_howManyRegret_0 S
def b_X2_countOf_0 (v1 : Int32) (S : St) : Option Int32 := (if (v1 : Int32) = 0 then (L_X2_howManyChoose 1 S).bind fun r2 => some r2 else if (v1 : Int32) = 1 then (L_X2_howManyChoose ((-1)) S).bind fun r4 => some r4 else if (v1 : Int32) = 2 then (L_X2_howManyChoose 0 S).bind fun r6 => some r6 else if (v1 : Int32) = 3 then (L_X2_howManySold S).bind fun r8 => some r8 else if (v1 : Int32) = 4 then (L_X2_allPaid S).bind fun r10 => some r10 else (L_X2_howManyRegret S).bind fun r11 => some r11)
def L_X2_countOf (a1 : Int32) (S : St) : Option Int32 := b_X2_countOf_0 a1 S
section WALKS
variable {p : Program} {e : Env} {s : State} {m : MethodId} {args : Array Value} {below : List Frame} {meth : Method} {c : Code} {D : va_G} {ct : Nat → ClassId} {B : Nat} {Hb : Heap}
set_option maxRecDepth 100000 in
set_option maxHeartbeats 4000000 in
theorem w_X2_run_212 (l : Launch) {V : St} (C0 : XC D ct p s m args meth c cX2_run 5 none RX2) (u1 : Nat) (hu1 : isTown u1) (n0 : Nat) (ih0 : ∀ (v3 : Int32) (S : St) (H : Heap) (locs : List Loc) (ls : Array Slot), (lp n0 (l_X2_run_150 u1) (v3, S)).bind some = some V → MP D ct B Hb S H → va_S (AB B) s.heap H locs → lv_has ls 5 [(0, .ref (B + 55)), (3, .int v3)] → W p l e { frames := 4, cells := 0, slots := 0, locals := 93 } s m args below meth c H locs 0 0 (MQ below (qVw D ct B Hb V) args s 0 0 (AB B)) (F0 m 150 ls [])) (v3 : Int32) (S : St) {H : Heap} {locs : List Loc} {ls : Array Slot} (h : (b_X2_run_212 u1 v3 S).bind (lpF n0 (l_X2_run_150 u1) some) = some V) (hP : MP D ct B Hb S H) (hS : va_S (AB B) s.heap H locs) (hl : lv_has ls 5 [(0, .ref (B + 55)), (3, .int v3)]) : W p l e { frames := 4, cells := 0, slots := 0, locals := 93 } s m args below meth c H locs 0 0 (MQ below (qVw D ct B Hb V) args s 0 0 (AB B)) (F0 m 212 ls []) := by
  obtain ⟨hx, hb, hr, hml, hown, hts, hK, hlocks, hN⟩ := id C0
  unfold b_X2_run_212 at h
  refine lv_iinc (v := v3 + 1) (lv' := [(3, .int (v3 + 1)), (0, .ref (B + 55))]) hx hb dX2_run_212 hl (k := 1) rfl rfl (by decide) rfl (fun ls hl => ?_)
  refine lv_goto (tgt := 150) hx hb dX2_run_215 (by decide) ?_
  exact ih0 (v3 + 1) S _ _ _ h hP hS (lv_sub hl [1, 0] rfl)
set_option maxRecDepth 100000 in
set_option maxHeartbeats 4000000 in
theorem w_X2_run_206 (l : Launch) {V : St} (C0 : XC D ct p s m args meth c cX2_run 5 none RX2) (u1 : Nat) (hu1 : isTown u1) (n0 : Nat) (ih0 : ∀ (v3 : Int32) (S : St) (H : Heap) (locs : List Loc) (ls : Array Slot), (lp n0 (l_X2_run_150 u1) (v3, S)).bind some = some V → MP D ct B Hb S H → va_S (AB B) s.heap H locs → lv_has ls 5 [(0, .ref (B + 55)), (3, .int v3)] → W p l e { frames := 4, cells := 0, slots := 0, locals := 93 } s m args below meth c H locs 0 0 (MQ below (qVw D ct B Hb V) args s 0 0 (AB B)) (F0 m 150 ls [])) (n1 : Nat) (ih1 : ∀ (v3 : Int32) (v4 : Int32) (S : St) (H : Heap) (locs : List Loc) (ls : Array Slot), (lp n1 (l_X2_run_159 u1) (v3, v4, S)).bind (lpF n0 (l_X2_run_150 u1) some) = some V → MP D ct B Hb S H → va_S (AB B) s.heap H locs → lv_has ls 5 [(0, .ref (B + 55)), (3, .int v3), (4, .int v4)] → W p l e { frames := 4, cells := 0, slots := 0, locals := 93 } s m args below meth c H locs 0 0 (MQ below (qVw D ct B Hb V) args s 0 0 (AB B)) (F0 m 159 ls [])) (v3 : Int32) (v4 : Int32) (S : St) {H : Heap} {locs : List Loc} {ls : Array Slot} (h : (b_X2_run_206 u1 v3 v4 S).bind (lpF n1 (l_X2_run_159 u1) (lpF n0 (l_X2_run_150 u1) some)) = some V) (hP : MP D ct B Hb S H) (hS : va_S (AB B) s.heap H locs) (hl : lv_has ls 5 [(0, .ref (B + 55)), (3, .int v3), (4, .int v4)]) : W p l e { frames := 4, cells := 0, slots := 0, locals := 93 } s m args below meth c H locs 0 0 (MQ below (qVw D ct B Hb V) args s 0 0 (AB B)) (F0 m 206 ls []) := by
  obtain ⟨hx, hb, hr, hml, hown, hts, hK, hlocks, hN⟩ := id C0
  unfold b_X2_run_206 at h
  refine lv_iinc (v := v4 + 1) (lv' := [(4, .int (v4 + 1)), (0, .ref (B + 55)), (3, .int v3)]) hx hb dX2_run_206 hl (k := 2) rfl rfl (by decide) rfl (fun ls hl => ?_)
  refine lv_goto (tgt := 159) hx hb dX2_run_209 (by decide) ?_
  exact ih1 v3 (v4 + 1) S _ _ _ h hP hS (lv_sub hl [1, 2, 0] rfl)
set_option maxRecDepth 100000 in
set_option maxHeartbeats 4000000 in
theorem w_X2_run_159 (l : Launch) {V : St} (C0 : XC D ct p s m args meth c cX2_run 5 none RX2) (u1 : Nat) (hu1 : isTown u1) (n0 : Nat) (ih0 : ∀ (v3 : Int32) (S : St) (H : Heap) (locs : List Loc) (ls : Array Slot), (lp n0 (l_X2_run_150 u1) (v3, S)).bind some = some V → MP D ct B Hb S H → va_S (AB B) s.heap H locs → lv_has ls 5 [(0, .ref (B + 55)), (3, .int v3)] → W p l e { frames := 4, cells := 0, slots := 0, locals := 93 } s m args below meth c H locs 0 0 (MQ below (qVw D ct B Hb V) args s 0 0 (AB B)) (F0 m 150 ls [])) (n1 : Nat) (ih1 : ∀ (v3 : Int32) (v4 : Int32) (S : St) (H : Heap) (locs : List Loc) (ls : Array Slot), (lp n1 (l_X2_run_159 u1) (v3, v4, S)).bind (lpF n0 (l_X2_run_150 u1) some) = some V → MP D ct B Hb S H → va_S (AB B) s.heap H locs → lv_has ls 5 [(0, .ref (B + 55)), (3, .int v3), (4, .int v4)] → W p l e { frames := 4, cells := 0, slots := 0, locals := 93 } s m args below meth c H locs 0 0 (MQ below (qVw D ct B Hb V) args s 0 0 (AB B)) (F0 m 159 ls [])) (v3 : Int32) (v4 : Int32) (S : St) {H : Heap} {locs : List Loc} {ls : Array Slot} (h : (b_X2_run_159 u1 v3 v4 S).bind (lpF n1 (l_X2_run_159 u1) (lpF n0 (l_X2_run_150 u1) some)) = some V) (hP : MP D ct B Hb S H) (hS : va_S (AB B) s.heap H locs) (hl : lv_has ls 5 [(0, .ref (B + 55)), (3, .int v3), (4, .int v4)]) : W p l e { frames := 4, cells := 0, slots := 0, locals := 93 } s m args below meth c H locs 0 0 (MQ below (qVw D ct B Hb V) args s 0 0 (AB B)) (F0 m 159 ls []) := by
  obtain ⟨hx, hb, hr, hml, hown, hts, hK, hlocks, hN⟩ := id C0
  unfold b_X2_run_159 at h
  refine lv_iload hx hb dX2_run_159 (lv_at hl 2 rfl) ?_
  refine lv_aload_n hx hb dX2_run_161 rfl (lv_at hl 0 rfl) ?_
  obtain ⟨t1, et1, h⟩ := ob_bd h
  obtain ⟨g2, h⟩ := ob_gd h
  refine x_get (v := .ref (B + t1)) C0 hP (lay_X2 B ct S) rfl inG2 0 (by decide) wd_149 (fun _ h => h) (by show some (va_rf ((gr S 55 0).map (B + ·))) = _; rw [et1]; rfl) dX2_run_162 ?_
  refine x_get C0 hP (lay_X10 B ct S (isTownB_ok g2)) rfl inG10 0 (by decide) wd_60 (fun _ h => h) rfl dX2_run_165 ?_
  refine lv_icmp_ge (tgt := 212) hx hb dX2_run_168 (by decide) (fun z3 => ?_) (fun z3 => ?_)
  · have h := ob_t h z3
    have h := ob_mp h
    exact w_X2_run_212 l C0 u1 hu1 n0 ih0 v3 S h hP hS (lv_sub hl [0, 1] rfl)
  · have h := ob_f h z3
    refine lv_aload_n hx hb dX2_run_171 rfl (lv_at hl 0 rfl) ?_
    refine x_get C0 hP (lay_X2 B ct S) rfl inG2 2 (by decide) wd_151 (fun _ h => h) rfl dX2_run_172 ?_
    refine lv_iload hx hb dX2_run_175 (lv_at hl 2 rfl) ?_
    obtain ⟨g4, h⟩ := ob_gd h
    refine x_iald C0 hP ((fun S => lay_56 B ct S) S) g4 dX2_run_177 ?_
    refine lv_iload_n hx hb dX2_run_178 rfl (lv_at hl 1 rfl) ?_
    refine lv_icmp_ne (tgt := 206) hx hb dX2_run_179 (by decide) (fun z5 => ?_) (fun z5 => ?_)
    · have h := ob_f h z5
      exact w_X2_run_206 l C0 u1 hu1 n0 ih0 n1 ih1 v3 v4 S h hP hS (lv_sub hl [0, 1, 2] rfl)
    · have h := ob_t h z5
      refine lv_aload_n hx hb dX2_run_182 rfl (lv_at hl 0 rfl) ?_
      refine lv_iload hx hb dX2_run_183 (lv_at hl 2 rfl) ?_
      obtain ⟨r6, hr6, h⟩ := ob_bd h
      refine n_Vw (kV (As := [.int v4]) C0 (c_X2_thinkFirst l v4 hr6) ⟨wd_650, wd_647, wd_649, wp_8, wd_4⟩ kd_X2_thinkFirst ⟨Nat.le_of_ble_eq_true rfl, Nat.le_of_ble_eq_true rfl⟩ hP (lay_X2 B ct S) rfl rfl hl.1 rfl (Nat.le_of_ble_eq_true rfl) dX2_run_185 ⟨Nat.le_of_ble_eq_true rfl, Nat.le_of_ble_eq_true rfl⟩) hS (fun H locs hP hS => ?_)
      refine lv_aload_n hx hb dX2_run_188 rfl (lv_at hl 0 rfl) ?_
      refine lv_iload hx hb dX2_run_189 (lv_at hl 2 rfl) ?_
      obtain ⟨r7, hr7, h⟩ := ob_bd h
      refine n_Vw (kV (As := [.int v4]) C0 (c_X2_buyBest l v4 hr7) ⟨wd_681, wd_678, wd_680, wp_9, wd_4⟩ kd_X2_buyBest ⟨Nat.le_of_ble_eq_true rfl, Nat.le_of_ble_eq_true rfl⟩ hP (lay_X2 B ct r6) rfl rfl hl.1 rfl (Nat.le_of_ble_eq_true rfl) dX2_run_191 ⟨Nat.le_of_ble_eq_true rfl, Nat.le_of_ble_eq_true rfl⟩) hS (fun H locs hP hS => ?_)
      refine lv_aload_n hx hb dX2_run_194 rfl (lv_at hl 0 rfl) ?_
      refine lv_iload hx hb dX2_run_195 (lv_at hl 2 rfl) ?_
      obtain ⟨r8, hr8, h⟩ := ob_bd h
      refine n_Vw (kV (As := [.int v4]) C0 (c_X2_choose l v4 hr8) ⟨wd_754, wd_751, wd_753, wp_13, wd_4⟩ kd_X2_choose ⟨Nat.le_of_ble_eq_true rfl, Nat.le_of_ble_eq_true rfl⟩ hP (lay_X2 B ct r7) rfl rfl hl.1 rfl (Nat.le_of_ble_eq_true rfl) dX2_run_197 ⟨Nat.le_of_ble_eq_true rfl, Nat.le_of_ble_eq_true rfl⟩) hS (fun H locs hP hS => ?_)
      refine lv_aload_n hx hb dX2_run_200 rfl (lv_at hl 0 rfl) ?_
      refine lv_iload hx hb dX2_run_201 (lv_at hl 2 rfl) ?_
      obtain ⟨r9, hr9, h⟩ := ob_bd h
      refine n_Vw (kV (As := [.int v4]) C0 (c_X2_thinkAgain l v4 hr9) ⟨wd_764, wd_761, wd_763, wp_14, wd_4⟩ kd_X2_thinkAgain ⟨Nat.le_of_ble_eq_true rfl, Nat.le_of_ble_eq_true rfl⟩ hP (lay_X2 B ct r8) rfl rfl hl.1 rfl (Nat.le_of_ble_eq_true rfl) dX2_run_203 ⟨Nat.le_of_ble_eq_true rfl, Nat.le_of_ble_eq_true rfl⟩) hS (fun H locs hP hS => ?_)
      exact w_X2_run_206 l C0 u1 hu1 n0 ih0 n1 ih1 v3 v4 r9 h hP hS (lv_sub hl [0, 1, 2] rfl)
set_option maxRecDepth 100000 in
set_option maxHeartbeats 4000000 in
theorem wl_X2_run_159 (l : Launch) {V : St} (C0 : XC D ct p s m args meth c cX2_run 5 none RX2) (u1 : Nat) (hu1 : isTown u1) (n0 : Nat) (ih0 : ∀ (v3 : Int32) (S : St) (H : Heap) (locs : List Loc) (ls : Array Slot), (lp n0 (l_X2_run_150 u1) (v3, S)).bind some = some V → MP D ct B Hb S H → va_S (AB B) s.heap H locs → lv_has ls 5 [(0, .ref (B + 55)), (3, .int v3)] → W p l e { frames := 4, cells := 0, slots := 0, locals := 93 } s m args below meth c H locs 0 0 (MQ below (qVw D ct B Hb V) args s 0 0 (AB B)) (F0 m 150 ls []))  : ∀ (n1 : Nat) (v3 : Int32) (v4 : Int32) (S : St) {H : Heap} {locs : List Loc} {ls : Array Slot}, (lp n1 (l_X2_run_159 u1) (v3, v4, S)).bind (lpF n0 (l_X2_run_150 u1) some) = some V → MP D ct B Hb S H → va_S (AB B) s.heap H locs → lv_has ls 5 [(0, .ref (B + 55)), (3, .int v3), (4, .int v4)] → W p l e { frames := 4, cells := 0, slots := 0, locals := 93 } s m args below meth c H locs 0 0 (MQ below (qVw D ct B Hb V) args s 0 0 (AB B)) (F0 m 159 ls []) := by
  intro n1
  induction n1 with
  | zero =>
    intro v3 v4 S H locs ls h hP hS hl
    exact (lp_0 h).elim
  | succ n1 ih1 =>
    intro v3 v4 S H locs ls h hP hS hl
    have h := lp_s h
    exact w_X2_run_159 l C0 u1 hu1 n0 ih0 n1 (fun v3 v4 S H locs ls h hP hS hl => ih1 v3 v4 S h hP hS hl) v3 v4 S h hP hS hl
set_option maxRecDepth 100000 in
set_option maxHeartbeats 4000000 in
theorem w_X2_run_150 (l : Launch) {V : St} (C0 : XC D ct p s m args meth c cX2_run 5 none RX2) (u1 : Nat) (hu1 : isTown u1) (n0 : Nat) (ih0 : ∀ (v3 : Int32) (S : St) (H : Heap) (locs : List Loc) (ls : Array Slot), (lp n0 (l_X2_run_150 u1) (v3, S)).bind some = some V → MP D ct B Hb S H → va_S (AB B) s.heap H locs → lv_has ls 5 [(0, .ref (B + 55)), (3, .int v3)] → W p l e { frames := 4, cells := 0, slots := 0, locals := 93 } s m args below meth c H locs 0 0 (MQ below (qVw D ct B Hb V) args s 0 0 (AB B)) (F0 m 150 ls [])) (v3 : Int32) (S : St) {H : Heap} {locs : List Loc} {ls : Array Slot} (h : (b_X2_run_150 u1 v3 S).bind (lpF n0 (l_X2_run_150 u1) some) = some V) (hP : MP D ct B Hb S H) (hS : va_S (AB B) s.heap H locs) (hl : lv_has ls 5 [(0, .ref (B + 55)), (3, .int v3)]) : W p l e { frames := 4, cells := 0, slots := 0, locals := 93 } s m args below meth c H locs 0 0 (MQ below (qVw D ct B Hb V) args s 0 0 (AB B)) (F0 m 150 ls []) := by
  obtain ⟨hx, hb, hr, hml, hown, hts, hK, hlocks, hN⟩ := id C0
  unfold b_X2_run_150 at h
  refine lv_iload_n hx hb dX2_run_150 rfl (lv_at hl 1 rfl) ?_
  refine lv_bipush (v := 23) hx hb dX2_run_151 (by decide) ?_
  refine lv_icmp_gt (tgt := 218) hx hb dX2_run_153 (by decide) (fun z1 => ?_) (fun z1 => ?_)
  · have h := ob_t h z1
    exact r_Vw C0 hP hS h dX2_run_218
  · have h := ob_f h z1
    refine lv_iconst (v := 0) hx hb dX2_run_156 (by decide) ?_
    refine lv_istore (lv' := [(4, .int 0), (0, .ref (B + 55)), (3, .int v3)]) hx hb dX2_run_157 hl (by decide) rfl (fun ls hl => ?_)
    exact wl_X2_run_159 l C0 u1 hu1 n0 ih0 1000 v3 0 S h hP hS (lv_sub hl [1, 2, 0] rfl)
set_option maxRecDepth 100000 in
set_option maxHeartbeats 4000000 in
theorem wl_X2_run_150 (l : Launch) {V : St} (C0 : XC D ct p s m args meth c cX2_run 5 none RX2) (u1 : Nat) (hu1 : isTown u1)  : ∀ (n0 : Nat) (v3 : Int32) (S : St) {H : Heap} {locs : List Loc} {ls : Array Slot}, (lp n0 (l_X2_run_150 u1) (v3, S)).bind some = some V → MP D ct B Hb S H → va_S (AB B) s.heap H locs → lv_has ls 5 [(0, .ref (B + 55)), (3, .int v3)] → W p l e { frames := 4, cells := 0, slots := 0, locals := 93 } s m args below meth c H locs 0 0 (MQ below (qVw D ct B Hb V) args s 0 0 (AB B)) (F0 m 150 ls []) := by
  intro n0
  induction n0 with
  | zero =>
    intro v3 S H locs ls h hP hS hl
    exact (lp_0 h).elim
  | succ n0 ih0 =>
    intro v3 S H locs ls h hP hS hl
    have h := lp_s h
    exact w_X2_run_150 l C0 u1 hu1 n0 (fun v3 S H locs ls h hP hS hl => ih0 v3 S h hP hS hl) v3 S h hP hS hl
set_option maxRecDepth 100000 in
set_option maxHeartbeats 4000000 in
theorem w_X2_run_148 (l : Launch) {V : St} (C0 : XC D ct p s m args meth c cX2_run 5 none RX2) (u1 : Nat) (hu1 : isTown u1) (S : St) {H : Heap} {locs : List Loc} {ls : Array Slot} (h : (b_X2_run_148 u1 S).bind some = some V) (hP : MP D ct B Hb S H) (hS : va_S (AB B) s.heap H locs) (hl : lv_has ls 5 [(0, .ref (B + 55))]) : W p l e { frames := 4, cells := 0, slots := 0, locals := 93 } s m args below meth c H locs 0 0 (MQ below (qVw D ct B Hb V) args s 0 0 (AB B)) (F0 m 148 ls []) := by
  obtain ⟨hx, hb, hr, hml, hown, hts, hK, hlocks, hN⟩ := id C0
  unfold b_X2_run_148 at h
  refine lv_iconst (v := 0) hx hb dX2_run_148 (by decide) ?_
  refine lv_istore_n (lv' := [(3, .int 0), (0, .ref (B + 55))]) hx hb dX2_run_149 rfl hl (by decide) rfl (fun ls hl => ?_)
  exact wl_X2_run_150 l C0 u1 hu1 1000 0 S h hP hS (lv_sub hl [1, 0] rfl)
set_option maxRecDepth 100000 in
set_option maxHeartbeats 4000000 in
theorem w_X2_run_87 (l : Launch) {V : St} (C0 : XC D ct p s m args meth c cX2_run 5 none RX2) (u1 : Nat) (hu1 : isTown u1) (n0 : Nat) (ih0 : ∀ (v3 : Int32) (S : St) (H : Heap) (locs : List Loc) (ls : Array Slot), (lp n0 (l_X2_run_87 u1) (v3, S)).bind some = some V → MP D ct B Hb S H → va_S (AB B) s.heap H locs → lv_has ls 5 [(0, .ref (B + 55)), (3, .int v3)] → W p l e { frames := 4, cells := 0, slots := 0, locals := 93 } s m args below meth c H locs 0 0 (MQ below (qVw D ct B Hb V) args s 0 0 (AB B)) (F0 m 87 ls [])) (v3 : Int32) (S : St) {H : Heap} {locs : List Loc} {ls : Array Slot} (h : (b_X2_run_87 u1 v3 S).bind (lpF n0 (l_X2_run_87 u1) some) = some V) (hP : MP D ct B Hb S H) (hS : va_S (AB B) s.heap H locs) (hl : lv_has ls 5 [(0, .ref (B + 55)), (3, .int v3)]) : W p l e { frames := 4, cells := 0, slots := 0, locals := 93 } s m args below meth c H locs 0 0 (MQ below (qVw D ct B Hb V) args s 0 0 (AB B)) (F0 m 87 ls []) := by
  obtain ⟨hx, hb, hr, hml, hown, hts, hK, hlocks, hN⟩ := id C0
  unfold b_X2_run_87 at h
  refine lv_iload_n hx hb dX2_run_87 rfl (lv_at hl 1 rfl) ?_
  refine lv_aload_n hx hb dX2_run_88 rfl (lv_at hl 0 rfl) ?_
  obtain ⟨t1, et1, h⟩ := ob_bd h
  obtain ⟨g2, h⟩ := ob_gd h
  refine x_get (v := .ref (B + t1)) C0 hP (lay_X2 B ct S) rfl inG2 0 (by decide) wd_149 (fun _ h => h) (by show some (va_rf ((gr S 55 0).map (B + ·))) = _; rw [et1]; rfl) dX2_run_89 ?_
  refine x_get C0 hP (lay_X10 B ct S (isTownB_ok g2)) rfl inG10 11 (by decide) wd_85 (fun _ h => h) rfl dX2_run_92 ?_
  refine lv_icmp_ge (tgt := 148) hx hb dX2_run_95 (by decide) (fun z3 => ?_) (fun z3 => ?_)
  · have h := ob_t h z3
    have h := ob_mp h
    exact w_X2_run_148 l C0 u1 hu1 S h hP hS (lv_sub hl [0] rfl)
  · have h := ob_f h z3
    refine lv_aload_n hx hb dX2_run_98 rfl (lv_at hl 0 rfl) ?_
    refine lv_bipush (v := 8) hx hb dX2_run_99 (by decide) ?_
    refine lv_iload_n hx hb dX2_run_101 rfl (lv_at hl 1 rfl) ?_
    refine lv_iadd hx hb dX2_run_102 ?_
    refine lv_aload_n hx hb dX2_run_103 rfl (lv_at hl 0 rfl) ?_
    obtain ⟨t4, et4, h⟩ := ob_bd h
    obtain ⟨g5, h⟩ := ob_gd h
    refine x_get (v := .ref (B + t4)) C0 hP (lay_X2 B ct S) rfl inG2 0 (by decide) wd_149 (fun _ h => h) (by show some (va_rf ((gr S 55 0).map (B + ·))) = _; rw [et4]; rfl) dX2_run_104 ?_
    refine x_get C0 hP (lay_X10 B ct S (isTownB_ok g5)) rfl inG10 13 (by decide) wd_91 (fun _ h => h) rfl dX2_run_107 ?_
    refine lv_iload_n hx hb dX2_run_110 rfl (lv_at hl 1 rfl) ?_
    obtain ⟨g6, h⟩ := ob_gd h
    refine x_iald C0 hP ((fun S => lay_t12 B ct S (isTownB_ok g5)) S) g6 dX2_run_111 ?_
    refine lv_aload_n hx hb dX2_run_112 rfl (lv_at hl 0 rfl) ?_
    obtain ⟨t7, et7, h⟩ := ob_bd h
    obtain ⟨g8, h⟩ := ob_gd h
    refine x_get (v := .ref (B + t7)) C0 hP (lay_X2 B ct S) rfl inG2 0 (by decide) wd_149 (fun _ h => h) (by show some (va_rf ((gr S 55 0).map (B + ·))) = _; rw [et7]; rfl) dX2_run_113 ?_
    refine x_get C0 hP (lay_X10 B ct S (isTownB_ok g8)) rfl inG10 14 (by decide) wd_93 (fun _ h => h) rfl dX2_run_116 ?_
    refine lv_iload_n hx hb dX2_run_119 rfl (lv_at hl 1 rfl) ?_
    obtain ⟨g9, h⟩ := ob_gd h
    refine x_iald C0 hP ((fun S => lay_t13 B ct S (isTownB_ok g8)) S) g9 dX2_run_120 ?_
    refine lv_aload_n hx hb dX2_run_121 rfl (lv_at hl 0 rfl) ?_
    obtain ⟨t10, et10, h⟩ := ob_bd h
    obtain ⟨g11, h⟩ := ob_gd h
    refine x_get (v := .ref (B + t10)) C0 hP (lay_X2 B ct S) rfl inG2 0 (by decide) wd_149 (fun _ h => h) (by show some (va_rf ((gr S 55 0).map (B + ·))) = _; rw [et10]; rfl) dX2_run_122 ?_
    refine x_get C0 hP (lay_X10 B ct S (isTownB_ok g11)) rfl inG10 16 (by decide) wd_98 (fun _ h => h) rfl dX2_run_125 ?_
    refine lv_iload_n hx hb dX2_run_128 rfl (lv_at hl 1 rfl) ?_
    obtain ⟨g12, h⟩ := ob_gd h
    refine x_iald C0 hP ((fun S => lay_t15 B ct S (isTownB_ok g11)) S) g12 dX2_run_129 ?_
    refine lv_aload_n hx hb dX2_run_130 rfl (lv_at hl 0 rfl) ?_
    obtain ⟨t13, et13, h⟩ := ob_bd h
    obtain ⟨g14, h⟩ := ob_gd h
    refine x_get (v := .ref (B + t13)) C0 hP (lay_X2 B ct S) rfl inG2 0 (by decide) wd_149 (fun _ h => h) (by show some (va_rf ((gr S 55 0).map (B + ·))) = _; rw [et13]; rfl) dX2_run_131 ?_
    refine x_get C0 hP (lay_X10 B ct S (isTownB_ok g14)) rfl inG10 18 (by decide) wd_101 (fun _ h => h) rfl dX2_run_134 ?_
    refine lv_iconst (v := 1) hx hb dX2_run_137 (by decide) ?_
    obtain ⟨g15, h⟩ := ob_gd h
    refine x_iald C0 hP ((fun S => lay_t17 B ct S (isTownB_ok g14)) S) g15 dX2_run_138 ?_
    obtain ⟨r16, hr16, h⟩ := ob_bd h
    refine n_Vw (kV (As := [.int (8 + v3), .int (gi S (t4 + 12) v3.toNatClampNeg), .int (gi S (t7 + 13) v3.toNatClampNeg), .int (gi S (t10 + 15) v3.toNatClampNeg), .int (gi S (t13 + 17) ((1 : Int32)).toNatClampNeg)]) C0 (c_X2_offer l (8 + v3) (gi S (t4 + 12) v3.toNatClampNeg) (gi S (t7 + 13) v3.toNatClampNeg) (gi S (t10 + 15) v3.toNatClampNeg) (gi S (t13 + 17) ((1 : Int32)).toNatClampNeg) hr16) ⟨wd_646, wd_643, wd_645, wp_7, wd_4⟩ kd_X2_offer ⟨Nat.le_of_ble_eq_true rfl, Nat.le_of_ble_eq_true rfl⟩ hP (lay_X2 B ct S) rfl rfl hl.1 rfl (Nat.le_of_ble_eq_true rfl) dX2_run_139 ⟨Nat.le_of_ble_eq_true rfl, Nat.le_of_ble_eq_true rfl⟩) hS (fun H locs hP hS => ?_)
    refine lv_iinc (v := v3 + 1) (lv' := [(3, .int (v3 + 1)), (0, .ref (B + 55))]) hx hb dX2_run_142 hl (k := 1) rfl rfl (by decide) rfl (fun ls hl => ?_)
    refine lv_goto (tgt := 87) hx hb dX2_run_145 (by decide) ?_
    exact ih0 (v3 + 1) r16 _ _ _ h hP hS (lv_sub hl [1, 0] rfl)
set_option maxRecDepth 100000 in
set_option maxHeartbeats 4000000 in
theorem wl_X2_run_87 (l : Launch) {V : St} (C0 : XC D ct p s m args meth c cX2_run 5 none RX2) (u1 : Nat) (hu1 : isTown u1)  : ∀ (n0 : Nat) (v3 : Int32) (S : St) {H : Heap} {locs : List Loc} {ls : Array Slot}, (lp n0 (l_X2_run_87 u1) (v3, S)).bind some = some V → MP D ct B Hb S H → va_S (AB B) s.heap H locs → lv_has ls 5 [(0, .ref (B + 55)), (3, .int v3)] → W p l e { frames := 4, cells := 0, slots := 0, locals := 93 } s m args below meth c H locs 0 0 (MQ below (qVw D ct B Hb V) args s 0 0 (AB B)) (F0 m 87 ls []) := by
  intro n0
  induction n0 with
  | zero =>
    intro v3 S H locs ls h hP hS hl
    exact (lp_0 h).elim
  | succ n0 ih0 =>
    intro v3 S H locs ls h hP hS hl
    have h := lp_s h
    exact w_X2_run_87 l C0 u1 hu1 n0 (fun v3 S H locs ls h hP hS hl => ih0 v3 S h hP hS hl) v3 S h hP hS hl
set_option maxRecDepth 100000 in
set_option maxHeartbeats 4000000 in
theorem w_X2_run_85 (l : Launch) {V : St} (C0 : XC D ct p s m args meth c cX2_run 5 none RX2) (u1 : Nat) (hu1 : isTown u1) (S : St) {H : Heap} {locs : List Loc} {ls : Array Slot} (h : (b_X2_run_85 u1 S).bind some = some V) (hP : MP D ct B Hb S H) (hS : va_S (AB B) s.heap H locs) (hl : lv_has ls 5 [(0, .ref (B + 55))]) : W p l e { frames := 4, cells := 0, slots := 0, locals := 93 } s m args below meth c H locs 0 0 (MQ below (qVw D ct B Hb V) args s 0 0 (AB B)) (F0 m 85 ls []) := by
  obtain ⟨hx, hb, hr, hml, hown, hts, hK, hlocks, hN⟩ := id C0
  unfold b_X2_run_85 at h
  refine lv_iconst (v := 0) hx hb dX2_run_85 (by decide) ?_
  refine lv_istore_n (lv' := [(3, .int 0), (0, .ref (B + 55))]) hx hb dX2_run_86 rfl hl (by decide) rfl (fun ls hl => ?_)
  exact wl_X2_run_87 l C0 u1 hu1 1000 0 S h hP hS (lv_sub hl [1, 0] rfl)
set_option maxRecDepth 100000 in
set_option maxHeartbeats 4000000 in
theorem w_X2_run_41 (l : Launch) {V : St} (C0 : XC D ct p s m args meth c cX2_run 5 none RX2) (u1 : Nat) (hu1 : isTown u1) (n0 : Nat) (ih0 : ∀ (v3 : Int32) (S : St) (H : Heap) (locs : List Loc) (ls : Array Slot), (lp n0 (l_X2_run_41 u1) (v3, S)).bind some = some V → MP D ct B Hb S H → va_S (AB B) s.heap H locs → lv_has ls 5 [(0, .ref (B + 55)), (3, .int v3)] → W p l e { frames := 4, cells := 0, slots := 0, locals := 93 } s m args below meth c H locs 0 0 (MQ below (qVw D ct B Hb V) args s 0 0 (AB B)) (F0 m 41 ls [])) (v3 : Int32) (S : St) {H : Heap} {locs : List Loc} {ls : Array Slot} (h : (b_X2_run_41 u1 v3 S).bind (lpF n0 (l_X2_run_41 u1) some) = some V) (hP : MP D ct B Hb S H) (hS : va_S (AB B) s.heap H locs) (hl : lv_has ls 5 [(0, .ref (B + 55)), (3, .int v3)]) : W p l e { frames := 4, cells := 0, slots := 0, locals := 93 } s m args below meth c H locs 0 0 (MQ below (qVw D ct B Hb V) args s 0 0 (AB B)) (F0 m 41 ls []) := by
  obtain ⟨hx, hb, hr, hml, hown, hts, hK, hlocks, hN⟩ := id C0
  unfold b_X2_run_41 at h
  refine lv_iload_n hx hb dX2_run_41 rfl (lv_at hl 1 rfl) ?_
  refine lv_aload_n hx hb dX2_run_42 rfl (lv_at hl 0 rfl) ?_
  obtain ⟨t1, et1, h⟩ := ob_bd h
  obtain ⟨g2, h⟩ := ob_gd h
  refine x_get (v := .ref (B + t1)) C0 hP (lay_X2 B ct S) rfl inG2 0 (by decide) wd_149 (fun _ h => h) (by show some (va_rf ((gr S 55 0).map (B + ·))) = _; rw [et1]; rfl) dX2_run_43 ?_
  refine x_get C0 hP (lay_X10 B ct S (isTownB_ok g2)) rfl inG10 0 (by decide) wd_60 (fun _ h => h) rfl dX2_run_46 ?_
  refine lv_icmp_ge (tgt := 85) hx hb dX2_run_49 (by decide) (fun z3 => ?_) (fun z3 => ?_)
  · have h := ob_t h z3
    have h := ob_mp h
    exact w_X2_run_85 l C0 u1 hu1 S h hP hS (lv_sub hl [0] rfl)
  · have h := ob_f h z3
    refine lv_aload_n hx hb dX2_run_52 rfl (lv_at hl 0 rfl) ?_
    refine x_get C0 hP (lay_X2 B ct S) rfl inG2 2 (by decide) wd_151 (fun _ h => h) rfl dX2_run_53 ?_
    refine lv_iload_n hx hb dX2_run_56 rfl (lv_at hl 1 rfl) ?_
    refine lv_aload_n hx hb dX2_run_57 rfl (lv_at hl 0 rfl) ?_
    obtain ⟨t4, et4, h⟩ := ob_bd h
    obtain ⟨g5, h⟩ := ob_gd h
    refine x_get (v := .ref (B + t4)) C0 hP (lay_X2 B ct S) rfl inG2 0 (by decide) wd_149 (fun _ h => h) (by show some (va_rf ((gr S 55 0).map (B + ·))) = _; rw [et4]; rfl) dX2_run_58 ?_
    refine x_get C0 hP (lay_X10 B ct S (isTownB_ok g5)) rfl inG10 1 (by decide) wd_63 (fun _ h => h) rfl dX2_run_61 ?_
    refine lv_iload_n hx hb dX2_run_64 rfl (lv_at hl 1 rfl) ?_
    obtain ⟨g6, h⟩ := ob_gd h
    obtain ⟨q7, eq7, h⟩ := ob_bd h
    refine x_aald (v := .ref (B + q7)) C0 hP ((fun S => lay_t1 B ct S (isTownB_ok g5)) S) rfl rfl g6 (by show va_rf ((gr S (t4 + 1) v3.toNatClampNeg).map (B + ·)) = _; rw [eq7]; rfl) dX2_run_65 ?_
    refine lv_aload_n hx hb dX2_run_66 rfl (lv_at hl 0 rfl) ?_
    obtain ⟨t8, et8, h⟩ := ob_bd h
    obtain ⟨g9, h⟩ := ob_gd h
    refine x_get (v := .ref (B + t8)) C0 hP (lay_X2 B ct S) rfl inG2 0 (by decide) wd_149 (fun _ h => h) (by show some (va_rf ((gr S 55 0).map (B + ·))) = _; rw [et8]; rfl) dX2_run_67 ?_
    refine x_get C0 hP (lay_X10 B ct S (isTownB_ok g9)) rfl inG10 3 (by decide) wd_69 (fun _ h => h) rfl dX2_run_70 ?_
    refine lv_iload_n hx hb dX2_run_73 rfl (lv_at hl 1 rfl) ?_
    obtain ⟨g10, h⟩ := ob_gd h
    refine x_iald C0 hP ((fun S => lay_t4 B ct S (isTownB_ok g9)) S) g10 dX2_run_74 ?_
    obtain ⟨r11, hr11, h⟩ := ob_bd h
    refine n_I (kv_dueWhenTold l C0 wd_625 q7 (gi S (t8 + 4) v3.toNatClampNeg) hr11 ⟨Nat.le_of_ble_eq_true rfl, Nat.le_of_ble_eq_true rfl⟩ hP hl.1 rfl (Nat.le_of_ble_eq_true rfl) dX2_run_75) hS (fun H locs hP hS => ?_)
    obtain ⟨g12, h⟩ := ob_gd h
    obtain ⟨S13, eS13, h⟩ := ob_nm h
    refine x_iast C0 hP hS (fun S => lay_56 B ct S) g12 dX2_run_78 (fun H locs hP hS => ?_)
    rw [← eS13] at hP
    refine lv_iinc (v := v3 + 1) (lv' := [(3, .int (v3 + 1)), (0, .ref (B + 55))]) hx hb dX2_run_79 hl (k := 1) rfl rfl (by decide) rfl (fun ls hl => ?_)
    refine lv_goto (tgt := 41) hx hb dX2_run_82 (by decide) ?_
    exact ih0 (v3 + 1) S13 _ _ _ h hP hS (lv_sub hl [1, 0] rfl)
set_option maxRecDepth 100000 in
set_option maxHeartbeats 4000000 in
theorem wl_X2_run_41 (l : Launch) {V : St} (C0 : XC D ct p s m args meth c cX2_run 5 none RX2) (u1 : Nat) (hu1 : isTown u1)  : ∀ (n0 : Nat) (v3 : Int32) (S : St) {H : Heap} {locs : List Loc} {ls : Array Slot}, (lp n0 (l_X2_run_41 u1) (v3, S)).bind some = some V → MP D ct B Hb S H → va_S (AB B) s.heap H locs → lv_has ls 5 [(0, .ref (B + 55)), (3, .int v3)] → W p l e { frames := 4, cells := 0, slots := 0, locals := 93 } s m args below meth c H locs 0 0 (MQ below (qVw D ct B Hb V) args s 0 0 (AB B)) (F0 m 41 ls []) := by
  intro n0
  induction n0 with
  | zero =>
    intro v3 S H locs ls h hP hS hl
    exact (lp_0 h).elim
  | succ n0 ih0 =>
    intro v3 S H locs ls h hP hS hl
    have h := lp_s h
    exact w_X2_run_41 l C0 u1 hu1 n0 (fun v3 S H locs ls h hP hS hl => ih0 v3 S h hP hS hl) v3 S h hP hS hl
set_option maxRecDepth 100000 in
set_option maxHeartbeats 4000000 in
theorem w_X2_run_39 (l : Launch) {V : St} (C0 : XC D ct p s m args meth c cX2_run 5 none RX2) (u1 : Nat) (hu1 : isTown u1) (S : St) {H : Heap} {locs : List Loc} {ls : Array Slot} (h : (b_X2_run_39 u1 S).bind some = some V) (hP : MP D ct B Hb S H) (hS : va_S (AB B) s.heap H locs) (hl : lv_has ls 5 [(0, .ref (B + 55))]) : W p l e { frames := 4, cells := 0, slots := 0, locals := 93 } s m args below meth c H locs 0 0 (MQ below (qVw D ct B Hb V) args s 0 0 (AB B)) (F0 m 39 ls []) := by
  obtain ⟨hx, hb, hr, hml, hown, hts, hK, hlocks, hN⟩ := id C0
  unfold b_X2_run_39 at h
  refine lv_iconst (v := 0) hx hb dX2_run_39 (by decide) ?_
  refine lv_istore_n (lv' := [(3, .int 0), (0, .ref (B + 55))]) hx hb dX2_run_40 rfl hl (by decide) rfl (fun ls hl => ?_)
  exact wl_X2_run_41 l C0 u1 hu1 1000 0 S h hP hS (lv_sub hl [1, 0] rfl)
set_option maxRecDepth 100000 in
set_option maxHeartbeats 4000000 in
theorem w_X2_run_12 (l : Launch) {V : St} (C0 : XC D ct p s m args meth c cX2_run 5 none RX2) (u1 : Nat) (hu1 : isTown u1) (n0 : Nat) (ih0 : ∀ (v3 : Int32) (S : St) (H : Heap) (locs : List Loc) (ls : Array Slot), (lp n0 (l_X2_run_12 u1) (v3, S)).bind some = some V → MP D ct B Hb S H → va_S (AB B) s.heap H locs → lv_has ls 5 [(0, .ref (B + 55)), (3, .int v3)] → W p l e { frames := 4, cells := 0, slots := 0, locals := 93 } s m args below meth c H locs 0 0 (MQ below (qVw D ct B Hb V) args s 0 0 (AB B)) (F0 m 12 ls [])) (v3 : Int32) (S : St) {H : Heap} {locs : List Loc} {ls : Array Slot} (h : (b_X2_run_12 u1 v3 S).bind (lpF n0 (l_X2_run_12 u1) some) = some V) (hP : MP D ct B Hb S H) (hS : va_S (AB B) s.heap H locs) (hl : lv_has ls 5 [(0, .ref (B + 55)), (3, .int v3)]) : W p l e { frames := 4, cells := 0, slots := 0, locals := 93 } s m args below meth c H locs 0 0 (MQ below (qVw D ct B Hb V) args s 0 0 (AB B)) (F0 m 12 ls []) := by
  obtain ⟨hx, hb, hr, hml, hown, hts, hK, hlocks, hN⟩ := id C0
  unfold b_X2_run_12 at h
  refine lv_iload_n hx hb dX2_run_12 rfl (lv_at hl 1 rfl) ?_
  refine lv_bipush (v := 11) hx hb dX2_run_13 (by decide) ?_
  refine lv_icmp_ge (tgt := 39) hx hb dX2_run_15 (by decide) (fun z1 => ?_) (fun z1 => ?_)
  · have h := ob_t h z1
    have h := ob_mp h
    exact w_X2_run_39 l C0 u1 hu1 S h hP hS (lv_sub hl [0] rfl)
  · have h := ob_f h z1
    refine lv_aload_n hx hb dX2_run_18 rfl (lv_at hl 0 rfl) ?_
    refine x_get C0 hP (lay_X2 B ct S) rfl inG2 7 (by decide) wd_158 (fun _ h => h) rfl dX2_run_19 ?_
    refine lv_iload_n hx hb dX2_run_22 rfl (lv_at hl 1 rfl) ?_
    refine lv_iconst (v := 0) hx hb dX2_run_23 (by decide) ?_
    obtain ⟨g2, h⟩ := ob_gd h
    obtain ⟨S3, eS3, h⟩ := ob_nm h
    refine x_iast C0 hP hS (fun S => lay_61 B ct S) g2 dX2_run_24 (fun H locs hP hS => ?_)
    rw [← eS3] at hP
    refine lv_aload_n hx hb dX2_run_25 rfl (lv_at hl 0 rfl) ?_
    refine x_get C0 hP (lay_X2 B ct S3) rfl inG2 11 (by decide) wd_163 (fun _ h => h) rfl dX2_run_26 ?_
    refine lv_iload_n hx hb dX2_run_29 rfl (lv_at hl 1 rfl) ?_
    refine lv_bipush (v := (-4)) hx hb dX2_run_30 (by decide) ?_
    obtain ⟨g4, h⟩ := ob_gd h
    obtain ⟨S5, eS5, h⟩ := ob_nm h
    refine x_iast C0 hP hS (fun S => lay_65 B ct S) g4 dX2_run_32 (fun H locs hP hS => ?_)
    rw [← eS5] at hP
    refine lv_iinc (v := v3 + 1) (lv' := [(3, .int (v3 + 1)), (0, .ref (B + 55))]) hx hb dX2_run_33 hl (k := 1) rfl rfl (by decide) rfl (fun ls hl => ?_)
    refine lv_goto (tgt := 12) hx hb dX2_run_36 (by decide) ?_
    exact ih0 (v3 + 1) S5 _ _ _ h hP hS (lv_sub hl [1, 0] rfl)
set_option maxRecDepth 100000 in
set_option maxHeartbeats 4000000 in
theorem wl_X2_run_12 (l : Launch) {V : St} (C0 : XC D ct p s m args meth c cX2_run 5 none RX2) (u1 : Nat) (hu1 : isTown u1)  : ∀ (n0 : Nat) (v3 : Int32) (S : St) {H : Heap} {locs : List Loc} {ls : Array Slot}, (lp n0 (l_X2_run_12 u1) (v3, S)).bind some = some V → MP D ct B Hb S H → va_S (AB B) s.heap H locs → lv_has ls 5 [(0, .ref (B + 55)), (3, .int v3)] → W p l e { frames := 4, cells := 0, slots := 0, locals := 93 } s m args below meth c H locs 0 0 (MQ below (qVw D ct B Hb V) args s 0 0 (AB B)) (F0 m 12 ls []) := by
  intro n0
  induction n0 with
  | zero =>
    intro v3 S H locs ls h hP hS hl
    exact (lp_0 h).elim
  | succ n0 ih0 =>
    intro v3 S H locs ls h hP hS hl
    have h := lp_s h
    exact w_X2_run_12 l C0 u1 hu1 n0 (fun v3 S H locs ls h hP hS hl => ih0 v3 S h hP hS hl) v3 S h hP hS hl
set_option maxRecDepth 100000 in
set_option maxHeartbeats 4000000 in
theorem w_X2_run_0 (l : Launch) {V : St} (C0 : XC D ct p s m args meth c cX2_run 5 none RX2) (u1 : Nat) (hu1 : isTown u1) (v2 : Int32) (S : St) {H : Heap} {locs : List Loc} {ls : Array Slot} (h : (b_X2_run_0 u1 v2 S).bind some = some V) (hP : MP D ct B Hb S H) (hS : va_S (AB B) s.heap H locs) (hl : lv_has ls 5 [(0, .ref (B + 55)), (1, .ref (B + u1)), (2, .int v2)]) : W p l e { frames := 4, cells := 0, slots := 0, locals := 93 } s m args below meth c H locs 0 0 (MQ below (qVw D ct B Hb V) args s 0 0 (AB B)) (F0 m 0 ls []) := by
  obtain ⟨hx, hb, hr, hml, hown, hts, hK, hlocks, hN⟩ := id C0
  unfold b_X2_run_0 at h
  refine lv_aload_n hx hb dX2_run_0 rfl (lv_at hl 0 rfl) ?_
  refine lv_aload_n hx hb dX2_run_1 rfl (lv_at hl 1 rfl) ?_
  obtain ⟨S1, eS1, h⟩ := ob_nm h
  refine x_put (S' := sr S 55 0 (some u1)) (FS := (fs2 B)) C0 hP hS (fun S => lay_X2 B ct S) rfl inG2 tyX2 tyX2_ok nmX2 0 (by decide) wd_149 rfl rfl (fun a ha => lay_local rfl rfl (gr_sr_n _ _ _ ha) rfl) (put_2_0 B _ _) rfl rfl (Nat.le_of_ble_eq_true rfl) dX2_run_2 (fun H locs hP hS => ?_)
  rw [← eS1] at hP
  refine lv_aload_n hx hb dX2_run_5 rfl (lv_at hl 0 rfl) ?_
  refine lv_iload_n hx hb dX2_run_6 rfl (lv_at hl 2 rfl) ?_
  obtain ⟨S2, eS2, h⟩ := ob_nm h
  refine x_put (S' := si S1 55 1 v2) (FS := (fs2 B)) C0 hP hS (fun S => lay_X2 B ct S) rfl inG2 tyX2 tyX2_ok nmX2 1 (by decide) wd_150 rfl rfl (fun a ha => lay_local (gi_si_n _ _ _ ha) rfl rfl rfl) (put_2_1 B _ _) rfl rfl (Nat.le_of_ble_eq_true rfl) dX2_run_7 (fun H locs hP hS => ?_)
  rw [← eS2] at hP
  refine lv_iconst (v := 0) hx hb dX2_run_10 (by decide) ?_
  refine lv_istore_n (lv' := [(3, .int 0), (0, .ref (B + 55)), (1, .ref (B + u1)), (2, .int v2)]) hx hb dX2_run_11 rfl hl (by decide) rfl (fun ls hl => ?_)
  exact wl_X2_run_12 l C0 u1 hu1 1000 0 S2 h hP hS (lv_sub hl [1, 0] rfl)
set_option maxRecDepth 100000 in
set_option maxHeartbeats 4000000 in
theorem c_X2_run (l : Launch) (u1 : Nat) (hu1 : isTown u1) (a2 : Int32) {D : va_G} {ct : Nat → ClassId} {B : Nat} {Hb : Heap} {S : St} {V : St} (h : L_X2_run u1 a2 S = some V) : Met l yX2_run (Cond.code yX2_run cX2_run 5 none :: tG) { frames := 4, cells := 0, slots := 0, locals := 93 } (va_Pc [.ref (B + 55), .ref (B + u1), .int a2] (MPK D ct B Hb S)) (qVw D ct B Hb V) 0 0 (AB B) := by
  refine mk_met (by decide +kernel) (Nat.le_of_ble_eq_true rfl) (fun p e s m args below meth c ls C0 hP hl _ => ?_)
  have h := ob_of h
  exact w_X2_run_0 l C0 u1 hu1 a2 S h hP va_S.rf (lv_sub hl [0, 1, 2] rfl)
set_option maxRecDepth 100000 in
set_option maxHeartbeats 4000000 in
theorem w_X2_toldChoice_0 (l : Launch) {V : Int32} (C0 : XC D ct p s m args meth c cX2_toldChoice 2 (some .int) RX2) (v1 : Int32) (S : St) {H : Heap} {locs : List Loc} {ls : Array Slot} (h : (b_X2_toldChoice_0 v1 S).bind some = some V) (hP : MP D ct B Hb S H) (hS : va_S (AB B) s.heap H locs) (hl : lv_has ls 2 [(0, .ref (B + 55)), (1, .int v1)]) : W p l e { frames := 0, cells := 0, slots := 0, locals := 0 } s m args below meth c H locs 0 0 (MQ below (qI D ct B Hb S V) args s 0 0 (AB B)) (F0 m 0 ls []) := by
  obtain ⟨hx, hb, hr, hml, hown, hts, hK, hlocks, hN⟩ := id C0
  unfold b_X2_toldChoice_0 at h
  refine lv_aload_n hx hb dX2_toldChoice_0 rfl (lv_at hl 0 rfl) ?_
  refine x_get C0 hP (lay_X2 B ct S) rfl inG2 4 (by decide) wd_154 (fun _ h => h) rfl dX2_toldChoice_1 ?_
  refine lv_iload_n hx hb dX2_toldChoice_4 rfl (lv_at hl 1 rfl) ?_
  obtain ⟨g1, h⟩ := ob_gd h
  refine x_iald C0 hP ((fun S => lay_58 B ct S) S) g1 dX2_toldChoice_5 ?_
  refine lv_if_ge (tgt := 13) hx hb dX2_toldChoice_6 (by decide) (fun z2 => ?_) (fun z2 => ?_)
  · have h := ob_t h z2
    refine lv_aload_n hx hb dX2_toldChoice_13 rfl (lv_at hl 0 rfl) ?_
    refine x_get C0 hP (lay_X2 B ct S) rfl inG2 4 (by decide) wd_154 (fun _ h => h) rfl dX2_toldChoice_14 ?_
    refine lv_iload_n hx hb dX2_toldChoice_17 rfl (lv_at hl 1 rfl) ?_
    obtain ⟨g3, h⟩ := ob_gd h
    refine x_iald C0 hP ((fun S => lay_58 B ct S) S) g3 dX2_toldChoice_18 ?_
    exact r_I C0 hP hS h dX2_toldChoice_19
  · have h := ob_f h z2
    refine lv_iconst (v := 2) hx hb dX2_toldChoice_9 (by decide) ?_
    refine lv_goto (tgt := 19) hx hb dX2_toldChoice_10 (by decide) ?_
    exact r_I C0 hP hS h dX2_toldChoice_19
set_option maxRecDepth 100000 in
set_option maxHeartbeats 4000000 in
theorem c_X2_toldChoice (l : Launch) (a1 : Int32) {D : va_G} {ct : Nat → ClassId} {B : Nat} {Hb : Heap} {S : St} {V : Int32} (h : L_X2_toldChoice a1 S = some V) : Met l yX2_toldChoice (Cond.code yX2_toldChoice cX2_toldChoice 2 (some .int) :: tG) { frames := 0, cells := 0, slots := 0, locals := 0 } (va_Pc [.ref (B + 55), .int a1] (MPK D ct B Hb S)) (qI D ct B Hb S V) 0 0 (AB B) := by
  refine mk_met (by decide +kernel) (Nat.le_of_ble_eq_true rfl) (fun p e s m args below meth c ls C0 hP hl _ => ?_)
  have h := ob_of h
  exact w_X2_toldChoice_0 l C0 a1 S h hP va_S.rf (lv_sub hl [0, 1] rfl)
set_option maxRecDepth 100000 in
set_option maxHeartbeats 4000000 in
theorem w_X2_choices_4 (l : Launch) {V : Int32} (C0 : XC D ct p s m args meth c cX2_choices 3 (some .int) RX2) (v1 : Int32) (v2 : Int32) (S : St) (n0 : Nat) (ih0 : ∀ (v1 : Int32) (v2 : Int32) (H : Heap) (locs : List Loc) (ls : Array Slot), (lp n0 (l_X2_choices_4 S) (v1, v2)).bind some = some V → MP D ct B Hb S H → va_S (AB B) s.heap H locs → lv_has ls 3 [(0, .ref (B + 55)), (1, .int v1), (2, .int v2)] → W p l e { frames := 1, cells := 0, slots := 0, locals := 21 } s m args below meth c H locs 0 0 (MQ below (qI D ct B Hb S V) args s 0 0 (AB B)) (F0 m 4 ls [])) {H : Heap} {locs : List Loc} {ls : Array Slot} (h : (b_X2_choices_4 v1 v2 S).bind (lpF n0 (l_X2_choices_4 S) some) = some V) (hP : MP D ct B Hb S H) (hS : va_S (AB B) s.heap H locs) (hl : lv_has ls 3 [(0, .ref (B + 55)), (1, .int v1), (2, .int v2)]) : W p l e { frames := 1, cells := 0, slots := 0, locals := 21 } s m args below meth c H locs 0 0 (MQ below (qI D ct B Hb S V) args s 0 0 (AB B)) (F0 m 4 ls []) := by
  obtain ⟨hx, hb, hr, hml, hown, hts, hK, hlocks, hN⟩ := id C0
  unfold b_X2_choices_4 at h
  refine lv_iload_n hx hb dX2_choices_4 rfl (lv_at hl 2 rfl) ?_
  refine lv_aload_n hx hb dX2_choices_5 rfl (lv_at hl 0 rfl) ?_
  obtain ⟨t1, et1, h⟩ := ob_bd h
  obtain ⟨g2, h⟩ := ob_gd h
  refine x_get (v := .ref (B + t1)) C0 hP (lay_X2 B ct S) rfl inG2 0 (by decide) wd_149 (fun _ h => h) (by show some (va_rf ((gr S 55 0).map (B + ·))) = _; rw [et1]; rfl) dX2_choices_6 ?_
  refine x_get C0 hP (lay_X10 B ct S (isTownB_ok g2)) rfl inG10 0 (by decide) wd_60 (fun _ h => h) rfl dX2_choices_9 ?_
  refine lv_icmp_ge (tgt := 33) hx hb dX2_choices_12 (by decide) (fun z3 => ?_) (fun z3 => ?_)
  · have h := ob_t h z3
    refine lv_iload_n hx hb dX2_choices_33 rfl (lv_at hl 1 rfl) ?_
    exact r_I C0 hP hS h dX2_choices_34
  · have h := ob_f h z3
    refine lv_iload_n hx hb dX2_choices_15 rfl (lv_at hl 1 rfl) ?_
    refine lv_aload_n hx hb dX2_choices_16 rfl (lv_at hl 0 rfl) ?_
    refine lv_iload_n hx hb dX2_choices_17 rfl (lv_at hl 2 rfl) ?_
    obtain ⟨r4, hr4, h⟩ := ob_bd h
    refine n_I (kV (As := [.int v2]) C0 (c_X2_toldChoice l v2 hr4) ⟨wd_793, wd_790, wd_791, wd_792, wd_4⟩ kd_X2_toldChoice ⟨Nat.le_of_ble_eq_true rfl, Nat.le_of_ble_eq_true rfl⟩ hP (lay_X2 B ct S) rfl rfl hl.1 rfl (Nat.le_of_ble_eq_true rfl) dX2_choices_18 ⟨Nat.le_of_ble_eq_true rfl, Nat.le_of_ble_eq_true rfl⟩) hS (fun H locs hP hS => ?_)
    refine lv_iconst (v := 2) hx hb dX2_choices_21 (by decide) ?_
    refine lv_iload_n hx hb dX2_choices_22 rfl (lv_at hl 2 rfl) ?_
    refine lv_imul hx hb dX2_choices_23 ?_
    refine lv_ishl hx hb dX2_choices_24 ?_
    refine lv_ior hx hb dX2_choices_25 ?_
    refine lv_istore_n (lv' := [(1, .int (v1 ||| (r4 <<< ((2 * v2) &&& 31)))), (0, .ref (B + 55)), (2, .int v2)]) hx hb dX2_choices_26 rfl hl (by decide) rfl (fun ls hl => ?_)
    refine lv_iinc (v := v2 + 1) (lv' := [(2, .int (v2 + 1)), (1, .int (v1 ||| (r4 <<< ((2 * v2) &&& 31)))), (0, .ref (B + 55))]) hx hb dX2_choices_27 hl (k := 2) rfl rfl (by decide) rfl (fun ls hl => ?_)
    refine lv_goto (tgt := 4) hx hb dX2_choices_30 (by decide) ?_
    exact ih0 (v1 ||| (r4 <<< ((2 * v2) &&& 31))) (v2 + 1) _ _ _ h hP hS (lv_sub hl [2, 1, 0] rfl)
set_option maxRecDepth 100000 in
set_option maxHeartbeats 4000000 in
theorem wl_X2_choices_4 (l : Launch) {V : Int32} (C0 : XC D ct p s m args meth c cX2_choices 3 (some .int) RX2) (S : St)  : ∀ (n0 : Nat) (v1 : Int32) (v2 : Int32) {H : Heap} {locs : List Loc} {ls : Array Slot}, (lp n0 (l_X2_choices_4 S) (v1, v2)).bind some = some V → MP D ct B Hb S H → va_S (AB B) s.heap H locs → lv_has ls 3 [(0, .ref (B + 55)), (1, .int v1), (2, .int v2)] → W p l e { frames := 1, cells := 0, slots := 0, locals := 21 } s m args below meth c H locs 0 0 (MQ below (qI D ct B Hb S V) args s 0 0 (AB B)) (F0 m 4 ls []) := by
  intro n0
  induction n0 with
  | zero =>
    intro v1 v2 H locs ls h hP hS hl
    exact (lp_0 h).elim
  | succ n0 ih0 =>
    intro v1 v2 H locs ls h hP hS hl
    have h := lp_s h
    exact w_X2_choices_4 l C0 v1 v2 S n0 (fun v1 v2 H locs ls h hP hS hl => ih0 v1 v2 h hP hS hl) h hP hS hl
set_option maxRecDepth 100000 in
set_option maxHeartbeats 4000000 in
theorem w_X2_choices_0 (l : Launch) {V : Int32} (C0 : XC D ct p s m args meth c cX2_choices 3 (some .int) RX2) (S : St) {H : Heap} {locs : List Loc} {ls : Array Slot} (h : (b_X2_choices_0 S).bind some = some V) (hP : MP D ct B Hb S H) (hS : va_S (AB B) s.heap H locs) (hl : lv_has ls 3 [(0, .ref (B + 55))]) : W p l e { frames := 1, cells := 0, slots := 0, locals := 21 } s m args below meth c H locs 0 0 (MQ below (qI D ct B Hb S V) args s 0 0 (AB B)) (F0 m 0 ls []) := by
  obtain ⟨hx, hb, hr, hml, hown, hts, hK, hlocks, hN⟩ := id C0
  unfold b_X2_choices_0 at h
  refine lv_iconst (v := 0) hx hb dX2_choices_0 (by decide) ?_
  refine lv_istore_n (lv' := [(1, .int 0), (0, .ref (B + 55))]) hx hb dX2_choices_1 rfl hl (by decide) rfl (fun ls hl => ?_)
  refine lv_iconst (v := 0) hx hb dX2_choices_2 (by decide) ?_
  refine lv_istore_n (lv' := [(2, .int 0), (1, .int 0), (0, .ref (B + 55))]) hx hb dX2_choices_3 rfl hl (by decide) rfl (fun ls hl => ?_)
  exact wl_X2_choices_4 l C0 S 1000 0 0 h hP hS (lv_sub hl [2, 1, 0] rfl)
set_option maxRecDepth 100000 in
set_option maxHeartbeats 4000000 in
theorem c_X2_choices (l : Launch) {D : va_G} {ct : Nat → ClassId} {B : Nat} {Hb : Heap} {S : St} {V : Int32} (h : L_X2_choices S = some V) : Met l yX2_choices (Cond.code yX2_choices cX2_choices 3 (some .int) :: tG) { frames := 1, cells := 0, slots := 0, locals := 21 } (va_Pc [.ref (B + 55)] (MPK D ct B Hb S)) (qI D ct B Hb S V) 0 0 (AB B) := by
  refine mk_met (by decide +kernel) (Nat.le_of_ble_eq_true rfl) (fun p e s m args below meth c ls C0 hP hl _ => ?_)
  have h := ob_of h
  exact w_X2_choices_0 l C0 S h hP va_S.rf (lv_sub hl [0] rfl)
set_option maxRecDepth 100000 in
set_option maxHeartbeats 4000000 in
theorem w_X2_sayYes_30 (l : Launch) {V : Int32} (C0 : XC D ct p s m args meth c cX2_sayYes 3 (some .int) RX2) (v1 : Int32) (v2 : Int32) (S : St) (n0 : Nat) (ih0 : ∀ (v1 : Int32) (v2 : Int32) (H : Heap) (locs : List Loc) (ls : Array Slot), (lp n0 (l_X2_sayYes_4 S) (v1, v2)).bind some = some V → MP D ct B Hb S H → va_S (AB B) s.heap H locs → lv_has ls 3 [(0, .ref (B + 55)), (1, .int v1), (2, .int v2)] → W p l e { frames := 0, cells := 0, slots := 0, locals := 0 } s m args below meth c H locs 0 0 (MQ below (qI D ct B Hb S V) args s 0 0 (AB B)) (F0 m 4 ls [])) {H : Heap} {locs : List Loc} {ls : Array Slot} (h : (b_X2_sayYes_30 v1 v2 S).bind (lpF n0 (l_X2_sayYes_4 S) some) = some V) (hP : MP D ct B Hb S H) (hS : va_S (AB B) s.heap H locs) (hl : lv_has ls 3 [(0, .ref (B + 55)), (1, .int v1), (2, .int v2)]) : W p l e { frames := 0, cells := 0, slots := 0, locals := 0 } s m args below meth c H locs 0 0 (MQ below (qI D ct B Hb S V) args s 0 0 (AB B)) (F0 m 30 ls []) := by
  obtain ⟨hx, hb, hr, hml, hown, hts, hK, hlocks, hN⟩ := id C0
  unfold b_X2_sayYes_30 at h
  refine lv_iinc (v := v2 + 1) (lv' := [(2, .int (v2 + 1)), (0, .ref (B + 55)), (1, .int v1)]) hx hb dX2_sayYes_30 hl (k := 2) rfl rfl (by decide) rfl (fun ls hl => ?_)
  refine lv_goto (tgt := 4) hx hb dX2_sayYes_33 (by decide) ?_
  exact ih0 v1 (v2 + 1) _ _ _ h hP hS (lv_sub hl [1, 2, 0] rfl)
set_option maxRecDepth 100000 in
set_option maxHeartbeats 4000000 in
theorem w_X2_sayYes_4 (l : Launch) {V : Int32} (C0 : XC D ct p s m args meth c cX2_sayYes 3 (some .int) RX2) (v1 : Int32) (v2 : Int32) (S : St) (n0 : Nat) (ih0 : ∀ (v1 : Int32) (v2 : Int32) (H : Heap) (locs : List Loc) (ls : Array Slot), (lp n0 (l_X2_sayYes_4 S) (v1, v2)).bind some = some V → MP D ct B Hb S H → va_S (AB B) s.heap H locs → lv_has ls 3 [(0, .ref (B + 55)), (1, .int v1), (2, .int v2)] → W p l e { frames := 0, cells := 0, slots := 0, locals := 0 } s m args below meth c H locs 0 0 (MQ below (qI D ct B Hb S V) args s 0 0 (AB B)) (F0 m 4 ls [])) {H : Heap} {locs : List Loc} {ls : Array Slot} (h : (b_X2_sayYes_4 v1 v2 S).bind (lpF n0 (l_X2_sayYes_4 S) some) = some V) (hP : MP D ct B Hb S H) (hS : va_S (AB B) s.heap H locs) (hl : lv_has ls 3 [(0, .ref (B + 55)), (1, .int v1), (2, .int v2)]) : W p l e { frames := 0, cells := 0, slots := 0, locals := 0 } s m args below meth c H locs 0 0 (MQ below (qI D ct B Hb S V) args s 0 0 (AB B)) (F0 m 4 ls []) := by
  obtain ⟨hx, hb, hr, hml, hown, hts, hK, hlocks, hN⟩ := id C0
  unfold b_X2_sayYes_4 at h
  refine lv_iload_n hx hb dX2_sayYes_4 rfl (lv_at hl 2 rfl) ?_
  refine lv_aload_n hx hb dX2_sayYes_5 rfl (lv_at hl 0 rfl) ?_
  obtain ⟨t1, et1, h⟩ := ob_bd h
  obtain ⟨g2, h⟩ := ob_gd h
  refine x_get (v := .ref (B + t1)) C0 hP (lay_X2 B ct S) rfl inG2 0 (by decide) wd_149 (fun _ h => h) (by show some (va_rf ((gr S 55 0).map (B + ·))) = _; rw [et1]; rfl) dX2_sayYes_6 ?_
  refine x_get C0 hP (lay_X10 B ct S (isTownB_ok g2)) rfl inG10 0 (by decide) wd_60 (fun _ h => h) rfl dX2_sayYes_9 ?_
  refine lv_icmp_ge (tgt := 36) hx hb dX2_sayYes_12 (by decide) (fun z3 => ?_) (fun z3 => ?_)
  · have h := ob_t h z3
    refine lv_iload_n hx hb dX2_sayYes_36 rfl (lv_at hl 1 rfl) ?_
    exact r_I C0 hP hS h dX2_sayYes_37
  · have h := ob_f h z3
    refine lv_aload_n hx hb dX2_sayYes_15 rfl (lv_at hl 0 rfl) ?_
    refine x_get C0 hP (lay_X2 B ct S) rfl inG2 4 (by decide) wd_154 (fun _ h => h) rfl dX2_sayYes_16 ?_
    refine lv_iload_n hx hb dX2_sayYes_19 rfl (lv_at hl 2 rfl) ?_
    obtain ⟨g4, h⟩ := ob_gd h
    refine x_iald C0 hP ((fun S => lay_58 B ct S) S) g4 dX2_sayYes_20 ?_
    refine lv_if_le (tgt := 30) hx hb dX2_sayYes_21 (by decide) (fun z5 => ?_) (fun z5 => ?_)
    · have h := ob_t h z5
      exact w_X2_sayYes_30 l C0 v1 v2 S n0 ih0 h hP hS (lv_sub hl [0, 1, 2] rfl)
    · have h := ob_f h z5
      refine lv_iload_n hx hb dX2_sayYes_24 rfl (lv_at hl 1 rfl) ?_
      refine lv_iconst (v := 1) hx hb dX2_sayYes_25 (by decide) ?_
      refine lv_iload_n hx hb dX2_sayYes_26 rfl (lv_at hl 2 rfl) ?_
      refine lv_ishl hx hb dX2_sayYes_27 ?_
      refine lv_ior hx hb dX2_sayYes_28 ?_
      refine lv_istore_n (lv' := [(1, .int (v1 ||| ((1 : Int32) <<< (v2 &&& 31)))), (0, .ref (B + 55)), (2, .int v2)]) hx hb dX2_sayYes_29 rfl hl (by decide) rfl (fun ls hl => ?_)
      exact w_X2_sayYes_30 l C0 (v1 ||| ((1 : Int32) <<< (v2 &&& 31))) v2 S n0 ih0 h hP hS (lv_sub hl [1, 0, 2] rfl)
set_option maxRecDepth 100000 in
set_option maxHeartbeats 4000000 in
theorem wl_X2_sayYes_4 (l : Launch) {V : Int32} (C0 : XC D ct p s m args meth c cX2_sayYes 3 (some .int) RX2) (S : St)  : ∀ (n0 : Nat) (v1 : Int32) (v2 : Int32) {H : Heap} {locs : List Loc} {ls : Array Slot}, (lp n0 (l_X2_sayYes_4 S) (v1, v2)).bind some = some V → MP D ct B Hb S H → va_S (AB B) s.heap H locs → lv_has ls 3 [(0, .ref (B + 55)), (1, .int v1), (2, .int v2)] → W p l e { frames := 0, cells := 0, slots := 0, locals := 0 } s m args below meth c H locs 0 0 (MQ below (qI D ct B Hb S V) args s 0 0 (AB B)) (F0 m 4 ls []) := by
  intro n0
  induction n0 with
  | zero =>
    intro v1 v2 H locs ls h hP hS hl
    exact (lp_0 h).elim
  | succ n0 ih0 =>
    intro v1 v2 H locs ls h hP hS hl
    have h := lp_s h
    exact w_X2_sayYes_4 l C0 v1 v2 S n0 (fun v1 v2 H locs ls h hP hS hl => ih0 v1 v2 h hP hS hl) h hP hS hl
set_option maxRecDepth 100000 in
set_option maxHeartbeats 4000000 in
theorem w_X2_sayYes_0 (l : Launch) {V : Int32} (C0 : XC D ct p s m args meth c cX2_sayYes 3 (some .int) RX2) (S : St) {H : Heap} {locs : List Loc} {ls : Array Slot} (h : (b_X2_sayYes_0 S).bind some = some V) (hP : MP D ct B Hb S H) (hS : va_S (AB B) s.heap H locs) (hl : lv_has ls 3 [(0, .ref (B + 55))]) : W p l e { frames := 0, cells := 0, slots := 0, locals := 0 } s m args below meth c H locs 0 0 (MQ below (qI D ct B Hb S V) args s 0 0 (AB B)) (F0 m 0 ls []) := by
  obtain ⟨hx, hb, hr, hml, hown, hts, hK, hlocks, hN⟩ := id C0
  unfold b_X2_sayYes_0 at h
  refine lv_iconst (v := 0) hx hb dX2_sayYes_0 (by decide) ?_
  refine lv_istore_n (lv' := [(1, .int 0), (0, .ref (B + 55))]) hx hb dX2_sayYes_1 rfl hl (by decide) rfl (fun ls hl => ?_)
  refine lv_iconst (v := 0) hx hb dX2_sayYes_2 (by decide) ?_
  refine lv_istore_n (lv' := [(2, .int 0), (1, .int 0), (0, .ref (B + 55))]) hx hb dX2_sayYes_3 rfl hl (by decide) rfl (fun ls hl => ?_)
  exact wl_X2_sayYes_4 l C0 S 1000 0 0 h hP hS (lv_sub hl [2, 1, 0] rfl)
set_option maxRecDepth 100000 in
set_option maxHeartbeats 4000000 in
theorem c_X2_sayYes (l : Launch) {D : va_G} {ct : Nat → ClassId} {B : Nat} {Hb : Heap} {S : St} {V : Int32} (h : L_X2_sayYes S = some V) : Met l yX2_sayYes (Cond.code yX2_sayYes cX2_sayYes 3 (some .int) :: tG) { frames := 0, cells := 0, slots := 0, locals := 0 } (va_Pc [.ref (B + 55)] (MPK D ct B Hb S)) (qI D ct B Hb S V) 0 0 (AB B) := by
  refine mk_met (by decide +kernel) (Nat.le_of_ble_eq_true rfl) (fun p e s m args below meth c ls C0 hP hl _ => ?_)
  have h := ob_of h
  exact w_X2_sayYes_0 l C0 S h hP va_S.rf (lv_sub hl [0] rfl)
set_option maxRecDepth 100000 in
set_option maxHeartbeats 4000000 in
theorem w_X2_coinsAt_29 (l : Launch) {V : Int32} (C0 : XC D ct p s m args meth c cX2_coinsAt 5 (some .int) RX2) (v1 : Int32) (v2 : Int32) (v3 : Int32) (S : St) {H : Heap} {locs : List Loc} {ls : Array Slot} (h : (b_X2_coinsAt_29 v1 v2 v3 S).bind some = some V) (hP : MP D ct B Hb S H) (hS : va_S (AB B) s.heap H locs) (hl : lv_has ls 5 [(0, .ref (B + 55)), (1, .int v1), (2, .int v2), (3, .int v3)]) : W p l e { frames := 0, cells := 0, slots := 0, locals := 0 } s m args below meth c H locs 0 0 (MQ below (qI D ct B Hb S V) args s 0 0 (AB B)) (F0 m 29 ls []) := by
  obtain ⟨hx, hb, hr, hml, hown, hts, hK, hlocks, hN⟩ := id C0
  unfold b_X2_coinsAt_29 at h
  refine lv_aload_n hx hb dX2_coinsAt_29 rfl (lv_at hl 0 rfl) ?_
  refine x_get C0 hP (lay_X2 B ct S) rfl inG2 11 (by decide) wd_163 (fun _ h => h) rfl dX2_coinsAt_30 ?_
  refine lv_iload_n hx hb dX2_coinsAt_33 rfl (lv_at hl 1 rfl) ?_
  obtain ⟨g1, h⟩ := ob_gd h
  refine x_iald C0 hP ((fun S => lay_65 B ct S) S) g1 dX2_coinsAt_34 ?_
  refine lv_istore (lv' := [(4, .int (gi S 65 v1.toNatClampNeg)), (0, .ref (B + 55)), (1, .int v1), (2, .int v2), (3, .int v3)]) hx hb dX2_coinsAt_35 hl (by decide) rfl (fun ls hl => ?_)
  refine lv_iload hx hb dX2_coinsAt_37 (lv_at hl 0 rfl) ?_
  refine lv_if_lt (tgt := 63) hx hb dX2_coinsAt_39 (by decide) (fun z2 => ?_) (fun z2 => ?_)
  · have h := ob_t h z2
    refine lv_iload_n hx hb dX2_coinsAt_63 rfl (lv_at hl 4 rfl) ?_
    exact r_I C0 hP hS h dX2_coinsAt_64
  · have h := ob_f h z2
    refine lv_aload_n hx hb dX2_coinsAt_42 rfl (lv_at hl 1 rfl) ?_
    refine x_get C0 hP (lay_X2 B ct S) rfl inG2 2 (by decide) wd_151 (fun _ h => h) rfl dX2_coinsAt_43 ?_
    refine lv_iload hx hb dX2_coinsAt_46 (lv_at hl 0 rfl) ?_
    obtain ⟨g3, h⟩ := ob_gd h
    refine x_iald C0 hP ((fun S => lay_56 B ct S) S) g3 dX2_coinsAt_48 ?_
    refine lv_iload_n hx hb dX2_coinsAt_49 rfl (lv_at hl 3 rfl) ?_
    refine lv_icmp_gt (tgt := 63) hx hb dX2_coinsAt_50 (by decide) (fun z4 => ?_) (fun z4 => ?_)
    · have h := ob_t h z4
      refine lv_iload_n hx hb dX2_coinsAt_63 rfl (lv_at hl 4 rfl) ?_
      exact r_I C0 hP hS h dX2_coinsAt_64
    · have h := ob_f h z4
      refine lv_iload_n hx hb dX2_coinsAt_53 rfl (lv_at hl 4 rfl) ?_
      refine lv_aload_n hx hb dX2_coinsAt_54 rfl (lv_at hl 1 rfl) ?_
      refine x_get C0 hP (lay_X2 B ct S) rfl inG2 6 (by decide) wd_157 (fun _ h => h) rfl dX2_coinsAt_55 ?_
      refine lv_iload hx hb dX2_coinsAt_58 (lv_at hl 0 rfl) ?_
      obtain ⟨g5, h⟩ := ob_gd h
      refine x_iald C0 hP ((fun S => lay_60 B ct S) S) g5 dX2_coinsAt_60 ?_
      refine lv_iadd hx hb dX2_coinsAt_61 ?_
      refine lv_istore_n (lv' := [(3, .int (v3 + (gi S 60 (gi S 65 v1.toNatClampNeg).toNatClampNeg))), (4, .int (gi S 65 v1.toNatClampNeg)), (0, .ref (B + 55)), (1, .int v1), (2, .int v2)]) hx hb dX2_coinsAt_62 rfl hl (by decide) rfl (fun ls hl => ?_)
      refine lv_iload_n hx hb dX2_coinsAt_63 rfl (lv_at hl 0 rfl) ?_
      exact r_I C0 hP hS h dX2_coinsAt_64
set_option maxRecDepth 100000 in
set_option maxHeartbeats 4000000 in
theorem w_X2_coinsAt_0 (l : Launch) {V : Int32} (C0 : XC D ct p s m args meth c cX2_coinsAt 5 (some .int) RX2) (v1 : Int32) (v2 : Int32) (S : St) {H : Heap} {locs : List Loc} {ls : Array Slot} (h : (b_X2_coinsAt_0 v1 v2 S).bind some = some V) (hP : MP D ct B Hb S H) (hS : va_S (AB B) s.heap H locs) (hl : lv_has ls 5 [(0, .ref (B + 55)), (1, .int v1), (2, .int v2)]) : W p l e { frames := 0, cells := 0, slots := 0, locals := 0 } s m args below meth c H locs 0 0 (MQ below (qI D ct B Hb S V) args s 0 0 (AB B)) (F0 m 0 ls []) := by
  obtain ⟨hx, hb, hr, hml, hown, hts, hK, hlocks, hN⟩ := id C0
  unfold b_X2_coinsAt_0 at h
  refine lv_aload_n hx hb dX2_coinsAt_0 rfl (lv_at hl 0 rfl) ?_
  obtain ⟨t1, et1, h⟩ := ob_bd h
  obtain ⟨g2, h⟩ := ob_gd h
  refine x_get (v := .ref (B + t1)) C0 hP (lay_X2 B ct S) rfl inG2 0 (by decide) wd_149 (fun _ h => h) (by show some (va_rf ((gr S 55 0).map (B + ·))) = _; rw [et1]; rfl) dX2_coinsAt_1 ?_
  refine x_get C0 hP (lay_X10 B ct S (isTownB_ok g2)) rfl inG10 5 (by decide) wd_76 (fun _ h => h) rfl dX2_coinsAt_4 ?_
  refine lv_iload_n hx hb dX2_coinsAt_7 rfl (lv_at hl 1 rfl) ?_
  obtain ⟨g3, h⟩ := ob_gd h
  refine x_iald C0 hP ((fun S => lay_t6 B ct S (isTownB_ok g2)) S) g3 dX2_coinsAt_8 ?_
  refine lv_istore_n (lv' := [(3, .int (gi S (t1 + 6) v1.toNatClampNeg)), (0, .ref (B + 55)), (1, .int v1), (2, .int v2)]) hx hb dX2_coinsAt_9 rfl hl (by decide) rfl (fun ls hl => ?_)
  refine lv_aload_n hx hb dX2_coinsAt_10 rfl (lv_at hl 1 rfl) ?_
  refine x_get C0 hP (lay_X2 B ct S) rfl inG2 2 (by decide) wd_151 (fun _ h => h) rfl dX2_coinsAt_11 ?_
  refine lv_iload_n hx hb dX2_coinsAt_14 rfl (lv_at hl 2 rfl) ?_
  obtain ⟨g4, h⟩ := ob_gd h
  refine x_iald C0 hP ((fun S => lay_56 B ct S) S) g4 dX2_coinsAt_15 ?_
  refine lv_iload_n hx hb dX2_coinsAt_16 rfl (lv_at hl 3 rfl) ?_
  refine lv_icmp_gt (tgt := 29) hx hb dX2_coinsAt_17 (by decide) (fun z5 => ?_) (fun z5 => ?_)
  · have h := ob_t h z5
    exact w_X2_coinsAt_29 l C0 v1 v2 (gi S (t1 + 6) v1.toNatClampNeg) S h hP hS (lv_sub hl [1, 2, 3, 0] rfl)
  · have h := ob_f h z5
    refine lv_iload_n hx hb dX2_coinsAt_20 rfl (lv_at hl 0 rfl) ?_
    refine lv_aload_n hx hb dX2_coinsAt_21 rfl (lv_at hl 1 rfl) ?_
    refine x_get C0 hP (lay_X2 B ct S) rfl inG2 6 (by decide) wd_157 (fun _ h => h) rfl dX2_coinsAt_22 ?_
    refine lv_iload_n hx hb dX2_coinsAt_25 rfl (lv_at hl 2 rfl) ?_
    obtain ⟨g6, h⟩ := ob_gd h
    refine x_iald C0 hP ((fun S => lay_60 B ct S) S) g6 dX2_coinsAt_26 ?_
    refine lv_isub hx hb dX2_coinsAt_27 ?_
    refine lv_istore_n (lv' := [(3, .int ((gi S (t1 + 6) v1.toNatClampNeg) - (gi S 60 v1.toNatClampNeg))), (0, .ref (B + 55)), (1, .int v1), (2, .int v2)]) hx hb dX2_coinsAt_28 rfl hl (by decide) rfl (fun ls hl => ?_)
    exact w_X2_coinsAt_29 l C0 v1 v2 ((gi S (t1 + 6) v1.toNatClampNeg) - (gi S 60 v1.toNatClampNeg)) S h hP hS (lv_sub hl [1, 2, 3, 0] rfl)
set_option maxRecDepth 100000 in
set_option maxHeartbeats 4000000 in
theorem c_X2_coinsAt (l : Launch) (a1 : Int32) (a2 : Int32) {D : va_G} {ct : Nat → ClassId} {B : Nat} {Hb : Heap} {S : St} {V : Int32} (h : L_X2_coinsAt a1 a2 S = some V) : Met l yX2_coinsAt (Cond.code yX2_coinsAt cX2_coinsAt 5 (some .int) :: tG) { frames := 0, cells := 0, slots := 0, locals := 0 } (va_Pc [.ref (B + 55), .int a1, .int a2] (MPK D ct B Hb S)) (qI D ct B Hb S V) 0 0 (AB B) := by
  refine mk_met (by decide +kernel) (Nat.le_of_ble_eq_true rfl) (fun p e s m args below meth c ls C0 hP hl _ => ?_)
  have h := ob_of h
  exact w_X2_coinsAt_0 l C0 a1 a2 S h hP va_S.rf (lv_sub hl [0, 1, 2] rfl)
set_option maxRecDepth 100000 in
set_option maxHeartbeats 4000000 in
theorem w_X2_fateOf_14 (l : Launch) {V : Int32} (C0 : XC D ct p s m args meth c cX2_fateOf 4 (some .int) RX2) (v1 : Int32) (v2 : Int32) (s0 : Int32) (S : St) {H : Heap} {locs : List Loc} {ls : Array Slot} (h : (b_X2_fateOf_14 v1 v2 s0 S).bind some = some V) (hP : MP D ct B Hb S H) (hS : va_S (AB B) s.heap H locs) (hl : lv_has ls 4 [(0, .ref (B + 55)), (1, .int v1), (2, .int v2)]) : W p l e { frames := 3, cells := 0, slots := 0, locals := 63 } s m args below meth c H locs 0 0 (MQ below (qI D ct B Hb S V) args s 0 0 (AB B)) (F0 m 14 ls [.int s0]) := by
  obtain ⟨hx, hb, hr, hml, hown, hts, hK, hlocks, hN⟩ := id C0
  unfold b_X2_fateOf_14 at h
  refine lv_istore_n (lv' := [(3, .int s0), (0, .ref (B + 55)), (1, .int v1), (2, .int v2)]) hx hb dX2_fateOf_14 rfl hl (by decide) rfl (fun ls hl => ?_)
  refine lv_iload_n hx hb dX2_fateOf_15 rfl (lv_at hl 3 rfl) ?_
  rcases Decidable.em ((v2 : Int32) = 0) with z1 | z1
  · have h := ob_t h z1
    refine lv_tableIn (x := v2) (off := 48) (tgt := 64) hx hb dX2_fateOf_16 (by rw [z1]; decide) (by rw [z1]; decide) (by rw [z1]; decide) (by decide) ?_
    refine lv_aload_n hx hb dX2_fateOf_64 rfl (lv_at hl 1 rfl) ?_
    refine lv_iload_n hx hb dX2_fateOf_65 rfl (lv_at hl 2 rfl) ?_
    obtain ⟨r2, hr2, h⟩ := ob_bd h
    refine n_I (kV (As := [.int v1]) C0 (c_X2_toldChoice l v1 hr2) ⟨wd_793, wd_790, wd_791, wd_792, wd_4⟩ kd_X2_toldChoice ⟨Nat.le_of_ble_eq_true rfl, Nat.le_of_ble_eq_true rfl⟩ hP (lay_X2 B ct S) rfl rfl hl.1 rfl (Nat.le_of_ble_eq_true rfl) dX2_fateOf_66 ⟨Nat.le_of_ble_eq_true rfl, Nat.le_of_ble_eq_true rfl⟩) hS (fun H locs hP hS => ?_)
    exact r_I C0 hP hS h dX2_fateOf_69
  · have h := ob_f h z1
    rcases Decidable.em ((v2 : Int32) = 1) with z3 | z3
    · have h := ob_t h z3
      refine lv_tableIn (x := v2) (off := 54) (tgt := 70) hx hb dX2_fateOf_16 (by rw [z3]; decide) (by rw [z3]; decide) (by rw [z3]; decide) (by decide) ?_
      refine lv_aload_n hx hb dX2_fateOf_70 rfl (lv_at hl 1 rfl) ?_
      obtain ⟨t4, et4, h⟩ := ob_bd h
      obtain ⟨g5, h⟩ := ob_gd h
      refine x_get (v := .ref (B + t4)) C0 hP (lay_X2 B ct S) rfl inG2 0 (by decide) wd_149 (fun _ h => h) (by show some (va_rf ((gr S 55 0).map (B + ·))) = _; rw [et4]; rfl) dX2_fateOf_71 ?_
      refine x_get C0 hP (lay_X10 B ct S (isTownB_ok g5)) rfl inG10 1 (by decide) wd_63 (fun _ h => h) rfl dX2_fateOf_74 ?_
      refine lv_iload_n hx hb dX2_fateOf_77 rfl (lv_at hl 2 rfl) ?_
      obtain ⟨g6, h⟩ := ob_gd h
      obtain ⟨q7, eq7, h⟩ := ob_bd h
      refine x_aald (v := .ref (B + q7)) C0 hP ((fun S => lay_t1 B ct S (isTownB_ok g5)) S) rfl rfl g6 (by show va_rf ((gr S (t4 + 1) v1.toNatClampNeg).map (B + ·)) = _; rw [eq7]; rfl) dX2_fateOf_78 ?_
      refine lv_aload_n hx hb dX2_fateOf_79 rfl (lv_at hl 1 rfl) ?_
      refine x_get C0 hP (lay_X2 B ct S) rfl inG2 3 (by decide) wd_152 (fun _ h => h) rfl dX2_fateOf_80 ?_
      refine lv_iload_n hx hb dX2_fateOf_83 rfl (lv_at hl 2 rfl) ?_
      obtain ⟨g8, h⟩ := ob_gd h
      refine x_iald C0 hP ((fun S => lay_57 B ct S) S) g8 dX2_fateOf_84 ?_
      obtain ⟨r9, hr9, h⟩ := ob_bd h
      refine n_I (kv_strengthOf l C0 wd_682 q7 (gi S 57 v1.toNatClampNeg) hr9 ⟨Nat.le_of_ble_eq_true rfl, Nat.le_of_ble_eq_true rfl⟩ hP hl.1 rfl (Nat.le_of_ble_eq_true rfl) dX2_fateOf_85) hS (fun H locs hP hS => ?_)
      exact r_I C0 hP hS h dX2_fateOf_88
    · have h := ob_f h z3
      rcases Decidable.em ((v2 : Int32) = 2) with z10 | z10
      · have h := ob_t h z10
        refine lv_tableIn (x := v2) (off := 73) (tgt := 89) hx hb dX2_fateOf_16 (by rw [z10]; decide) (by rw [z10]; decide) (by rw [z10]; decide) (by decide) ?_
        refine lv_aload_n hx hb dX2_fateOf_89 rfl (lv_at hl 1 rfl) ?_
        refine x_get C0 hP (lay_X2 B ct S) rfl inG2 5 (by decide) wd_156 (fun _ h => h) rfl dX2_fateOf_90 ?_
        refine lv_iload_n hx hb dX2_fateOf_93 rfl (lv_at hl 2 rfl) ?_
        obtain ⟨g11, h⟩ := ob_gd h
        refine x_iald C0 hP ((fun S => lay_59 B ct S) S) g11 dX2_fateOf_94 ?_
        exact r_I C0 hP hS h dX2_fateOf_95
      · have h := ob_f h z10
        rcases Decidable.em ((v2 : Int32) = 3) with z12 | z12
        · have h := ob_t h z12
          refine lv_tableIn (x := v2) (off := 80) (tgt := 96) hx hb dX2_fateOf_16 (by rw [z12]; decide) (by rw [z12]; decide) (by rw [z12]; decide) (by decide) ?_
          refine lv_aload_n hx hb dX2_fateOf_96 rfl (lv_at hl 1 rfl) ?_
          refine x_get C0 hP (lay_X2 B ct S) rfl inG2 5 (by decide) wd_156 (fun _ h => h) rfl dX2_fateOf_97 ?_
          refine lv_iload_n hx hb dX2_fateOf_100 rfl (lv_at hl 2 rfl) ?_
          obtain ⟨g13, h⟩ := ob_gd h
          refine x_iald C0 hP ((fun S => lay_59 B ct S) S) g13 dX2_fateOf_101 ?_
          refine lv_if_lt (tgt := 114) hx hb dX2_fateOf_102 (by decide) (fun z14 => ?_) (fun z14 => ?_)
          · have h := ob_t h z14
            refine lv_bipush (v := (-4)) hx hb dX2_fateOf_114 (by decide) ?_
            exact r_I C0 hP hS h dX2_fateOf_116
          · have h := ob_f h z14
            refine lv_aload_n hx hb dX2_fateOf_105 rfl (lv_at hl 1 rfl) ?_
            refine x_get C0 hP (lay_X2 B ct S) rfl inG2 6 (by decide) wd_157 (fun _ h => h) rfl dX2_fateOf_106 ?_
            refine lv_iload_n hx hb dX2_fateOf_109 rfl (lv_at hl 2 rfl) ?_
            obtain ⟨g15, h⟩ := ob_gd h
            refine x_iald C0 hP ((fun S => lay_60 B ct S) S) g15 dX2_fateOf_110 ?_
            refine lv_goto (tgt := 116) hx hb dX2_fateOf_111 (by decide) ?_
            exact r_I C0 hP hS h dX2_fateOf_116
        · have h := ob_f h z12
          rcases Decidable.em ((v2 : Int32) = 4) with z16 | z16
          · have h := ob_t h z16
            refine lv_tableIn (x := v2) (off := 101) (tgt := 117) hx hb dX2_fateOf_16 (by rw [z16]; decide) (by rw [z16]; decide) (by rw [z16]; decide) (by decide) ?_
            refine lv_aload_n hx hb dX2_fateOf_117 rfl (lv_at hl 1 rfl) ?_
            refine lv_iload_n hx hb dX2_fateOf_118 rfl (lv_at hl 2 rfl) ?_
            refine lv_bipush (v := 23) hx hb dX2_fateOf_119 (by decide) ?_
            obtain ⟨r17, hr17, h⟩ := ob_bd h
            refine n_I (kV (As := [.int v1, .int 23]) C0 (c_X2_coinsAt l v1 23 hr17) ⟨wd_797, wd_794, wd_795, wd_796, wd_4⟩ kd_X2_coinsAt ⟨Nat.le_of_ble_eq_true rfl, Nat.le_of_ble_eq_true rfl⟩ hP (lay_X2 B ct S) rfl rfl hl.1 rfl (Nat.le_of_ble_eq_true rfl) dX2_fateOf_121 ⟨Nat.le_of_ble_eq_true rfl, Nat.le_of_ble_eq_true rfl⟩) hS (fun H locs hP hS => ?_)
            exact r_I C0 hP hS h dX2_fateOf_124
          · have h := ob_f h z16
            rcases Decidable.em ((v2 : Int32) = 5) with z18 | z18
            · have h := ob_t h z18
              refine lv_tableIn (x := v2) (off := 109) (tgt := 125) hx hb dX2_fateOf_16 (by rw [z18]; decide) (by rw [z18]; decide) (by rw [z18]; decide) (by decide) ?_
              refine lv_iload_n hx hb dX2_fateOf_125 rfl (lv_at hl 0 rfl) ?_
              refine lv_if_eq (tgt := 133) hx hb dX2_fateOf_126 (by decide) (fun z19 => ?_) (fun z19 => ?_)
              · have h := ob_t h z19
                refine lv_iconst (v := 0) hx hb dX2_fateOf_133 (by decide) ?_
                exact r_I C0 hP hS h dX2_fateOf_134
              · have h := ob_f h z19
                refine lv_iconst (v := 1) hx hb dX2_fateOf_129 (by decide) ?_
                refine lv_goto (tgt := 134) hx hb dX2_fateOf_130 (by decide) ?_
                exact r_I C0 hP hS h dX2_fateOf_134
            · have h := ob_f h z18
              rcases Decidable.em ((v2 : Int32) = 6) with z20 | z20
              · have h := ob_t h z20
                refine lv_tableIn (x := v2) (off := 119) (tgt := 135) hx hb dX2_fateOf_16 (by rw [z20]; decide) (by rw [z20]; decide) (by rw [z20]; decide) (by decide) ?_
                refine lv_iload_n hx hb dX2_fateOf_135 rfl (lv_at hl 0 rfl) ?_
                refine lv_if_eq (tgt := 148) hx hb dX2_fateOf_136 (by decide) (fun z21 => ?_) (fun z21 => ?_)
                · have h := ob_t h z21
                  refine lv_bipush (v := (-4)) hx hb dX2_fateOf_148 (by decide) ?_
                  exact r_I C0 hP hS h dX2_fateOf_150
                · have h := ob_f h z21
                  refine lv_aload_n hx hb dX2_fateOf_139 rfl (lv_at hl 1 rfl) ?_
                  refine x_get C0 hP (lay_X2 B ct S) rfl inG2 9 (by decide) wd_161 (fun _ h => h) rfl dX2_fateOf_140 ?_
                  refine lv_iload_n hx hb dX2_fateOf_143 rfl (lv_at hl 2 rfl) ?_
                  obtain ⟨g22, h⟩ := ob_gd h
                  refine x_iald C0 hP ((fun S => lay_63 B ct S) S) g22 dX2_fateOf_144 ?_
                  refine lv_goto (tgt := 150) hx hb dX2_fateOf_145 (by decide) ?_
                  exact r_I C0 hP hS h dX2_fateOf_150
              · have h := ob_f h z20
                rcases Decidable.em ((v2 : Int32) = 7) with z23 | z23
                · have h := ob_t h z23
                  refine lv_tableIn (x := v2) (off := 135) (tgt := 151) hx hb dX2_fateOf_16 (by rw [z23]; decide) (by rw [z23]; decide) (by rw [z23]; decide) (by decide) ?_
                  refine lv_iload_n hx hb dX2_fateOf_151 rfl (lv_at hl 0 rfl) ?_
                  refine lv_if_eq (tgt := 164) hx hb dX2_fateOf_152 (by decide) (fun z24 => ?_) (fun z24 => ?_)
                  · have h := ob_t h z24
                    refine lv_bipush (v := (-4)) hx hb dX2_fateOf_164 (by decide) ?_
                    exact r_I C0 hP hS h dX2_fateOf_166
                  · have h := ob_f h z24
                    refine lv_aload_n hx hb dX2_fateOf_155 rfl (lv_at hl 1 rfl) ?_
                    refine x_get C0 hP (lay_X2 B ct S) rfl inG2 8 (by decide) wd_160 (fun _ h => h) rfl dX2_fateOf_156 ?_
                    refine lv_iload_n hx hb dX2_fateOf_159 rfl (lv_at hl 2 rfl) ?_
                    obtain ⟨g25, h⟩ := ob_gd h
                    refine x_iald C0 hP ((fun S => lay_62 B ct S) S) g25 dX2_fateOf_160 ?_
                    refine lv_goto (tgt := 166) hx hb dX2_fateOf_161 (by decide) ?_
                    exact r_I C0 hP hS h dX2_fateOf_166
                · have h := ob_f h z23
                  refine lv_tableOut (x := v2) (tgt := 167) hx hb dX2_fateOf_16 (sw_0_8 z1 z3 z10 z12 z16 z18 z20 z23) (by decide) ?_
                  refine lv_aload_n hx hb dX2_fateOf_167 rfl (lv_at hl 1 rfl) ?_
                  refine x_get C0 hP (lay_X2 B ct S) rfl inG2 11 (by decide) wd_163 (fun _ h => h) rfl dX2_fateOf_168 ?_
                  refine lv_iload_n hx hb dX2_fateOf_171 rfl (lv_at hl 2 rfl) ?_
                  obtain ⟨g26, h⟩ := ob_gd h
                  refine x_iald C0 hP ((fun S => lay_65 B ct S) S) g26 dX2_fateOf_172 ?_
                  exact r_I C0 hP hS h dX2_fateOf_173
set_option maxRecDepth 100000 in
set_option maxHeartbeats 4000000 in
theorem w_X2_fateOf_0 (l : Launch) {V : Int32} (C0 : XC D ct p s m args meth c cX2_fateOf 4 (some .int) RX2) (v1 : Int32) (v2 : Int32) (S : St) {H : Heap} {locs : List Loc} {ls : Array Slot} (h : (b_X2_fateOf_0 v1 v2 S).bind some = some V) (hP : MP D ct B Hb S H) (hS : va_S (AB B) s.heap H locs) (hl : lv_has ls 4 [(0, .ref (B + 55)), (1, .int v1), (2, .int v2)]) : W p l e { frames := 3, cells := 0, slots := 0, locals := 63 } s m args below meth c H locs 0 0 (MQ below (qI D ct B Hb S V) args s 0 0 (AB B)) (F0 m 0 ls []) := by
  obtain ⟨hx, hb, hr, hml, hown, hts, hK, hlocks, hN⟩ := id C0
  unfold b_X2_fateOf_0 at h
  refine lv_aload_n hx hb dX2_fateOf_0 rfl (lv_at hl 0 rfl) ?_
  refine x_get C0 hP (lay_X2 B ct S) rfl inG2 7 (by decide) wd_158 (fun _ h => h) rfl dX2_fateOf_1 ?_
  refine lv_iload_n hx hb dX2_fateOf_4 rfl (lv_at hl 1 rfl) ?_
  obtain ⟨g1, h⟩ := ob_gd h
  refine x_iald C0 hP ((fun S => lay_61 B ct S) S) g1 dX2_fateOf_5 ?_
  refine lv_if_eq (tgt := 13) hx hb dX2_fateOf_6 (by decide) (fun z2 => ?_) (fun z2 => ?_)
  · have h := ob_t h z2
    refine lv_iconst (v := 0) hx hb dX2_fateOf_13 (by decide) ?_
    exact w_X2_fateOf_14 l C0 v1 v2 0 S h hP hS (lv_sub hl [0, 1, 2] rfl)
  · have h := ob_f h z2
    refine lv_iconst (v := 1) hx hb dX2_fateOf_9 (by decide) ?_
    refine lv_goto (tgt := 14) hx hb dX2_fateOf_10 (by decide) ?_
    exact w_X2_fateOf_14 l C0 v1 v2 1 S h hP hS (lv_sub hl [0, 1, 2] rfl)
set_option maxRecDepth 100000 in
set_option maxHeartbeats 4000000 in
theorem c_X2_fateOf (l : Launch) (a1 : Int32) (a2 : Int32) {D : va_G} {ct : Nat → ClassId} {B : Nat} {Hb : Heap} {S : St} {V : Int32} (h : L_X2_fateOf a1 a2 S = some V) : Met l yX2_fateOf (Cond.code yX2_fateOf cX2_fateOf 4 (some .int) :: tG) { frames := 3, cells := 0, slots := 0, locals := 63 } (va_Pc [.ref (B + 55), .int a1, .int a2] (MPK D ct B Hb S)) (qI D ct B Hb S V) 0 0 (AB B) := by
  refine mk_met (by decide +kernel) (Nat.le_of_ble_eq_true rfl) (fun p e s m args below meth c ls C0 hP hl _ => ?_)
  have h := ob_of h
  exact w_X2_fateOf_0 l C0 a1 a2 S h hP va_S.rf (lv_sub hl [0, 1, 2] rfl)
set_option maxRecDepth 100000 in
set_option maxHeartbeats 4000000 in
theorem w_X2_howManyChoose_31 (l : Launch) {V : Int32} (C0 : XC D ct p s m args meth c cX2_howManyChoose 4 (some .int) RX2) (v1 : Int32) (v3 : Int32) (s0 : Int32) (s1 : Int32) (S : St) (n0 : Nat) (ih0 : ∀ (v1 : Int32) (v2 : Int32) (v3 : Int32) (H : Heap) (locs : List Loc) (ls : Array Slot), (lp n0 (l_X2_howManyChoose_4 S) (v1, v2, v3)).bind some = some V → MP D ct B Hb S H → va_S (AB B) s.heap H locs → lv_has ls 4 [(0, .ref (B + 55)), (1, .int v1), (2, .int v2), (3, .int v3)] → W p l e { frames := 0, cells := 0, slots := 0, locals := 0 } s m args below meth c H locs 0 0 (MQ below (qI D ct B Hb S V) args s 0 0 (AB B)) (F0 m 4 ls [])) {H : Heap} {locs : List Loc} {ls : Array Slot} (h : (b_X2_howManyChoose_31 v1 v3 s0 s1 S).bind (lpF n0 (l_X2_howManyChoose_4 S) some) = some V) (hP : MP D ct B Hb S H) (hS : va_S (AB B) s.heap H locs) (hl : lv_has ls 4 [(0, .ref (B + 55)), (1, .int v1), (3, .int v3)]) : W p l e { frames := 0, cells := 0, slots := 0, locals := 0 } s m args below meth c H locs 0 0 (MQ below (qI D ct B Hb S V) args s 0 0 (AB B)) (F0 m 31 ls [.int s0, .int s1]) := by
  obtain ⟨hx, hb, hr, hml, hown, hts, hK, hlocks, hN⟩ := id C0
  unfold b_X2_howManyChoose_31 at h
  refine lv_iadd hx hb dX2_howManyChoose_31 ?_
  refine lv_istore_n (lv' := [(2, .int (s1 + s0)), (0, .ref (B + 55)), (1, .int v1), (3, .int v3)]) hx hb dX2_howManyChoose_32 rfl hl (by decide) rfl (fun ls hl => ?_)
  refine lv_iinc (v := v3 + 1) (lv' := [(3, .int (v3 + 1)), (2, .int (s1 + s0)), (0, .ref (B + 55)), (1, .int v1)]) hx hb dX2_howManyChoose_33 hl (k := 3) rfl rfl (by decide) rfl (fun ls hl => ?_)
  refine lv_goto (tgt := 4) hx hb dX2_howManyChoose_36 (by decide) ?_
  exact ih0 v1 (s1 + s0) (v3 + 1) _ _ _ h hP hS (lv_sub hl [2, 3, 1, 0] rfl)
set_option maxRecDepth 100000 in
set_option maxHeartbeats 4000000 in
theorem w_X2_howManyChoose_4 (l : Launch) {V : Int32} (C0 : XC D ct p s m args meth c cX2_howManyChoose 4 (some .int) RX2) (v1 : Int32) (v2 : Int32) (v3 : Int32) (S : St) (n0 : Nat) (ih0 : ∀ (v1 : Int32) (v2 : Int32) (v3 : Int32) (H : Heap) (locs : List Loc) (ls : Array Slot), (lp n0 (l_X2_howManyChoose_4 S) (v1, v2, v3)).bind some = some V → MP D ct B Hb S H → va_S (AB B) s.heap H locs → lv_has ls 4 [(0, .ref (B + 55)), (1, .int v1), (2, .int v2), (3, .int v3)] → W p l e { frames := 0, cells := 0, slots := 0, locals := 0 } s m args below meth c H locs 0 0 (MQ below (qI D ct B Hb S V) args s 0 0 (AB B)) (F0 m 4 ls [])) {H : Heap} {locs : List Loc} {ls : Array Slot} (h : (b_X2_howManyChoose_4 v1 v2 v3 S).bind (lpF n0 (l_X2_howManyChoose_4 S) some) = some V) (hP : MP D ct B Hb S H) (hS : va_S (AB B) s.heap H locs) (hl : lv_has ls 4 [(0, .ref (B + 55)), (1, .int v1), (2, .int v2), (3, .int v3)]) : W p l e { frames := 0, cells := 0, slots := 0, locals := 0 } s m args below meth c H locs 0 0 (MQ below (qI D ct B Hb S V) args s 0 0 (AB B)) (F0 m 4 ls []) := by
  obtain ⟨hx, hb, hr, hml, hown, hts, hK, hlocks, hN⟩ := id C0
  unfold b_X2_howManyChoose_4 at h
  refine lv_iload_n hx hb dX2_howManyChoose_4 rfl (lv_at hl 3 rfl) ?_
  refine lv_aload_n hx hb dX2_howManyChoose_5 rfl (lv_at hl 0 rfl) ?_
  obtain ⟨t1, et1, h⟩ := ob_bd h
  obtain ⟨g2, h⟩ := ob_gd h
  refine x_get (v := .ref (B + t1)) C0 hP (lay_X2 B ct S) rfl inG2 0 (by decide) wd_149 (fun _ h => h) (by show some (va_rf ((gr S 55 0).map (B + ·))) = _; rw [et1]; rfl) dX2_howManyChoose_6 ?_
  refine x_get C0 hP (lay_X10 B ct S (isTownB_ok g2)) rfl inG10 0 (by decide) wd_60 (fun _ h => h) rfl dX2_howManyChoose_9 ?_
  refine lv_icmp_ge (tgt := 39) hx hb dX2_howManyChoose_12 (by decide) (fun z3 => ?_) (fun z3 => ?_)
  · have h := ob_t h z3
    refine lv_iload_n hx hb dX2_howManyChoose_39 rfl (lv_at hl 2 rfl) ?_
    exact r_I C0 hP hS h dX2_howManyChoose_40
  · have h := ob_f h z3
    refine lv_iload_n hx hb dX2_howManyChoose_15 rfl (lv_at hl 2 rfl) ?_
    refine lv_aload_n hx hb dX2_howManyChoose_16 rfl (lv_at hl 0 rfl) ?_
    refine x_get C0 hP (lay_X2 B ct S) rfl inG2 4 (by decide) wd_154 (fun _ h => h) rfl dX2_howManyChoose_17 ?_
    refine lv_iload_n hx hb dX2_howManyChoose_20 rfl (lv_at hl 3 rfl) ?_
    obtain ⟨g4, h⟩ := ob_gd h
    refine x_iald C0 hP ((fun S => lay_58 B ct S) S) g4 dX2_howManyChoose_21 ?_
    refine lv_iload_n hx hb dX2_howManyChoose_22 rfl (lv_at hl 1 rfl) ?_
    refine lv_icmp_ne (tgt := 30) hx hb dX2_howManyChoose_23 (by decide) (fun z5 => ?_) (fun z5 => ?_)
    · have h := ob_f h z5
      refine lv_iconst (v := 0) hx hb dX2_howManyChoose_30 (by decide) ?_
      exact w_X2_howManyChoose_31 l C0 v1 v3 0 v2 S n0 ih0 h hP hS (lv_sub hl [0, 1, 3] rfl)
    · have h := ob_t h z5
      refine lv_iconst (v := 1) hx hb dX2_howManyChoose_26 (by decide) ?_
      refine lv_goto (tgt := 31) hx hb dX2_howManyChoose_27 (by decide) ?_
      exact w_X2_howManyChoose_31 l C0 v1 v3 1 v2 S n0 ih0 h hP hS (lv_sub hl [0, 1, 3] rfl)
set_option maxRecDepth 100000 in
set_option maxHeartbeats 4000000 in
theorem wl_X2_howManyChoose_4 (l : Launch) {V : Int32} (C0 : XC D ct p s m args meth c cX2_howManyChoose 4 (some .int) RX2) (S : St)  : ∀ (n0 : Nat) (v1 : Int32) (v2 : Int32) (v3 : Int32) {H : Heap} {locs : List Loc} {ls : Array Slot}, (lp n0 (l_X2_howManyChoose_4 S) (v1, v2, v3)).bind some = some V → MP D ct B Hb S H → va_S (AB B) s.heap H locs → lv_has ls 4 [(0, .ref (B + 55)), (1, .int v1), (2, .int v2), (3, .int v3)] → W p l e { frames := 0, cells := 0, slots := 0, locals := 0 } s m args below meth c H locs 0 0 (MQ below (qI D ct B Hb S V) args s 0 0 (AB B)) (F0 m 4 ls []) := by
  intro n0
  induction n0 with
  | zero =>
    intro v1 v2 v3 H locs ls h hP hS hl
    exact (lp_0 h).elim
  | succ n0 ih0 =>
    intro v1 v2 v3 H locs ls h hP hS hl
    have h := lp_s h
    exact w_X2_howManyChoose_4 l C0 v1 v2 v3 S n0 (fun v1 v2 v3 H locs ls h hP hS hl => ih0 v1 v2 v3 h hP hS hl) h hP hS hl
set_option maxRecDepth 100000 in
set_option maxHeartbeats 4000000 in
theorem w_X2_howManyChoose_0 (l : Launch) {V : Int32} (C0 : XC D ct p s m args meth c cX2_howManyChoose 4 (some .int) RX2) (v1 : Int32) (S : St) {H : Heap} {locs : List Loc} {ls : Array Slot} (h : (b_X2_howManyChoose_0 v1 S).bind some = some V) (hP : MP D ct B Hb S H) (hS : va_S (AB B) s.heap H locs) (hl : lv_has ls 4 [(0, .ref (B + 55)), (1, .int v1)]) : W p l e { frames := 0, cells := 0, slots := 0, locals := 0 } s m args below meth c H locs 0 0 (MQ below (qI D ct B Hb S V) args s 0 0 (AB B)) (F0 m 0 ls []) := by
  obtain ⟨hx, hb, hr, hml, hown, hts, hK, hlocks, hN⟩ := id C0
  unfold b_X2_howManyChoose_0 at h
  refine lv_iconst (v := 0) hx hb dX2_howManyChoose_0 (by decide) ?_
  refine lv_istore_n (lv' := [(2, .int 0), (0, .ref (B + 55)), (1, .int v1)]) hx hb dX2_howManyChoose_1 rfl hl (by decide) rfl (fun ls hl => ?_)
  refine lv_iconst (v := 0) hx hb dX2_howManyChoose_2 (by decide) ?_
  refine lv_istore_n (lv' := [(3, .int 0), (2, .int 0), (0, .ref (B + 55)), (1, .int v1)]) hx hb dX2_howManyChoose_3 rfl hl (by decide) rfl (fun ls hl => ?_)
  exact wl_X2_howManyChoose_4 l C0 S 1000 v1 0 0 h hP hS (lv_sub hl [2, 3, 1, 0] rfl)
set_option maxRecDepth 100000 in
set_option maxHeartbeats 4000000 in
theorem c_X2_howManyChoose (l : Launch) (a1 : Int32) {D : va_G} {ct : Nat → ClassId} {B : Nat} {Hb : Heap} {S : St} {V : Int32} (h : L_X2_howManyChoose a1 S = some V) : Met l yX2_howManyChoose (Cond.code yX2_howManyChoose cX2_howManyChoose 4 (some .int) :: tG) { frames := 0, cells := 0, slots := 0, locals := 0 } (va_Pc [.ref (B + 55), .int a1] (MPK D ct B Hb S)) (qI D ct B Hb S V) 0 0 (AB B) := by
  refine mk_met (by decide +kernel) (Nat.le_of_ble_eq_true rfl) (fun p e s m args below meth c ls C0 hP hl _ => ?_)
  have h := ob_of h
  exact w_X2_howManyChoose_0 l C0 a1 S h hP va_S.rf (lv_sub hl [0, 1] rfl)
set_option maxRecDepth 100000 in
set_option maxHeartbeats 4000000 in
theorem w_X2_howManySold_30 (l : Launch) {V : Int32} (C0 : XC D ct p s m args meth c cX2_howManySold 3 (some .int) RX2) (v2 : Int32) (s0 : Int32) (s1 : Int32) (S : St) (n0 : Nat) (ih0 : ∀ (v1 : Int32) (v2 : Int32) (H : Heap) (locs : List Loc) (ls : Array Slot), (lp n0 (l_X2_howManySold_4 S) (v1, v2)).bind some = some V → MP D ct B Hb S H → va_S (AB B) s.heap H locs → lv_has ls 3 [(0, .ref (B + 55)), (1, .int v1), (2, .int v2)] → W p l e { frames := 0, cells := 0, slots := 0, locals := 0 } s m args below meth c H locs 0 0 (MQ below (qI D ct B Hb S V) args s 0 0 (AB B)) (F0 m 4 ls [])) {H : Heap} {locs : List Loc} {ls : Array Slot} (h : (b_X2_howManySold_30 v2 s0 s1 S).bind (lpF n0 (l_X2_howManySold_4 S) some) = some V) (hP : MP D ct B Hb S H) (hS : va_S (AB B) s.heap H locs) (hl : lv_has ls 3 [(0, .ref (B + 55)), (2, .int v2)]) : W p l e { frames := 0, cells := 0, slots := 0, locals := 0 } s m args below meth c H locs 0 0 (MQ below (qI D ct B Hb S V) args s 0 0 (AB B)) (F0 m 30 ls [.int s0, .int s1]) := by
  obtain ⟨hx, hb, hr, hml, hown, hts, hK, hlocks, hN⟩ := id C0
  unfold b_X2_howManySold_30 at h
  refine lv_iadd hx hb dX2_howManySold_30 ?_
  refine lv_istore_n (lv' := [(1, .int (s1 + s0)), (0, .ref (B + 55)), (2, .int v2)]) hx hb dX2_howManySold_31 rfl hl (by decide) rfl (fun ls hl => ?_)
  refine lv_iinc (v := v2 + 1) (lv' := [(2, .int (v2 + 1)), (1, .int (s1 + s0)), (0, .ref (B + 55))]) hx hb dX2_howManySold_32 hl (k := 2) rfl rfl (by decide) rfl (fun ls hl => ?_)
  refine lv_goto (tgt := 4) hx hb dX2_howManySold_35 (by decide) ?_
  exact ih0 (s1 + s0) (v2 + 1) _ _ _ h hP hS (lv_sub hl [2, 1, 0] rfl)
set_option maxRecDepth 100000 in
set_option maxHeartbeats 4000000 in
theorem w_X2_howManySold_4 (l : Launch) {V : Int32} (C0 : XC D ct p s m args meth c cX2_howManySold 3 (some .int) RX2) (v1 : Int32) (v2 : Int32) (S : St) (n0 : Nat) (ih0 : ∀ (v1 : Int32) (v2 : Int32) (H : Heap) (locs : List Loc) (ls : Array Slot), (lp n0 (l_X2_howManySold_4 S) (v1, v2)).bind some = some V → MP D ct B Hb S H → va_S (AB B) s.heap H locs → lv_has ls 3 [(0, .ref (B + 55)), (1, .int v1), (2, .int v2)] → W p l e { frames := 0, cells := 0, slots := 0, locals := 0 } s m args below meth c H locs 0 0 (MQ below (qI D ct B Hb S V) args s 0 0 (AB B)) (F0 m 4 ls [])) {H : Heap} {locs : List Loc} {ls : Array Slot} (h : (b_X2_howManySold_4 v1 v2 S).bind (lpF n0 (l_X2_howManySold_4 S) some) = some V) (hP : MP D ct B Hb S H) (hS : va_S (AB B) s.heap H locs) (hl : lv_has ls 3 [(0, .ref (B + 55)), (1, .int v1), (2, .int v2)]) : W p l e { frames := 0, cells := 0, slots := 0, locals := 0 } s m args below meth c H locs 0 0 (MQ below (qI D ct B Hb S V) args s 0 0 (AB B)) (F0 m 4 ls []) := by
  obtain ⟨hx, hb, hr, hml, hown, hts, hK, hlocks, hN⟩ := id C0
  unfold b_X2_howManySold_4 at h
  refine lv_iload_n hx hb dX2_howManySold_4 rfl (lv_at hl 2 rfl) ?_
  refine lv_aload_n hx hb dX2_howManySold_5 rfl (lv_at hl 0 rfl) ?_
  obtain ⟨t1, et1, h⟩ := ob_bd h
  obtain ⟨g2, h⟩ := ob_gd h
  refine x_get (v := .ref (B + t1)) C0 hP (lay_X2 B ct S) rfl inG2 0 (by decide) wd_149 (fun _ h => h) (by show some (va_rf ((gr S 55 0).map (B + ·))) = _; rw [et1]; rfl) dX2_howManySold_6 ?_
  refine x_get C0 hP (lay_X10 B ct S (isTownB_ok g2)) rfl inG10 0 (by decide) wd_60 (fun _ h => h) rfl dX2_howManySold_9 ?_
  refine lv_icmp_ge (tgt := 38) hx hb dX2_howManySold_12 (by decide) (fun z3 => ?_) (fun z3 => ?_)
  · have h := ob_t h z3
    refine lv_iload_n hx hb dX2_howManySold_38 rfl (lv_at hl 1 rfl) ?_
    exact r_I C0 hP hS h dX2_howManySold_39
  · have h := ob_f h z3
    refine lv_iload_n hx hb dX2_howManySold_15 rfl (lv_at hl 1 rfl) ?_
    refine lv_aload_n hx hb dX2_howManySold_16 rfl (lv_at hl 0 rfl) ?_
    refine x_get C0 hP (lay_X2 B ct S) rfl inG2 5 (by decide) wd_156 (fun _ h => h) rfl dX2_howManySold_17 ?_
    refine lv_iload_n hx hb dX2_howManySold_20 rfl (lv_at hl 2 rfl) ?_
    obtain ⟨g4, h⟩ := ob_gd h
    refine x_iald C0 hP ((fun S => lay_59 B ct S) S) g4 dX2_howManySold_21 ?_
    refine lv_if_lt (tgt := 29) hx hb dX2_howManySold_22 (by decide) (fun z5 => ?_) (fun z5 => ?_)
    · have h := ob_t h z5
      refine lv_iconst (v := 0) hx hb dX2_howManySold_29 (by decide) ?_
      exact w_X2_howManySold_30 l C0 v2 0 v1 S n0 ih0 h hP hS (lv_sub hl [0, 2] rfl)
    · have h := ob_f h z5
      refine lv_iconst (v := 1) hx hb dX2_howManySold_25 (by decide) ?_
      refine lv_goto (tgt := 30) hx hb dX2_howManySold_26 (by decide) ?_
      exact w_X2_howManySold_30 l C0 v2 1 v1 S n0 ih0 h hP hS (lv_sub hl [0, 2] rfl)
set_option maxRecDepth 100000 in
set_option maxHeartbeats 4000000 in
theorem wl_X2_howManySold_4 (l : Launch) {V : Int32} (C0 : XC D ct p s m args meth c cX2_howManySold 3 (some .int) RX2) (S : St)  : ∀ (n0 : Nat) (v1 : Int32) (v2 : Int32) {H : Heap} {locs : List Loc} {ls : Array Slot}, (lp n0 (l_X2_howManySold_4 S) (v1, v2)).bind some = some V → MP D ct B Hb S H → va_S (AB B) s.heap H locs → lv_has ls 3 [(0, .ref (B + 55)), (1, .int v1), (2, .int v2)] → W p l e { frames := 0, cells := 0, slots := 0, locals := 0 } s m args below meth c H locs 0 0 (MQ below (qI D ct B Hb S V) args s 0 0 (AB B)) (F0 m 4 ls []) := by
  intro n0
  induction n0 with
  | zero =>
    intro v1 v2 H locs ls h hP hS hl
    exact (lp_0 h).elim
  | succ n0 ih0 =>
    intro v1 v2 H locs ls h hP hS hl
    have h := lp_s h
    exact w_X2_howManySold_4 l C0 v1 v2 S n0 (fun v1 v2 H locs ls h hP hS hl => ih0 v1 v2 h hP hS hl) h hP hS hl
set_option maxRecDepth 100000 in
set_option maxHeartbeats 4000000 in
theorem w_X2_howManySold_0 (l : Launch) {V : Int32} (C0 : XC D ct p s m args meth c cX2_howManySold 3 (some .int) RX2) (S : St) {H : Heap} {locs : List Loc} {ls : Array Slot} (h : (b_X2_howManySold_0 S).bind some = some V) (hP : MP D ct B Hb S H) (hS : va_S (AB B) s.heap H locs) (hl : lv_has ls 3 [(0, .ref (B + 55))]) : W p l e { frames := 0, cells := 0, slots := 0, locals := 0 } s m args below meth c H locs 0 0 (MQ below (qI D ct B Hb S V) args s 0 0 (AB B)) (F0 m 0 ls []) := by
  obtain ⟨hx, hb, hr, hml, hown, hts, hK, hlocks, hN⟩ := id C0
  unfold b_X2_howManySold_0 at h
  refine lv_iconst (v := 0) hx hb dX2_howManySold_0 (by decide) ?_
  refine lv_istore_n (lv' := [(1, .int 0), (0, .ref (B + 55))]) hx hb dX2_howManySold_1 rfl hl (by decide) rfl (fun ls hl => ?_)
  refine lv_iconst (v := 0) hx hb dX2_howManySold_2 (by decide) ?_
  refine lv_istore_n (lv' := [(2, .int 0), (1, .int 0), (0, .ref (B + 55))]) hx hb dX2_howManySold_3 rfl hl (by decide) rfl (fun ls hl => ?_)
  exact wl_X2_howManySold_4 l C0 S 1000 0 0 h hP hS (lv_sub hl [2, 1, 0] rfl)
set_option maxRecDepth 100000 in
set_option maxHeartbeats 4000000 in
theorem c_X2_howManySold (l : Launch) {D : va_G} {ct : Nat → ClassId} {B : Nat} {Hb : Heap} {S : St} {V : Int32} (h : L_X2_howManySold S = some V) : Met l yX2_howManySold (Cond.code yX2_howManySold cX2_howManySold 3 (some .int) :: tG) { frames := 0, cells := 0, slots := 0, locals := 0 } (va_Pc [.ref (B + 55)] (MPK D ct B Hb S)) (qI D ct B Hb S V) 0 0 (AB B) := by
  refine mk_met (by decide +kernel) (Nat.le_of_ble_eq_true rfl) (fun p e s m args below meth c ls C0 hP hl _ => ?_)
  have h := ob_of h
  exact w_X2_howManySold_0 l C0 S h hP va_S.rf (lv_sub hl [0] rfl)
set_option maxRecDepth 100000 in
set_option maxHeartbeats 4000000 in
theorem w_X2_allPaid_4 (l : Launch) {V : Int32} (C0 : XC D ct p s m args meth c cX2_allPaid 3 (some .int) RX2) (v1 : Int32) (v2 : Int32) (S : St) (n0 : Nat) (ih0 : ∀ (v1 : Int32) (v2 : Int32) (H : Heap) (locs : List Loc) (ls : Array Slot), (lp n0 (l_X2_allPaid_4 S) (v1, v2)).bind some = some V → MP D ct B Hb S H → va_S (AB B) s.heap H locs → lv_has ls 3 [(0, .ref (B + 55)), (1, .int v1), (2, .int v2)] → W p l e { frames := 0, cells := 0, slots := 0, locals := 0 } s m args below meth c H locs 0 0 (MQ below (qI D ct B Hb S V) args s 0 0 (AB B)) (F0 m 4 ls [])) {H : Heap} {locs : List Loc} {ls : Array Slot} (h : (b_X2_allPaid_4 v1 v2 S).bind (lpF n0 (l_X2_allPaid_4 S) some) = some V) (hP : MP D ct B Hb S H) (hS : va_S (AB B) s.heap H locs) (hl : lv_has ls 3 [(0, .ref (B + 55)), (1, .int v1), (2, .int v2)]) : W p l e { frames := 0, cells := 0, slots := 0, locals := 0 } s m args below meth c H locs 0 0 (MQ below (qI D ct B Hb S V) args s 0 0 (AB B)) (F0 m 4 ls []) := by
  obtain ⟨hx, hb, hr, hml, hown, hts, hK, hlocks, hN⟩ := id C0
  unfold b_X2_allPaid_4 at h
  refine lv_iload_n hx hb dX2_allPaid_4 rfl (lv_at hl 2 rfl) ?_
  refine lv_aload_n hx hb dX2_allPaid_5 rfl (lv_at hl 0 rfl) ?_
  obtain ⟨t1, et1, h⟩ := ob_bd h
  obtain ⟨g2, h⟩ := ob_gd h
  refine x_get (v := .ref (B + t1)) C0 hP (lay_X2 B ct S) rfl inG2 0 (by decide) wd_149 (fun _ h => h) (by show some (va_rf ((gr S 55 0).map (B + ·))) = _; rw [et1]; rfl) dX2_allPaid_6 ?_
  refine x_get C0 hP (lay_X10 B ct S (isTownB_ok g2)) rfl inG10 0 (by decide) wd_60 (fun _ h => h) rfl dX2_allPaid_9 ?_
  refine lv_icmp_ge (tgt := 30) hx hb dX2_allPaid_12 (by decide) (fun z3 => ?_) (fun z3 => ?_)
  · have h := ob_t h z3
    refine lv_iload_n hx hb dX2_allPaid_30 rfl (lv_at hl 1 rfl) ?_
    exact r_I C0 hP hS h dX2_allPaid_31
  · have h := ob_f h z3
    refine lv_iload_n hx hb dX2_allPaid_15 rfl (lv_at hl 1 rfl) ?_
    refine lv_aload_n hx hb dX2_allPaid_16 rfl (lv_at hl 0 rfl) ?_
    refine x_get C0 hP (lay_X2 B ct S) rfl inG2 6 (by decide) wd_157 (fun _ h => h) rfl dX2_allPaid_17 ?_
    refine lv_iload_n hx hb dX2_allPaid_20 rfl (lv_at hl 2 rfl) ?_
    obtain ⟨g4, h⟩ := ob_gd h
    refine x_iald C0 hP ((fun S => lay_60 B ct S) S) g4 dX2_allPaid_21 ?_
    refine lv_iadd hx hb dX2_allPaid_22 ?_
    refine lv_istore_n (lv' := [(1, .int (v1 + (gi S 60 v2.toNatClampNeg))), (0, .ref (B + 55)), (2, .int v2)]) hx hb dX2_allPaid_23 rfl hl (by decide) rfl (fun ls hl => ?_)
    refine lv_iinc (v := v2 + 1) (lv' := [(2, .int (v2 + 1)), (1, .int (v1 + (gi S 60 v2.toNatClampNeg))), (0, .ref (B + 55))]) hx hb dX2_allPaid_24 hl (k := 2) rfl rfl (by decide) rfl (fun ls hl => ?_)
    refine lv_goto (tgt := 4) hx hb dX2_allPaid_27 (by decide) ?_
    exact ih0 (v1 + (gi S 60 v2.toNatClampNeg)) (v2 + 1) _ _ _ h hP hS (lv_sub hl [2, 1, 0] rfl)
set_option maxRecDepth 100000 in
set_option maxHeartbeats 4000000 in
theorem wl_X2_allPaid_4 (l : Launch) {V : Int32} (C0 : XC D ct p s m args meth c cX2_allPaid 3 (some .int) RX2) (S : St)  : ∀ (n0 : Nat) (v1 : Int32) (v2 : Int32) {H : Heap} {locs : List Loc} {ls : Array Slot}, (lp n0 (l_X2_allPaid_4 S) (v1, v2)).bind some = some V → MP D ct B Hb S H → va_S (AB B) s.heap H locs → lv_has ls 3 [(0, .ref (B + 55)), (1, .int v1), (2, .int v2)] → W p l e { frames := 0, cells := 0, slots := 0, locals := 0 } s m args below meth c H locs 0 0 (MQ below (qI D ct B Hb S V) args s 0 0 (AB B)) (F0 m 4 ls []) := by
  intro n0
  induction n0 with
  | zero =>
    intro v1 v2 H locs ls h hP hS hl
    exact (lp_0 h).elim
  | succ n0 ih0 =>
    intro v1 v2 H locs ls h hP hS hl
    have h := lp_s h
    exact w_X2_allPaid_4 l C0 v1 v2 S n0 (fun v1 v2 H locs ls h hP hS hl => ih0 v1 v2 h hP hS hl) h hP hS hl
set_option maxRecDepth 100000 in
set_option maxHeartbeats 4000000 in
theorem w_X2_allPaid_0 (l : Launch) {V : Int32} (C0 : XC D ct p s m args meth c cX2_allPaid 3 (some .int) RX2) (S : St) {H : Heap} {locs : List Loc} {ls : Array Slot} (h : (b_X2_allPaid_0 S).bind some = some V) (hP : MP D ct B Hb S H) (hS : va_S (AB B) s.heap H locs) (hl : lv_has ls 3 [(0, .ref (B + 55))]) : W p l e { frames := 0, cells := 0, slots := 0, locals := 0 } s m args below meth c H locs 0 0 (MQ below (qI D ct B Hb S V) args s 0 0 (AB B)) (F0 m 0 ls []) := by
  obtain ⟨hx, hb, hr, hml, hown, hts, hK, hlocks, hN⟩ := id C0
  unfold b_X2_allPaid_0 at h
  refine lv_iconst (v := 0) hx hb dX2_allPaid_0 (by decide) ?_
  refine lv_istore_n (lv' := [(1, .int 0), (0, .ref (B + 55))]) hx hb dX2_allPaid_1 rfl hl (by decide) rfl (fun ls hl => ?_)
  refine lv_iconst (v := 0) hx hb dX2_allPaid_2 (by decide) ?_
  refine lv_istore_n (lv' := [(2, .int 0), (1, .int 0), (0, .ref (B + 55))]) hx hb dX2_allPaid_3 rfl hl (by decide) rfl (fun ls hl => ?_)
  exact wl_X2_allPaid_4 l C0 S 1000 0 0 h hP hS (lv_sub hl [2, 1, 0] rfl)
set_option maxRecDepth 100000 in
set_option maxHeartbeats 4000000 in
theorem c_X2_allPaid (l : Launch) {D : va_G} {ct : Nat → ClassId} {B : Nat} {Hb : Heap} {S : St} {V : Int32} (h : L_X2_allPaid S = some V) : Met l yX2_allPaid (Cond.code yX2_allPaid cX2_allPaid 3 (some .int) :: tG) { frames := 0, cells := 0, slots := 0, locals := 0 } (va_Pc [.ref (B + 55)] (MPK D ct B Hb S)) (qI D ct B Hb S V) 0 0 (AB B) := by
  refine mk_met (by decide +kernel) (Nat.le_of_ble_eq_true rfl) (fun p e s m args below meth c ls C0 hP hl _ => ?_)
  have h := ob_of h
  exact w_X2_allPaid_0 l C0 S h hP va_S.rf (lv_sub hl [0] rfl)
set_option maxRecDepth 100000 in
set_option maxHeartbeats 4000000 in
theorem w_X2_howManyRegret_30 (l : Launch) {V : Int32} (C0 : XC D ct p s m args meth c cX2_howManyRegret 3 (some .int) RX2) (v2 : Int32) (s0 : Int32) (s1 : Int32) (S : St) (n0 : Nat) (ih0 : ∀ (v1 : Int32) (v2 : Int32) (H : Heap) (locs : List Loc) (ls : Array Slot), (lp n0 (l_X2_howManyRegret_4 S) (v1, v2)).bind some = some V → MP D ct B Hb S H → va_S (AB B) s.heap H locs → lv_has ls 3 [(0, .ref (B + 55)), (1, .int v1), (2, .int v2)] → W p l e { frames := 0, cells := 0, slots := 0, locals := 0 } s m args below meth c H locs 0 0 (MQ below (qI D ct B Hb S V) args s 0 0 (AB B)) (F0 m 4 ls [])) {H : Heap} {locs : List Loc} {ls : Array Slot} (h : (b_X2_howManyRegret_30 v2 s0 s1 S).bind (lpF n0 (l_X2_howManyRegret_4 S) some) = some V) (hP : MP D ct B Hb S H) (hS : va_S (AB B) s.heap H locs) (hl : lv_has ls 3 [(0, .ref (B + 55)), (2, .int v2)]) : W p l e { frames := 0, cells := 0, slots := 0, locals := 0 } s m args below meth c H locs 0 0 (MQ below (qI D ct B Hb S V) args s 0 0 (AB B)) (F0 m 30 ls [.int s0, .int s1]) := by
  obtain ⟨hx, hb, hr, hml, hown, hts, hK, hlocks, hN⟩ := id C0
  unfold b_X2_howManyRegret_30 at h
  refine lv_iadd hx hb dX2_howManyRegret_30 ?_
  refine lv_istore_n (lv' := [(1, .int (s1 + s0)), (0, .ref (B + 55)), (2, .int v2)]) hx hb dX2_howManyRegret_31 rfl hl (by decide) rfl (fun ls hl => ?_)
  refine lv_iinc (v := v2 + 1) (lv' := [(2, .int (v2 + 1)), (1, .int (s1 + s0)), (0, .ref (B + 55))]) hx hb dX2_howManyRegret_32 hl (k := 2) rfl rfl (by decide) rfl (fun ls hl => ?_)
  refine lv_goto (tgt := 4) hx hb dX2_howManyRegret_35 (by decide) ?_
  exact ih0 (s1 + s0) (v2 + 1) _ _ _ h hP hS (lv_sub hl [2, 1, 0] rfl)
set_option maxRecDepth 100000 in
set_option maxHeartbeats 4000000 in
theorem w_X2_howManyRegret_4 (l : Launch) {V : Int32} (C0 : XC D ct p s m args meth c cX2_howManyRegret 3 (some .int) RX2) (v1 : Int32) (v2 : Int32) (S : St) (n0 : Nat) (ih0 : ∀ (v1 : Int32) (v2 : Int32) (H : Heap) (locs : List Loc) (ls : Array Slot), (lp n0 (l_X2_howManyRegret_4 S) (v1, v2)).bind some = some V → MP D ct B Hb S H → va_S (AB B) s.heap H locs → lv_has ls 3 [(0, .ref (B + 55)), (1, .int v1), (2, .int v2)] → W p l e { frames := 0, cells := 0, slots := 0, locals := 0 } s m args below meth c H locs 0 0 (MQ below (qI D ct B Hb S V) args s 0 0 (AB B)) (F0 m 4 ls [])) {H : Heap} {locs : List Loc} {ls : Array Slot} (h : (b_X2_howManyRegret_4 v1 v2 S).bind (lpF n0 (l_X2_howManyRegret_4 S) some) = some V) (hP : MP D ct B Hb S H) (hS : va_S (AB B) s.heap H locs) (hl : lv_has ls 3 [(0, .ref (B + 55)), (1, .int v1), (2, .int v2)]) : W p l e { frames := 0, cells := 0, slots := 0, locals := 0 } s m args below meth c H locs 0 0 (MQ below (qI D ct B Hb S V) args s 0 0 (AB B)) (F0 m 4 ls []) := by
  obtain ⟨hx, hb, hr, hml, hown, hts, hK, hlocks, hN⟩ := id C0
  unfold b_X2_howManyRegret_4 at h
  refine lv_iload_n hx hb dX2_howManyRegret_4 rfl (lv_at hl 2 rfl) ?_
  refine lv_aload_n hx hb dX2_howManyRegret_5 rfl (lv_at hl 0 rfl) ?_
  obtain ⟨t1, et1, h⟩ := ob_bd h
  obtain ⟨g2, h⟩ := ob_gd h
  refine x_get (v := .ref (B + t1)) C0 hP (lay_X2 B ct S) rfl inG2 0 (by decide) wd_149 (fun _ h => h) (by show some (va_rf ((gr S 55 0).map (B + ·))) = _; rw [et1]; rfl) dX2_howManyRegret_6 ?_
  refine x_get C0 hP (lay_X10 B ct S (isTownB_ok g2)) rfl inG10 0 (by decide) wd_60 (fun _ h => h) rfl dX2_howManyRegret_9 ?_
  refine lv_icmp_ge (tgt := 38) hx hb dX2_howManyRegret_12 (by decide) (fun z3 => ?_) (fun z3 => ?_)
  · have h := ob_t h z3
    refine lv_iload_n hx hb dX2_howManyRegret_38 rfl (lv_at hl 1 rfl) ?_
    exact r_I C0 hP hS h dX2_howManyRegret_39
  · have h := ob_f h z3
    refine lv_iload_n hx hb dX2_howManyRegret_15 rfl (lv_at hl 1 rfl) ?_
    refine lv_aload_n hx hb dX2_howManyRegret_16 rfl (lv_at hl 0 rfl) ?_
    refine x_get C0 hP (lay_X2 B ct S) rfl inG2 7 (by decide) wd_158 (fun _ h => h) rfl dX2_howManyRegret_17 ?_
    refine lv_iload_n hx hb dX2_howManyRegret_20 rfl (lv_at hl 2 rfl) ?_
    obtain ⟨g4, h⟩ := ob_gd h
    refine x_iald C0 hP ((fun S => lay_61 B ct S) S) g4 dX2_howManyRegret_21 ?_
    refine lv_if_eq (tgt := 29) hx hb dX2_howManyRegret_22 (by decide) (fun z5 => ?_) (fun z5 => ?_)
    · have h := ob_t h z5
      refine lv_iconst (v := 0) hx hb dX2_howManyRegret_29 (by decide) ?_
      exact w_X2_howManyRegret_30 l C0 v2 0 v1 S n0 ih0 h hP hS (lv_sub hl [0, 2] rfl)
    · have h := ob_f h z5
      refine lv_iconst (v := 1) hx hb dX2_howManyRegret_25 (by decide) ?_
      refine lv_goto (tgt := 30) hx hb dX2_howManyRegret_26 (by decide) ?_
      exact w_X2_howManyRegret_30 l C0 v2 1 v1 S n0 ih0 h hP hS (lv_sub hl [0, 2] rfl)
set_option maxRecDepth 100000 in
set_option maxHeartbeats 4000000 in
theorem wl_X2_howManyRegret_4 (l : Launch) {V : Int32} (C0 : XC D ct p s m args meth c cX2_howManyRegret 3 (some .int) RX2) (S : St)  : ∀ (n0 : Nat) (v1 : Int32) (v2 : Int32) {H : Heap} {locs : List Loc} {ls : Array Slot}, (lp n0 (l_X2_howManyRegret_4 S) (v1, v2)).bind some = some V → MP D ct B Hb S H → va_S (AB B) s.heap H locs → lv_has ls 3 [(0, .ref (B + 55)), (1, .int v1), (2, .int v2)] → W p l e { frames := 0, cells := 0, slots := 0, locals := 0 } s m args below meth c H locs 0 0 (MQ below (qI D ct B Hb S V) args s 0 0 (AB B)) (F0 m 4 ls []) := by
  intro n0
  induction n0 with
  | zero =>
    intro v1 v2 H locs ls h hP hS hl
    exact (lp_0 h).elim
  | succ n0 ih0 =>
    intro v1 v2 H locs ls h hP hS hl
    have h := lp_s h
    exact w_X2_howManyRegret_4 l C0 v1 v2 S n0 (fun v1 v2 H locs ls h hP hS hl => ih0 v1 v2 h hP hS hl) h hP hS hl
set_option maxRecDepth 100000 in
set_option maxHeartbeats 4000000 in
theorem w_X2_howManyRegret_0 (l : Launch) {V : Int32} (C0 : XC D ct p s m args meth c cX2_howManyRegret 3 (some .int) RX2) (S : St) {H : Heap} {locs : List Loc} {ls : Array Slot} (h : (b_X2_howManyRegret_0 S).bind some = some V) (hP : MP D ct B Hb S H) (hS : va_S (AB B) s.heap H locs) (hl : lv_has ls 3 [(0, .ref (B + 55))]) : W p l e { frames := 0, cells := 0, slots := 0, locals := 0 } s m args below meth c H locs 0 0 (MQ below (qI D ct B Hb S V) args s 0 0 (AB B)) (F0 m 0 ls []) := by
  obtain ⟨hx, hb, hr, hml, hown, hts, hK, hlocks, hN⟩ := id C0
  unfold b_X2_howManyRegret_0 at h
  refine lv_iconst (v := 0) hx hb dX2_howManyRegret_0 (by decide) ?_
  refine lv_istore_n (lv' := [(1, .int 0), (0, .ref (B + 55))]) hx hb dX2_howManyRegret_1 rfl hl (by decide) rfl (fun ls hl => ?_)
  refine lv_iconst (v := 0) hx hb dX2_howManyRegret_2 (by decide) ?_
  refine lv_istore_n (lv' := [(2, .int 0), (1, .int 0), (0, .ref (B + 55))]) hx hb dX2_howManyRegret_3 rfl hl (by decide) rfl (fun ls hl => ?_)
  exact wl_X2_howManyRegret_4 l C0 S 1000 0 0 h hP hS (lv_sub hl [2, 1, 0] rfl)
set_option maxRecDepth 100000 in
set_option maxHeartbeats 4000000 in
theorem c_X2_howManyRegret (l : Launch) {D : va_G} {ct : Nat → ClassId} {B : Nat} {Hb : Heap} {S : St} {V : Int32} (h : L_X2_howManyRegret S = some V) : Met l yX2_howManyRegret (Cond.code yX2_howManyRegret cX2_howManyRegret 3 (some .int) :: tG) { frames := 0, cells := 0, slots := 0, locals := 0 } (va_Pc [.ref (B + 55)] (MPK D ct B Hb S)) (qI D ct B Hb S V) 0 0 (AB B) := by
  refine mk_met (by decide +kernel) (Nat.le_of_ble_eq_true rfl) (fun p e s m args below meth c ls C0 hP hl _ => ?_)
  have h := ob_of h
  exact w_X2_howManyRegret_0 l C0 S h hP va_S.rf (lv_sub hl [0] rfl)
set_option maxRecDepth 100000 in
set_option maxHeartbeats 4000000 in
theorem w_X2_countOf_0 (l : Launch) {V : Int32} (C0 : XC D ct p s m args meth c cX2_countOf 2 (some .int) RX2) (v1 : Int32) (S : St) {H : Heap} {locs : List Loc} {ls : Array Slot} (h : (b_X2_countOf_0 v1 S).bind some = some V) (hP : MP D ct B Hb S H) (hS : va_S (AB B) s.heap H locs) (hl : lv_has ls 2 [(0, .ref (B + 55)), (1, .int v1)]) : W p l e { frames := 1, cells := 0, slots := 0, locals := 23 } s m args below meth c H locs 0 0 (MQ below (qI D ct B Hb S V) args s 0 0 (AB B)) (F0 m 0 ls []) := by
  obtain ⟨hx, hb, hr, hml, hown, hts, hK, hlocks, hN⟩ := id C0
  unfold b_X2_countOf_0 at h
  refine lv_iload_n hx hb dX2_countOf_0 rfl (lv_at hl 1 rfl) ?_
  rcases Decidable.em ((v1 : Int32) = 0) with z1 | z1
  · have h := ob_t h z1
    refine lv_tableIn (x := v1) (off := 35) (tgt := 36) hx hb dX2_countOf_1 (by rw [z1]; decide) (by rw [z1]; decide) (by rw [z1]; decide) (by decide) ?_
    refine lv_aload_n hx hb dX2_countOf_36 rfl (lv_at hl 0 rfl) ?_
    refine lv_iconst (v := 1) hx hb dX2_countOf_37 (by decide) ?_
    obtain ⟨r2, hr2, h⟩ := ob_bd h
    refine n_I (kV (As := [.int 1]) C0 (c_X2_howManyChoose l 1 hr2) ⟨wd_839, wd_836, wd_838, wp_15, wd_4⟩ kd_X2_howManyChoose ⟨Nat.le_of_ble_eq_true rfl, Nat.le_of_ble_eq_true rfl⟩ hP (lay_X2 B ct S) rfl rfl hl.1 rfl (Nat.le_of_ble_eq_true rfl) dX2_countOf_38 ⟨Nat.le_of_ble_eq_true rfl, Nat.le_of_ble_eq_true rfl⟩) hS (fun H locs hP hS => ?_)
    exact r_I C0 hP hS h dX2_countOf_41
  · have h := ob_f h z1
    rcases Decidable.em ((v1 : Int32) = 1) with z3 | z3
    · have h := ob_t h z3
      refine lv_tableIn (x := v1) (off := 41) (tgt := 42) hx hb dX2_countOf_1 (by rw [z3]; decide) (by rw [z3]; decide) (by rw [z3]; decide) (by decide) ?_
      refine lv_aload_n hx hb dX2_countOf_42 rfl (lv_at hl 0 rfl) ?_
      refine lv_iconst (v := (-1)) hx hb dX2_countOf_43 (by decide) ?_
      obtain ⟨r4, hr4, h⟩ := ob_bd h
      refine n_I (kV (As := [.int ((-1))]) C0 (c_X2_howManyChoose l ((-1)) hr4) ⟨wd_839, wd_836, wd_838, wp_15, wd_4⟩ kd_X2_howManyChoose ⟨Nat.le_of_ble_eq_true rfl, Nat.le_of_ble_eq_true rfl⟩ hP (lay_X2 B ct S) rfl rfl hl.1 rfl (Nat.le_of_ble_eq_true rfl) dX2_countOf_44 ⟨Nat.le_of_ble_eq_true rfl, Nat.le_of_ble_eq_true rfl⟩) hS (fun H locs hP hS => ?_)
      exact r_I C0 hP hS h dX2_countOf_47
    · have h := ob_f h z3
      rcases Decidable.em ((v1 : Int32) = 2) with z5 | z5
      · have h := ob_t h z5
        refine lv_tableIn (x := v1) (off := 47) (tgt := 48) hx hb dX2_countOf_1 (by rw [z5]; decide) (by rw [z5]; decide) (by rw [z5]; decide) (by decide) ?_
        refine lv_aload_n hx hb dX2_countOf_48 rfl (lv_at hl 0 rfl) ?_
        refine lv_iconst (v := 0) hx hb dX2_countOf_49 (by decide) ?_
        obtain ⟨r6, hr6, h⟩ := ob_bd h
        refine n_I (kV (As := [.int 0]) C0 (c_X2_howManyChoose l 0 hr6) ⟨wd_839, wd_836, wd_838, wp_15, wd_4⟩ kd_X2_howManyChoose ⟨Nat.le_of_ble_eq_true rfl, Nat.le_of_ble_eq_true rfl⟩ hP (lay_X2 B ct S) rfl rfl hl.1 rfl (Nat.le_of_ble_eq_true rfl) dX2_countOf_50 ⟨Nat.le_of_ble_eq_true rfl, Nat.le_of_ble_eq_true rfl⟩) hS (fun H locs hP hS => ?_)
        exact r_I C0 hP hS h dX2_countOf_53
      · have h := ob_f h z5
        rcases Decidable.em ((v1 : Int32) = 3) with z7 | z7
        · have h := ob_t h z7
          refine lv_tableIn (x := v1) (off := 53) (tgt := 54) hx hb dX2_countOf_1 (by rw [z7]; decide) (by rw [z7]; decide) (by rw [z7]; decide) (by decide) ?_
          refine lv_aload_n hx hb dX2_countOf_54 rfl (lv_at hl 0 rfl) ?_
          obtain ⟨r8, hr8, h⟩ := ob_bd h
          refine n_I (kV (As := []) C0 (c_X2_howManySold l hr8) ⟨wd_843, wd_840, wd_841, wd_842, wd_4⟩ kd_X2_howManySold ⟨Nat.le_of_ble_eq_true rfl, Nat.le_of_ble_eq_true rfl⟩ hP (lay_X2 B ct S) rfl rfl hl.1 rfl (Nat.le_of_ble_eq_true rfl) dX2_countOf_55 ⟨Nat.le_of_ble_eq_true rfl, Nat.le_of_ble_eq_true rfl⟩) hS (fun H locs hP hS => ?_)
          exact r_I C0 hP hS h dX2_countOf_58
        · have h := ob_f h z7
          rcases Decidable.em ((v1 : Int32) = 4) with z9 | z9
          · have h := ob_t h z9
            refine lv_tableIn (x := v1) (off := 58) (tgt := 59) hx hb dX2_countOf_1 (by rw [z9]; decide) (by rw [z9]; decide) (by rw [z9]; decide) (by decide) ?_
            refine lv_aload_n hx hb dX2_countOf_59 rfl (lv_at hl 0 rfl) ?_
            obtain ⟨r10, hr10, h⟩ := ob_bd h
            refine n_I (kV (As := []) C0 (c_X2_allPaid l hr10) ⟨wd_847, wd_844, wd_845, wd_846, wd_4⟩ kd_X2_allPaid ⟨Nat.le_of_ble_eq_true rfl, Nat.le_of_ble_eq_true rfl⟩ hP (lay_X2 B ct S) rfl rfl hl.1 rfl (Nat.le_of_ble_eq_true rfl) dX2_countOf_60 ⟨Nat.le_of_ble_eq_true rfl, Nat.le_of_ble_eq_true rfl⟩) hS (fun H locs hP hS => ?_)
            exact r_I C0 hP hS h dX2_countOf_63
          · have h := ob_f h z9
            refine lv_tableOut (x := v1) (tgt := 64) hx hb dX2_countOf_1 (sw_0_5 z1 z3 z5 z7 z9) (by decide) ?_
            refine lv_aload_n hx hb dX2_countOf_64 rfl (lv_at hl 0 rfl) ?_
            obtain ⟨r11, hr11, h⟩ := ob_bd h
            refine n_I (kV (As := []) C0 (c_X2_howManyRegret l hr11) ⟨wd_851, wd_848, wd_849, wd_850, wd_4⟩ kd_X2_howManyRegret ⟨Nat.le_of_ble_eq_true rfl, Nat.le_of_ble_eq_true rfl⟩ hP (lay_X2 B ct S) rfl rfl hl.1 rfl (Nat.le_of_ble_eq_true rfl) dX2_countOf_65 ⟨Nat.le_of_ble_eq_true rfl, Nat.le_of_ble_eq_true rfl⟩) hS (fun H locs hP hS => ?_)
            exact r_I C0 hP hS h dX2_countOf_68
set_option maxRecDepth 100000 in
set_option maxHeartbeats 4000000 in
theorem c_X2_countOf (l : Launch) (a1 : Int32) {D : va_G} {ct : Nat → ClassId} {B : Nat} {Hb : Heap} {S : St} {V : Int32} (h : L_X2_countOf a1 S = some V) : Met l yX2_countOf (Cond.code yX2_countOf cX2_countOf 2 (some .int) :: tG) { frames := 1, cells := 0, slots := 0, locals := 23 } (va_Pc [.ref (B + 55), .int a1] (MPK D ct B Hb S)) (qI D ct B Hb S V) 0 0 (AB B) := by
  refine mk_met (by decide +kernel) (Nat.le_of_ble_eq_true rfl) (fun p e s m args below meth c ls C0 hP hl _ => ?_)
  have h := ob_of h
  exact w_X2_countOf_0 l C0 a1 S h hP va_S.rf (lv_sub hl [0, 1] rfl)
end WALKS
