theorem dX12_explain_0 : decode cX12_explain 0 = .ok (.aload_n 0, 1) := by decide +kernel
theorem dX12_explain_1 : decode cX12_explain 1 = .ok (.getfield 29, 3) := by decide +kernel
theorem dX12_explain_4 : decode cX12_explain 4 = .ok (.istore_n 2, 1) := by decide +kernel
theorem dX12_explain_5 : decode cX12_explain 5 = .ok (.aload_n 0, 1) := by decide +kernel
theorem dX12_explain_6 : decode cX12_explain 6 = .ok (.getfield 25, 3) := by decide +kernel
theorem dX12_explain_9 : decode cX12_explain 9 = .ok (.istore_n 3, 1) := by decide +kernel
theorem dX12_explain_10 : decode cX12_explain 10 = .ok (.aload_n 0, 1) := by decide +kernel
theorem dX12_explain_11 : decode cX12_explain 11 = .ok (.iconst 0, 1) := by decide +kernel
theorem dX12_explain_12 : decode cX12_explain 12 = .ok (.putfield 429, 3) := by decide +kernel
theorem dX12_explain_15 : decode cX12_explain 15 = .ok (.aload_n 0, 1) := by decide +kernel
theorem dX12_explain_16 : decode cX12_explain 16 = .ok (.bipush (-4), 2) := by decide +kernel
theorem dX12_explain_18 : decode cX12_explain 18 = .ok (.putfield 432, 3) := by decide +kernel
theorem dX12_explain_21 : decode cX12_explain 21 = .ok (.aload_n 0, 1) := by decide +kernel
theorem dX12_explain_22 : decode cX12_explain 22 = .ok (.iconst 0, 1) := by decide +kernel
theorem dX12_explain_23 : decode cX12_explain 23 = .ok (.putfield 435, 3) := by decide +kernel
theorem dX12_explain_26 : decode cX12_explain 26 = .ok (.iconst 0, 1) := by decide +kernel
theorem dX12_explain_27 : decode cX12_explain 27 = .ok (.istore 4, 2) := by decide +kernel
theorem dX12_explain_29 : decode cX12_explain 29 = .ok (.iload 4, 2) := by decide +kernel
theorem dX12_explain_31 : decode cX12_explain 31 = .ok (.sipush 240, 3) := by decide +kernel
theorem dX12_explain_34 : decode cX12_explain 34 = .ok (.if_icmp .ge 122, 3) := by decide +kernel
theorem dX12_explain_37 : decode cX12_explain 37 = .ok (.aload_n 0, 1) := by decide +kernel
theorem dX12_explain_38 : decode cX12_explain 38 = .ok (.iload 4, 2) := by decide +kernel
theorem dX12_explain_40 : decode cX12_explain 40 = .ok (.bipush 24, 2) := by decide +kernel
theorem dX12_explain_42 : decode cX12_explain 42 = .ok (.idiv, 1) := by decide +kernel
theorem dX12_explain_43 : decode cX12_explain 43 = .ok (.putfield 29, 3) := by decide +kernel
theorem dX12_explain_46 : decode cX12_explain 46 = .ok (.aload_n 0, 1) := by decide +kernel
theorem dX12_explain_47 : decode cX12_explain 47 = .ok (.iload 4, 2) := by decide +kernel
theorem dX12_explain_49 : decode cX12_explain 49 = .ok (.bipush 24, 2) := by decide +kernel
theorem dX12_explain_51 : decode cX12_explain 51 = .ok (.irem, 1) := by decide +kernel
theorem dX12_explain_52 : decode cX12_explain 52 = .ok (.putfield 25, 3) := by decide +kernel
theorem dX12_explain_55 : decode cX12_explain 55 = .ok (.aload_n 0, 1) := by decide +kernel
theorem dX12_explain_56 : decode cX12_explain 56 = .ok (.iload_n 1, 1) := by decide +kernel
theorem dX12_explain_57 : decode cX12_explain 57 = .ok (.invokevirtual 438, 3) := by decide +kernel
theorem dX12_explain_60 : decode cX12_explain 60 = .ok (.istore 5, 2) := by decide +kernel
theorem dX12_explain_62 : decode cX12_explain 62 = .ok (.aload_n 0, 1) := by decide +kernel
theorem dX12_explain_63 : decode cX12_explain 63 = .ok (.dup, 1) := by decide +kernel
theorem dX12_explain_64 : decode cX12_explain 64 = .ok (.getfield 429, 3) := by decide +kernel
theorem dX12_explain_67 : decode cX12_explain 67 = .ok (.iload 5, 2) := by decide +kernel
theorem dX12_explain_69 : decode cX12_explain 69 = .ok (.aload_n 0, 1) := by decide +kernel
theorem dX12_explain_70 : decode cX12_explain 70 = .ok (.getfield 80, 3) := by decide +kernel
theorem dX12_explain_73 : decode cX12_explain 73 = .ok (.iload_n 1, 1) := by decide +kernel
theorem dX12_explain_74 : decode cX12_explain 74 = .ok (.iaload, 1) := by decide +kernel
theorem dX12_explain_75 : decode cX12_explain 75 = .ok (.if_icmp .ne 7, 3) := by decide +kernel
theorem dX12_explain_78 : decode cX12_explain 78 = .ok (.iconst 1, 1) := by decide +kernel
theorem dX12_explain_79 : decode cX12_explain 79 = .ok (.goto 4, 3) := by decide +kernel
theorem dX12_explain_82 : decode cX12_explain 82 = .ok (.iconst 0, 1) := by decide +kernel
theorem dX12_explain_83 : decode cX12_explain 83 = .ok (.iadd, 1) := by decide +kernel
theorem dX12_explain_84 : decode cX12_explain 84 = .ok (.putfield 429, 3) := by decide +kernel
theorem dX12_explain_87 : decode cX12_explain 87 = .ok (.aload_n 0, 1) := by decide +kernel
theorem dX12_explain_88 : decode cX12_explain 88 = .ok (.iload 5, 2) := by decide +kernel
theorem dX12_explain_90 : decode cX12_explain 90 = .ok (.aload_n 0, 1) := by decide +kernel
theorem dX12_explain_91 : decode cX12_explain 91 = .ok (.getfield 80, 3) := by decide +kernel
theorem dX12_explain_94 : decode cX12_explain 94 = .ok (.iload_n 1, 1) := by decide +kernel
theorem dX12_explain_95 : decode cX12_explain 95 = .ok (.iaload, 1) := by decide +kernel
theorem dX12_explain_96 : decode cX12_explain 96 = .ok (.if_icmp .ne 25, 3) := by decide +kernel
theorem dX12_explain_99 : decode cX12_explain 99 = .ok (.aload_n 0, 1) := by decide +kernel
theorem dX12_explain_100 : decode cX12_explain 100 = .ok (.getfield 432, 3) := by decide +kernel
theorem dX12_explain_103 : decode cX12_explain 103 = .ok (.ifCond .ge 18, 3) := by decide +kernel
theorem dX12_explain_106 : decode cX12_explain 106 = .ok (.bipush 100, 2) := by decide +kernel
theorem dX12_explain_108 : decode cX12_explain 108 = .ok (.aload_n 0, 1) := by decide +kernel
theorem dX12_explain_109 : decode cX12_explain 109 = .ok (.getfield 29, 3) := by decide +kernel
theorem dX12_explain_112 : decode cX12_explain 112 = .ok (.imul, 1) := by decide +kernel
theorem dX12_explain_113 : decode cX12_explain 113 = .ok (.aload_n 0, 1) := by decide +kernel
theorem dX12_explain_114 : decode cX12_explain 114 = .ok (.getfield 25, 3) := by decide +kernel
theorem dX12_explain_117 : decode cX12_explain 117 = .ok (.iadd, 1) := by decide +kernel
theorem dX12_explain_118 : decode cX12_explain 118 = .ok (.goto 7, 3) := by decide +kernel
theorem dX12_explain_121 : decode cX12_explain 121 = .ok (.aload_n 0, 1) := by decide +kernel
theorem dX12_explain_122 : decode cX12_explain 122 = .ok (.getfield 432, 3) := by decide +kernel
theorem dX12_explain_125 : decode cX12_explain 125 = .ok (.putfield 432, 3) := by decide +kernel
theorem dX12_explain_128 : decode cX12_explain 128 = .ok (.aload_n 0, 1) := by decide +kernel
theorem dX12_explain_129 : decode cX12_explain 129 = .ok (.iload 5, 2) := by decide +kernel
theorem dX12_explain_131 : decode cX12_explain 131 = .ok (.aload_n 0, 1) := by decide +kernel
theorem dX12_explain_132 : decode cX12_explain 132 = .ok (.getfield 435, 3) := by decide +kernel
theorem dX12_explain_135 : decode cX12_explain 135 = .ok (.if_icmp .le 8, 3) := by decide +kernel
theorem dX12_explain_138 : decode cX12_explain 138 = .ok (.iload 5, 2) := by decide +kernel
theorem dX12_explain_140 : decode cX12_explain 140 = .ok (.goto 7, 3) := by decide +kernel
theorem dX12_explain_143 : decode cX12_explain 143 = .ok (.aload_n 0, 1) := by decide +kernel
theorem dX12_explain_144 : decode cX12_explain 144 = .ok (.getfield 435, 3) := by decide +kernel
theorem dX12_explain_147 : decode cX12_explain 147 = .ok (.putfield 435, 3) := by decide +kernel
theorem dX12_explain_150 : decode cX12_explain 150 = .ok (.iinc 4 1, 3) := by decide +kernel
theorem dX12_explain_153 : decode cX12_explain 153 = .ok (.goto (-124), 3) := by decide +kernel
theorem dX12_explain_156 : decode cX12_explain 156 = .ok (.aload_n 0, 1) := by decide +kernel
theorem dX12_explain_157 : decode cX12_explain 157 = .ok (.iload_n 2, 1) := by decide +kernel
theorem dX12_explain_158 : decode cX12_explain 158 = .ok (.putfield 29, 3) := by decide +kernel
theorem dX12_explain_161 : decode cX12_explain 161 = .ok (.aload_n 0, 1) := by decide +kernel
theorem dX12_explain_162 : decode cX12_explain 162 = .ok (.iload_n 3, 1) := by decide +kernel
theorem dX12_explain_163 : decode cX12_explain 163 = .ok (.putfield 25, 3) := by decide +kernel
theorem dX12_explain_166 : decode cX12_explain 166 = .ok (.return_, 1) := by decide +kernel
theorem dX12_explained_0 : decode cX12_explained 0 = .ok (.aload_n 0, 1) := by decide +kernel
theorem dX12_explained_1 : decode cX12_explained 1 = .ok (.iconst 0, 1) := by decide +kernel
theorem dX12_explained_2 : decode cX12_explained 2 = .ok (.putfield 160, 3) := by decide +kernel
theorem dX12_explained_5 : decode cX12_explained 5 = .ok (.iload_n 2, 1) := by decide +kernel
theorem dX12_explained_6 : decode cX12_explained 6 = .ok (.i2l, 1) := by decide +kernel
theorem dX12_explained_7 : decode cX12_explained 7 = .ok (.lconst 0, 1) := by decide +kernel
theorem dX12_explained_8 : decode cX12_explained 8 = .ok (.lconst 1, 1) := by decide +kernel
theorem dX12_explained_9 : decode cX12_explained 9 = .ok (.invokestatic 165, 3) := by decide +kernel
theorem dX12_explained_12 : decode cX12_explained 12 = .ok (.ifCond .eq 11, 3) := by decide +kernel
theorem dX12_explained_15 : decode cX12_explained 15 = .ok (.aload_n 0, 1) := by decide +kernel
theorem dX12_explained_16 : decode cX12_explained 16 = .ok (.iload_n 1, 1) := by decide +kernel
theorem dX12_explained_17 : decode cX12_explained 17 = .ok (.invokevirtual 441, 3) := by decide +kernel
theorem dX12_explained_20 : decode cX12_explained 20 = .ok (.goto 4, 3) := by decide +kernel
theorem dX12_explained_23 : decode cX12_explained 23 = .ok (.iconst (-1), 1) := by decide +kernel
theorem dX12_explained_24 : decode cX12_explained 24 = .ok (.istore_n 3, 1) := by decide +kernel
theorem dX12_explained_25 : decode cX12_explained 25 = .ok (.iload_n 3, 1) := by decide +kernel
theorem dX12_explained_26 : decode cX12_explained 26 = .ok (.ifCond .ge 5, 3) := by decide +kernel
theorem dX12_explained_29 : decode cX12_explained 29 = .ok (.iload_n 3, 1) := by decide +kernel
theorem dX12_explained_30 : decode cX12_explained 30 = .ok (.ireturn, 1) := by decide +kernel
theorem dX12_explained_31 : decode cX12_explained 31 = .ok (.aload_n 0, 1) := by decide +kernel
theorem dX12_explained_32 : decode cX12_explained 32 = .ok (.iload_n 1, 1) := by decide +kernel
theorem dX12_explained_33 : decode cX12_explained 33 = .ok (.invokevirtual 444, 3) := by decide +kernel
theorem dX12_explained_36 : decode cX12_explained 36 = .ok (.iload_n 2, 1) := by decide +kernel
theorem dX12_explained_37 : decode cX12_explained 37 = .ok (.ifCond .ne 10, 3) := by decide +kernel
theorem dX12_explained_40 : decode cX12_explained 40 = .ok (.aload_n 0, 1) := by decide +kernel
theorem dX12_explained_41 : decode cX12_explained 41 = .ok (.getfield 429, 3) := by decide +kernel
theorem dX12_explained_44 : decode cX12_explained 44 = .ok (.goto 7, 3) := by decide +kernel
theorem dX12_explained_47 : decode cX12_explained 47 = .ok (.aload_n 0, 1) := by decide +kernel
theorem dX12_explained_48 : decode cX12_explained 48 = .ok (.getfield 432, 3) := by decide +kernel
theorem dX12_explained_51 : decode cX12_explained 51 = .ok (.ireturn, 1) := by decide +kernel
theorem dX12_forged_0 : decode cX12_forged 0 = .ok (.aload_n 0, 1) := by decide +kernel
theorem dX12_forged_1 : decode cX12_forged 1 = .ok (.iconst 0, 1) := by decide +kernel
theorem dX12_forged_2 : decode cX12_forged 2 = .ok (.putfield 160, 3) := by decide +kernel
theorem dX12_forged_5 : decode cX12_forged 5 = .ok (.aload_n 0, 1) := by decide +kernel
theorem dX12_forged_6 : decode cX12_forged 6 = .ok (.iload_n 1, 1) := by decide +kernel
theorem dX12_forged_7 : decode cX12_forged 7 = .ok (.invokevirtual 441, 3) := by decide +kernel
theorem dX12_forged_10 : decode cX12_forged 10 = .ok (.istore_n 2, 1) := by decide +kernel
theorem dX12_forged_11 : decode cX12_forged 11 = .ok (.iload_n 2, 1) := by decide +kernel
theorem dX12_forged_12 : decode cX12_forged 12 = .ok (.ifCond .ge 5, 3) := by decide +kernel
theorem dX12_forged_15 : decode cX12_forged 15 = .ok (.iload_n 2, 1) := by decide +kernel
theorem dX12_forged_16 : decode cX12_forged 16 = .ok (.ireturn, 1) := by decide +kernel
theorem dX12_forged_17 : decode cX12_forged 17 = .ok (.aload_n 0, 1) := by decide +kernel
theorem dX12_forged_18 : decode cX12_forged 18 = .ok (.iload_n 1, 1) := by decide +kernel
theorem dX12_forged_19 : decode cX12_forged 19 = .ok (.invokevirtual 444, 3) := by decide +kernel
theorem dX12_forged_22 : decode cX12_forged 22 = .ok (.aload_n 0, 1) := by decide +kernel
theorem dX12_forged_23 : decode cX12_forged 23 = .ok (.getfield 429, 3) := by decide +kernel
theorem dX12_forged_26 : decode cX12_forged 26 = .ok (.ifCond .le 8, 3) := by decide +kernel
theorem dX12_forged_29 : decode cX12_forged 29 = .ok (.bipush (-4), 2) := by decide +kernel
theorem dX12_forged_31 : decode cX12_forged 31 = .ok (.goto 7, 3) := by decide +kernel
theorem dX12_forged_34 : decode cX12_forged 34 = .ok (.aload_n 0, 1) := by decide +kernel
theorem dX12_forged_35 : decode cX12_forged 35 = .ok (.getfield 435, 3) := by decide +kernel
theorem dX12_forged_38 : decode cX12_forged 38 = .ok (.ireturn, 1) := by decide +kernel
theorem dX12_judge_0 : decode cX12_judge 0 = .ok (.aload_n 0, 1) := by decide +kernel
theorem dX12_judge_1 : decode cX12_judge 1 = .ok (.iconst 0, 1) := by decide +kernel
theorem dX12_judge_2 : decode cX12_judge 2 = .ok (.putfield 160, 3) := by decide +kernel
theorem dX12_judge_5 : decode cX12_judge 5 = .ok (.aload_n 0, 1) := by decide +kernel
theorem dX12_judge_6 : decode cX12_judge 6 = .ok (.iload_n 1, 1) := by decide +kernel
theorem dX12_judge_7 : decode cX12_judge 7 = .ok (.invokevirtual 337, 3) := by decide +kernel
theorem dX12_judge_10 : decode cX12_judge 10 = .ok (.ifCond .eq 11, 3) := by decide +kernel
theorem dX12_judge_13 : decode cX12_judge 13 = .ok (.aload_n 0, 1) := by decide +kernel
theorem dX12_judge_14 : decode cX12_judge 14 = .ok (.iload_n 2, 1) := by decide +kernel
theorem dX12_judge_15 : decode cX12_judge 15 = .ok (.invokevirtual 322, 3) := by decide +kernel
theorem dX12_judge_18 : decode cX12_judge 18 = .ok (.goto 4, 3) := by decide +kernel
theorem dX12_judge_21 : decode cX12_judge 21 = .ok (.iconst (-1), 1) := by decide +kernel
theorem dX12_judge_22 : decode cX12_judge 22 = .ok (.istore_n 3, 1) := by decide +kernel
theorem dX12_judge_23 : decode cX12_judge 23 = .ok (.iload_n 3, 1) := by decide +kernel
theorem dX12_judge_24 : decode cX12_judge 24 = .ok (.ifCond .ge 5, 3) := by decide +kernel
theorem dX12_judge_27 : decode cX12_judge 27 = .ok (.iload_n 3, 1) := by decide +kernel
theorem dX12_judge_28 : decode cX12_judge 28 = .ok (.ireturn, 1) := by decide +kernel
theorem dX12_judge_29 : decode cX12_judge 29 = .ok (.aload_n 0, 1) := by decide +kernel
theorem dX12_judge_30 : decode cX12_judge 30 = .ok (.invokevirtual 362, 3) := by decide +kernel
theorem dX12_judge_33 : decode cX12_judge 33 = .ok (.iconst 0, 1) := by decide +kernel
theorem dX12_judge_34 : decode cX12_judge 34 = .ok (.istore 4, 2) := by decide +kernel
theorem dX12_judge_36 : decode cX12_judge 36 = .ok (.iload 4, 2) := by decide +kernel
theorem dX12_judge_38 : decode cX12_judge 38 = .ok (.aload_n 0, 1) := by decide +kernel
theorem dX12_judge_39 : decode cX12_judge 39 = .ok (.getfield 80, 3) := by decide +kernel
theorem dX12_judge_42 : decode cX12_judge 42 = .ok (.iload_n 2, 1) := by decide +kernel
theorem dX12_judge_43 : decode cX12_judge 43 = .ok (.iaload, 1) := by decide +kernel
theorem dX12_judge_44 : decode cX12_judge 44 = .ok (.if_icmp .ge 74, 3) := by decide +kernel
theorem dX12_judge_47 : decode cX12_judge 47 = .ok (.aload_n 0, 1) := by decide +kernel
theorem dX12_judge_48 : decode cX12_judge 48 = .ok (.getfield 83, 3) := by decide +kernel
theorem dX12_judge_51 : decode cX12_judge 51 = .ok (.bipush 100, 2) := by decide +kernel
theorem dX12_judge_53 : decode cX12_judge 53 = .ok (.iload_n 2, 1) := by decide +kernel
theorem dX12_judge_54 : decode cX12_judge 54 = .ok (.imul, 1) := by decide +kernel
theorem dX12_judge_55 : decode cX12_judge 55 = .ok (.iload 4, 2) := by decide +kernel
theorem dX12_judge_57 : decode cX12_judge 57 = .ok (.iadd, 1) := by decide +kernel
theorem dX12_judge_58 : decode cX12_judge 58 = .ok (.laload, 1) := by decide +kernel
theorem dX12_judge_59 : decode cX12_judge 59 = .ok (.lstore 5, 2) := by decide +kernel
theorem dX12_judge_61 : decode cX12_judge 61 = .ok (.lload 5, 2) := by decide +kernel
theorem dX12_judge_63 : decode cX12_judge 63 = .ok (.aload_n 0, 1) := by decide +kernel
theorem dX12_judge_64 : decode cX12_judge 64 = .ok (.iload_n 2, 1) := by decide +kernel
theorem dX12_judge_65 : decode cX12_judge 65 = .ok (.invokevirtual 425, 3) := by decide +kernel
theorem dX12_judge_68 : decode cX12_judge 68 = .ok (.lcmp, 1) := by decide +kernel
theorem dX12_judge_69 : decode cX12_judge 69 = .ok (.ifCond .eq 43, 3) := by decide +kernel
theorem dX12_judge_72 : decode cX12_judge 72 = .ok (.iload 4, 2) := by decide +kernel
theorem dX12_judge_74 : decode cX12_judge 74 = .ok (.bipush 23, 2) := by decide +kernel
theorem dX12_judge_76 : decode cX12_judge 76 = .ok (.if_icmp .gt 33, 3) := by decide +kernel
theorem dX12_judge_79 : decode cX12_judge 79 = .ok (.lload 5, 2) := by decide +kernel
theorem dX12_judge_81 : decode cX12_judge 81 = .ok (.aload_n 0, 1) := by decide +kernel
theorem dX12_judge_82 : decode cX12_judge 82 = .ok (.getfield 127, 3) := by decide +kernel
theorem dX12_judge_85 : decode cX12_judge 85 = .ok (.iload 4, 2) := by decide +kernel
theorem dX12_judge_87 : decode cX12_judge 87 = .ok (.bipush 23, 2) := by decide +kernel
theorem dX12_judge_89 : decode cX12_judge 89 = .ok (.if_icmp .le 7, 3) := by decide +kernel
theorem dX12_judge_92 : decode cX12_judge 92 = .ok (.iload_n 1, 1) := by decide +kernel
theorem dX12_judge_93 : decode cX12_judge 93 = .ok (.goto 10, 3) := by decide +kernel
theorem dX12_judge_96 : decode cX12_judge 96 = .ok (.bipush 8, 2) := by decide +kernel
theorem dX12_judge_98 : decode cX12_judge 98 = .ok (.iload 4, 2) := by decide +kernel
theorem dX12_judge_100 : decode cX12_judge 100 = .ok (.imul, 1) := by decide +kernel
theorem dX12_judge_101 : decode cX12_judge 101 = .ok (.iload_n 1, 1) := by decide +kernel
theorem dX12_judge_102 : decode cX12_judge 102 = .ok (.iadd, 1) := by decide +kernel
theorem dX12_judge_103 : decode cX12_judge 103 = .ok (.iaload, 1) := by decide +kernel
theorem dX12_judge_104 : decode cX12_judge 104 = .ok (.i2l, 1) := by decide +kernel
theorem dX12_judge_105 : decode cX12_judge 105 = .ok (.lcmp, 1) := by decide +kernel
theorem dX12_judge_106 : decode cX12_judge 106 = .ok (.ifCond .eq 6, 3) := by decide +kernel
theorem dX12_judge_109 : decode cX12_judge 109 = .ok (.iload 4, 2) := by decide +kernel
theorem dX12_judge_111 : decode cX12_judge 111 = .ok (.ireturn, 1) := by decide +kernel
theorem dX12_judge_112 : decode cX12_judge 112 = .ok (.iinc 4 1, 3) := by decide +kernel
theorem dX12_judge_115 : decode cX12_judge 115 = .ok (.goto (-79), 3) := by decide +kernel
theorem dX12_judge_118 : decode cX12_judge 118 = .ok (.bipush (-4), 2) := by decide +kernel
theorem dX12_judge_120 : decode cX12_judge 120 = .ok (.ireturn, 1) := by decide +kernel
theorem dX12_seeds_0 : decode cX12_seeds 0 = .ok (.aload_n 0, 1) := by decide +kernel
theorem dX12_seeds_1 : decode cX12_seeds 1 = .ok (.iconst 0, 1) := by decide +kernel
theorem dX12_seeds_2 : decode cX12_seeds 2 = .ok (.putfield 160, 3) := by decide +kernel
theorem dX12_seeds_5 : decode cX12_seeds 5 = .ok (.iload_n 1, 1) := by decide +kernel
theorem dX12_seeds_6 : decode cX12_seeds 6 = .ok (.i2l, 1) := by decide +kernel
theorem dX12_seeds_7 : decode cX12_seeds 7 = .ok (.lconst 1, 1) := by decide +kernel
theorem dX12_seeds_8 : decode cX12_seeds 8 = .ok (.ldc2_w 447, 3) := by decide +kernel
theorem dX12_seeds_11 : decode cX12_seeds 11 = .ok (.invokestatic 165, 3) := by decide +kernel
theorem dX12_seeds_14 : decode cX12_seeds 14 = .ok (.ifCond .eq 13, 3) := by decide +kernel
theorem dX12_seeds_17 : decode cX12_seeds 17 = .ok (.iload_n 3, 1) := by decide +kernel
theorem dX12_seeds_18 : decode cX12_seeds 18 = .ok (.i2l, 1) := by decide +kernel
theorem dX12_seeds_19 : decode cX12_seeds 19 = .ok (.lconst 0, 1) := by decide +kernel
theorem dX12_seeds_20 : decode cX12_seeds 20 = .ok (.lconst 1, 1) := by decide +kernel
theorem dX12_seeds_21 : decode cX12_seeds 21 = .ok (.invokestatic 165, 3) := by decide +kernel
theorem dX12_seeds_24 : decode cX12_seeds 24 = .ok (.ifCond .ne 5, 3) := by decide +kernel
theorem dX12_seeds_27 : decode cX12_seeds 27 = .ok (.iconst (-1), 1) := by decide +kernel
theorem dX12_seeds_28 : decode cX12_seeds 28 = .ok (.ireturn, 1) := by decide +kernel
theorem dX12_seeds_29 : decode cX12_seeds 29 = .ok (.iload_n 2, 1) := by decide +kernel
theorem dX12_seeds_30 : decode cX12_seeds 30 = .ok (.istore 4, 2) := by decide +kernel
theorem dX12_seeds_32 : decode cX12_seeds 32 = .ok (.iconst 0, 1) := by decide +kernel
theorem dX12_seeds_33 : decode cX12_seeds 33 = .ok (.istore 5, 2) := by decide +kernel
theorem dX12_seeds_35 : decode cX12_seeds 35 = .ok (.iconst 0, 1) := by decide +kernel
theorem dX12_seeds_36 : decode cX12_seeds 36 = .ok (.istore 6, 2) := by decide +kernel
theorem dX12_seeds_38 : decode cX12_seeds 38 = .ok (.aload_n 0, 1) := by decide +kernel
theorem dX12_seeds_39 : decode cX12_seeds 39 = .ok (.invokevirtual 328, 3) := by decide +kernel
theorem dX12_seeds_42 : decode cX12_seeds 42 = .ok (.iconst 0, 1) := by decide +kernel
theorem dX12_seeds_43 : decode cX12_seeds 43 = .ok (.istore 7, 2) := by decide +kernel
theorem dX12_seeds_45 : decode cX12_seeds 45 = .ok (.iload 7, 2) := by decide +kernel
theorem dX12_seeds_47 : decode cX12_seeds 47 = .ok (.iload_n 1, 1) := by decide +kernel
theorem dX12_seeds_48 : decode cX12_seeds 48 = .ok (.if_icmp .ge 85, 3) := by decide +kernel
theorem dX12_seeds_51 : decode cX12_seeds 51 = .ok (.iconst 0, 1) := by decide +kernel
theorem dX12_seeds_52 : decode cX12_seeds 52 = .ok (.istore 8, 2) := by decide +kernel
theorem dX12_seeds_54 : decode cX12_seeds 54 = .ok (.iload 8, 2) := by decide +kernel
theorem dX12_seeds_56 : decode cX12_seeds 56 = .ok (.aload_n 0, 1) := by decide +kernel
theorem dX12_seeds_57 : decode cX12_seeds 57 = .ok (.getfield 171, 3) := by decide +kernel
theorem dX12_seeds_60 : decode cX12_seeds 60 = .ok (.if_icmp .ge 44, 3) := by decide +kernel
theorem dX12_seeds_63 : decode cX12_seeds 63 = .ok (.iload 4, 2) := by decide +kernel
theorem dX12_seeds_65 : decode cX12_seeds 65 = .ok (.ldc_w 449, 3) := by decide +kernel
theorem dX12_seeds_68 : decode cX12_seeds 68 = .ok (.imul, 1) := by decide +kernel
theorem dX12_seeds_69 : decode cX12_seeds 69 = .ok (.sipush 12345, 3) := by decide +kernel
theorem dX12_seeds_72 : decode cX12_seeds 72 = .ok (.iadd, 1) := by decide +kernel
theorem dX12_seeds_73 : decode cX12_seeds 73 = .ok (.istore 4, 2) := by decide +kernel
theorem dX12_seeds_75 : decode cX12_seeds 75 = .ok (.aload_n 0, 1) := by decide +kernel
theorem dX12_seeds_76 : decode cX12_seeds 76 = .ok (.getfield 62, 3) := by decide +kernel
theorem dX12_seeds_79 : decode cX12_seeds 79 = .ok (.iload 8, 2) := by decide +kernel
theorem dX12_seeds_81 : decode cX12_seeds 81 = .ok (.iload 4, 2) := by decide +kernel
theorem dX12_seeds_83 : decode cX12_seeds 83 = .ok (.ldc_w 450, 3) := by decide +kernel
theorem dX12_seeds_86 : decode cX12_seeds 86 = .ok (.iand, 1) := by decide +kernel
theorem dX12_seeds_87 : decode cX12_seeds 87 = .ok (.ldc_w 451, 3) := by decide +kernel
theorem dX12_seeds_90 : decode cX12_seeds 90 = .ok (.idiv, 1) := by decide +kernel
theorem dX12_seeds_91 : decode cX12_seeds 91 = .ok (.bipush 19, 2) := by decide +kernel
theorem dX12_seeds_93 : decode cX12_seeds 93 = .ok (.irem, 1) := by decide +kernel
theorem dX12_seeds_94 : decode cX12_seeds 94 = .ok (.bipush 9, 2) := by decide +kernel
theorem dX12_seeds_96 : decode cX12_seeds 96 = .ok (.isub, 1) := by decide +kernel
theorem dX12_seeds_97 : decode cX12_seeds 97 = .ok (.iastore, 1) := by decide +kernel
theorem dX12_seeds_98 : decode cX12_seeds 98 = .ok (.iinc 8 1, 3) := by decide +kernel
theorem dX12_seeds_101 : decode cX12_seeds 101 = .ok (.goto (-47), 3) := by decide +kernel
theorem dX12_seeds_104 : decode cX12_seeds 104 = .ok (.aload_n 0, 1) := by decide +kernel
theorem dX12_seeds_105 : decode cX12_seeds 105 = .ok (.invokevirtual 362, 3) := by decide +kernel
theorem dX12_seeds_108 : decode cX12_seeds 108 = .ok (.iload 5, 2) := by decide +kernel
theorem dX12_seeds_110 : decode cX12_seeds 110 = .ok (.aload_n 0, 1) := by decide +kernel
theorem dX12_seeds_111 : decode cX12_seeds 111 = .ok (.iconst 1, 1) := by decide +kernel
theorem dX12_seeds_112 : decode cX12_seeds 112 = .ok (.invokevirtual 368, 3) := by decide +kernel
theorem dX12_seeds_115 : decode cX12_seeds 115 = .ok (.iadd, 1) := by decide +kernel
theorem dX12_seeds_116 : decode cX12_seeds 116 = .ok (.istore 5, 2) := by decide +kernel
theorem dX12_seeds_118 : decode cX12_seeds 118 = .ok (.iload 6, 2) := by decide +kernel
theorem dX12_seeds_120 : decode cX12_seeds 120 = .ok (.aload_n 0, 1) := by decide +kernel
theorem dX12_seeds_121 : decode cX12_seeds 121 = .ok (.invokevirtual 371, 3) := by decide +kernel
theorem dX12_seeds_124 : decode cX12_seeds 124 = .ok (.iadd, 1) := by decide +kernel
theorem dX12_seeds_125 : decode cX12_seeds 125 = .ok (.istore 6, 2) := by decide +kernel
theorem dX12_seeds_127 : decode cX12_seeds 127 = .ok (.iinc 7 1, 3) := by decide +kernel
theorem dX12_seeds_130 : decode cX12_seeds 130 = .ok (.goto (-85), 3) := by decide +kernel
theorem dX12_seeds_133 : decode cX12_seeds 133 = .ok (.aload_n 0, 1) := by decide +kernel
theorem dX12_seeds_134 : decode cX12_seeds 134 = .ok (.invokevirtual 334, 3) := by decide +kernel
theorem dX12_seeds_137 : decode cX12_seeds 137 = .ok (.iload_n 3, 1) := by decide +kernel
theorem dX12_seeds_138 : decode cX12_seeds 138 = .ok (.ifCond .ne 8, 3) := by decide +kernel
theorem dX12_seeds_141 : decode cX12_seeds 141 = .ok (.iload 5, 2) := by decide +kernel
theorem dX12_seeds_143 : decode cX12_seeds 143 = .ok (.goto 5, 3) := by decide +kernel
theorem dX12_seeds_146 : decode cX12_seeds 146 = .ok (.iload 6, 2) := by decide +kernel
theorem dX12_seeds_148 : decode cX12_seeds 148 = .ok (.ireturn, 1) := by decide +kernel
theorem dX12_count_0 : decode cX12_count 0 = .ok (.aload_n 0, 1) := by decide +kernel
theorem dX12_count_1 : decode cX12_count 1 = .ok (.iconst 0, 1) := by decide +kernel
theorem dX12_count_2 : decode cX12_count 2 = .ok (.putfield 160, 3) := by decide +kernel
theorem dX12_count_5 : decode cX12_count 5 = .ok (.iconst 0, 1) := by decide +kernel
theorem dX12_count_6 : decode cX12_count 6 = .ok (.istore_n 2, 1) := by decide +kernel
theorem dX12_count_7 : decode cX12_count 7 = .ok (.iload_n 1, 1) := by decide +kernel
theorem dX12_count_8 : decode cX12_count 8 = .ok (.tableswitch 134 0 7 #[48, 53, 58, 63, 68, 73, 78, 105], 48) := by decide +kernel
theorem dX12_count_56 : decode cX12_count 56 = .ok (.aload_n 0, 1) := by decide +kernel
theorem dX12_count_57 : decode cX12_count 57 = .ok (.getfield 171, 3) := by decide +kernel
theorem dX12_count_60 : decode cX12_count 60 = .ok (.ireturn, 1) := by decide +kernel
theorem dX12_count_61 : decode cX12_count 61 = .ok (.aload_n 0, 1) := by decide +kernel
theorem dX12_count_62 : decode cX12_count 62 = .ok (.getfield 181, 3) := by decide +kernel
theorem dX12_count_65 : decode cX12_count 65 = .ok (.ireturn, 1) := by decide +kernel
theorem dX12_count_66 : decode cX12_count 66 = .ok (.aload_n 0, 1) := by decide +kernel
theorem dX12_count_67 : decode cX12_count 67 = .ok (.getfield 232, 3) := by decide +kernel
theorem dX12_count_70 : decode cX12_count 70 = .ok (.ireturn, 1) := by decide +kernel
theorem dX12_count_71 : decode cX12_count 71 = .ok (.aload_n 0, 1) := by decide +kernel
theorem dX12_count_72 : decode cX12_count 72 = .ok (.getfield 25, 3) := by decide +kernel
theorem dX12_count_75 : decode cX12_count 75 = .ok (.ireturn, 1) := by decide +kernel
theorem dX12_count_76 : decode cX12_count 76 = .ok (.aload_n 0, 1) := by decide +kernel
theorem dX12_count_77 : decode cX12_count 77 = .ok (.getfield 29, 3) := by decide +kernel
theorem dX12_count_80 : decode cX12_count 80 = .ok (.ireturn, 1) := by decide +kernel
theorem dX12_count_81 : decode cX12_count 81 = .ok (.aload_n 0, 1) := by decide +kernel
theorem dX12_count_82 : decode cX12_count 82 = .ok (.getfield 32, 3) := by decide +kernel
theorem dX12_count_85 : decode cX12_count 85 = .ok (.ireturn, 1) := by decide +kernel
theorem dX12_count_86 : decode cX12_count 86 = .ok (.iconst 0, 1) := by decide +kernel
theorem dX12_count_87 : decode cX12_count 87 = .ok (.istore_n 3, 1) := by decide +kernel
theorem dX12_count_88 : decode cX12_count 88 = .ok (.iload_n 3, 1) := by decide +kernel
theorem dX12_count_89 : decode cX12_count 89 = .ok (.aload_n 0, 1) := by decide +kernel
theorem dX12_count_90 : decode cX12_count 90 = .ok (.getfield 171, 3) := by decide +kernel
theorem dX12_count_93 : decode cX12_count 93 = .ok (.if_icmp .ge 18, 3) := by decide +kernel
theorem dX12_count_96 : decode cX12_count 96 = .ok (.iload_n 2, 1) := by decide +kernel
theorem dX12_count_97 : decode cX12_count 97 = .ok (.aload_n 0, 1) := by decide +kernel
theorem dX12_count_98 : decode cX12_count 98 = .ok (.getfield 65, 3) := by decide +kernel
theorem dX12_count_101 : decode cX12_count 101 = .ok (.iload_n 3, 1) := by decide +kernel
theorem dX12_count_102 : decode cX12_count 102 = .ok (.iaload, 1) := by decide +kernel
theorem dX12_count_103 : decode cX12_count 103 = .ok (.iadd, 1) := by decide +kernel
theorem dX12_count_104 : decode cX12_count 104 = .ok (.istore_n 2, 1) := by decide +kernel
theorem dX12_count_105 : decode cX12_count 105 = .ok (.iinc 3 1, 3) := by decide +kernel
theorem dX12_count_108 : decode cX12_count 108 = .ok (.goto (-20), 3) := by decide +kernel
theorem dX12_count_111 : decode cX12_count 111 = .ok (.iload_n 2, 1) := by decide +kernel
theorem dX12_count_112 : decode cX12_count 112 = .ok (.ireturn, 1) := by decide +kernel
theorem dX12_count_113 : decode cX12_count 113 = .ok (.iconst 0, 1) := by decide +kernel
theorem dX12_count_114 : decode cX12_count 114 = .ok (.istore_n 3, 1) := by decide +kernel
theorem dX12_count_115 : decode cX12_count 115 = .ok (.iload_n 3, 1) := by decide +kernel
theorem dX12_count_116 : decode cX12_count 116 = .ok (.bipush 16, 2) := by decide +kernel
theorem dX12_count_118 : decode cX12_count 118 = .ok (.if_icmp .ge 18, 3) := by decide +kernel
theorem dX12_count_121 : decode cX12_count 121 = .ok (.iload_n 2, 1) := by decide +kernel
theorem dX12_count_122 : decode cX12_count 122 = .ok (.aload_n 0, 1) := by decide +kernel
theorem dX12_count_123 : decode cX12_count 123 = .ok (.getfield 7, 3) := by decide +kernel
theorem dX12_count_126 : decode cX12_count 126 = .ok (.iload_n 3, 1) := by decide +kernel
theorem dX12_count_127 : decode cX12_count 127 = .ok (.iaload, 1) := by decide +kernel
theorem dX12_count_128 : decode cX12_count 128 = .ok (.iadd, 1) := by decide +kernel
theorem dX12_count_129 : decode cX12_count 129 = .ok (.istore_n 2, 1) := by decide +kernel
theorem dX12_count_130 : decode cX12_count 130 = .ok (.iinc 3 1, 3) := by decide +kernel
theorem dX12_count_133 : decode cX12_count 133 = .ok (.goto (-18), 3) := by decide +kernel
theorem dX12_count_136 : decode cX12_count 136 = .ok (.iload_n 2, 1) := by decide +kernel
theorem dX12_count_137 : decode cX12_count 137 = .ok (.iconst 4, 1) := by decide +kernel
theorem dX12_count_138 : decode cX12_count 138 = .ok (.isub, 1) := by decide +kernel
theorem dX12_count_139 : decode cX12_count 139 = .ok (.iconst 2, 1) := by decide +kernel
theorem dX12_count_140 : decode cX12_count 140 = .ok (.idiv, 1) := by decide +kernel
theorem dX12_count_141 : decode cX12_count 141 = .ok (.ireturn, 1) := by decide +kernel
theorem dX12_count_142 : decode cX12_count 142 = .ok (.iconst (-1), 1) := by decide +kernel
theorem dX12_count_143 : decode cX12_count 143 = .ok (.ireturn, 1) := by decide +kernel
theorem dX12_keep_0 : decode cX12_keep 0 = .ok (.aload_n 0, 1) := by decide +kernel
theorem dX12_keep_1 : decode cX12_keep 1 = .ok (.iconst 0, 1) := by decide +kernel
theorem dX12_keep_2 : decode cX12_keep 2 = .ok (.putfield 160, 3) := by decide +kernel
theorem dX12_keep_5 : decode cX12_keep 5 = .ok (.iload_n 1, 1) := by decide +kernel
theorem dX12_keep_6 : decode cX12_keep 6 = .ok (.i2l, 1) := by decide +kernel
theorem dX12_keep_7 : decode cX12_keep 7 = .ok (.lconst 0, 1) := by decide +kernel
theorem dX12_keep_8 : decode cX12_keep 8 = .ok (.ldc2_w 353, 3) := by decide +kernel
theorem dX12_keep_11 : decode cX12_keep 11 = .ok (.invokestatic 165, 3) := by decide +kernel
theorem dX12_keep_14 : decode cX12_keep 14 = .ok (.ifCond .eq 43, 3) := by decide +kernel
theorem dX12_keep_17 : decode cX12_keep 17 = .ok (.iload_n 2, 1) := by decide +kernel
theorem dX12_keep_18 : decode cX12_keep 18 = .ok (.i2l, 1) := by decide +kernel
theorem dX12_keep_19 : decode cX12_keep 19 = .ok (.lconst 0, 1) := by decide +kernel
theorem dX12_keep_20 : decode cX12_keep 20 = .ok (.lconst 1, 1) := by decide +kernel
theorem dX12_keep_21 : decode cX12_keep 21 = .ok (.invokestatic 165, 3) := by decide +kernel
theorem dX12_keep_24 : decode cX12_keep 24 = .ok (.ifCond .eq 33, 3) := by decide +kernel
theorem dX12_keep_27 : decode cX12_keep 27 = .ok (.iload_n 2, 1) := by decide +kernel
theorem dX12_keep_28 : decode cX12_keep 28 = .ok (.iconst 1, 1) := by decide +kernel
theorem dX12_keep_29 : decode cX12_keep 29 = .ok (.if_icmp .ne 30, 3) := by decide +kernel
theorem dX12_keep_32 : decode cX12_keep 32 = .ok (.iload_n 3, 1) := by decide +kernel
theorem dX12_keep_33 : decode cX12_keep 33 = .ok (.i2l, 1) := by decide +kernel
theorem dX12_keep_34 : decode cX12_keep 34 = .ok (.lconst 0, 1) := by decide +kernel
theorem dX12_keep_35 : decode cX12_keep 35 = .ok (.ldc2_w 353, 3) := by decide +kernel
theorem dX12_keep_38 : decode cX12_keep 38 = .ok (.invokestatic 165, 3) := by decide +kernel
theorem dX12_keep_41 : decode cX12_keep 41 = .ok (.ifCond .eq 16, 3) := by decide +kernel
theorem dX12_keep_44 : decode cX12_keep 44 = .ok (.iload 4, 2) := by decide +kernel
theorem dX12_keep_46 : decode cX12_keep 46 = .ok (.i2l, 1) := by decide +kernel
theorem dX12_keep_47 : decode cX12_keep 47 = .ok (.lconst 0, 1) := by decide +kernel
theorem dX12_keep_48 : decode cX12_keep 48 = .ok (.ldc2_w 342, 3) := by decide +kernel
theorem dX12_keep_51 : decode cX12_keep 51 = .ok (.invokestatic 165, 3) := by decide +kernel
theorem dX12_keep_54 : decode cX12_keep 54 = .ok (.ifCond .ne 5, 3) := by decide +kernel
theorem dX12_keep_57 : decode cX12_keep 57 = .ok (.iconst (-1), 1) := by decide +kernel
theorem dX12_keep_58 : decode cX12_keep 58 = .ok (.ireturn, 1) := by decide +kernel
theorem dX12_keep_59 : decode cX12_keep 59 = .ok (.aload_n 0, 1) := by decide +kernel
theorem dX12_keep_60 : decode cX12_keep 60 = .ok (.getfield 68, 3) := by decide +kernel
theorem dX12_keep_63 : decode cX12_keep 63 = .ok (.iload_n 1, 1) := by decide +kernel
theorem dX12_keep_64 : decode cX12_keep 64 = .ok (.iload_n 2, 1) := by decide +kernel
theorem dX12_keep_65 : decode cX12_keep 65 = .ok (.iastore, 1) := by decide +kernel
theorem dX12_keep_66 : decode cX12_keep 66 = .ok (.aload_n 0, 1) := by decide +kernel
theorem dX12_keep_67 : decode cX12_keep 67 = .ok (.getfield 71, 3) := by decide +kernel
theorem dX12_keep_70 : decode cX12_keep 70 = .ok (.iload_n 1, 1) := by decide +kernel
theorem dX12_keep_71 : decode cX12_keep 71 = .ok (.iload_n 2, 1) := by decide +kernel
theorem dX12_keep_72 : decode cX12_keep 72 = .ok (.iconst 1, 1) := by decide +kernel
theorem dX12_keep_73 : decode cX12_keep 73 = .ok (.if_icmp .ne 7, 3) := by decide +kernel
theorem dX12_keep_76 : decode cX12_keep 76 = .ok (.iload_n 3, 1) := by decide +kernel
theorem dX12_keep_77 : decode cX12_keep 77 = .ok (.goto 4, 3) := by decide +kernel
theorem dX12_keep_80 : decode cX12_keep 80 = .ok (.iconst 0, 1) := by decide +kernel
theorem dX12_keep_81 : decode cX12_keep 81 = .ok (.iastore, 1) := by decide +kernel
theorem dX12_keep_82 : decode cX12_keep 82 = .ok (.aload_n 0, 1) := by decide +kernel
theorem dX12_keep_83 : decode cX12_keep 83 = .ok (.getfield 74, 3) := by decide +kernel
theorem dX12_keep_86 : decode cX12_keep 86 = .ok (.iload_n 1, 1) := by decide +kernel
theorem dX12_keep_87 : decode cX12_keep 87 = .ok (.iload_n 2, 1) := by decide +kernel
theorem dX12_keep_88 : decode cX12_keep 88 = .ok (.iconst 1, 1) := by decide +kernel
theorem dX12_keep_89 : decode cX12_keep 89 = .ok (.if_icmp .ne 8, 3) := by decide +kernel
theorem dX12_keep_92 : decode cX12_keep 92 = .ok (.iload 4, 2) := by decide +kernel
theorem dX12_keep_94 : decode cX12_keep 94 = .ok (.goto 4, 3) := by decide +kernel
theorem dX12_keep_97 : decode cX12_keep 97 = .ok (.iconst 0, 1) := by decide +kernel
theorem dX12_keep_98 : decode cX12_keep 98 = .ok (.iastore, 1) := by decide +kernel
theorem dX12_keep_99 : decode cX12_keep 99 = .ok (.iconst 0, 1) := by decide +kernel
theorem dX12_keep_100 : decode cX12_keep 100 = .ok (.ireturn, 1) := by decide +kernel
theorem dX12_narrowed_0 : decode cX12_narrowed 0 = .ok (.iload_n 1, 1) := by decide +kernel
theorem dX12_narrowed_1 : decode cX12_narrowed 1 = .ok (.ifCond .ne 9, 3) := by decide +kernel
theorem dX12_narrowed_4 : decode cX12_narrowed 4 = .ok (.iload_n 0, 1) := by decide +kernel
theorem dX12_narrowed_5 : decode cX12_narrowed 5 = .ok (.i2b, 1) := by decide +kernel
theorem dX12_narrowed_6 : decode cX12_narrowed 6 = .ok (.i2l, 1) := by decide +kernel
theorem dX12_narrowed_7 : decode cX12_narrowed 7 = .ok (.goto 16, 3) := by decide +kernel
theorem dX12_narrowed_10 : decode cX12_narrowed 10 = .ok (.iload_n 1, 1) := by decide +kernel
theorem dX12_narrowed_11 : decode cX12_narrowed 11 = .ok (.iconst 1, 1) := by decide +kernel
theorem dX12_narrowed_12 : decode cX12_narrowed 12 = .ok (.if_icmp .ne 9, 3) := by decide +kernel
theorem dX12_narrowed_15 : decode cX12_narrowed 15 = .ok (.iload_n 0, 1) := by decide +kernel
theorem dX12_narrowed_16 : decode cX12_narrowed 16 = .ok (.i2s, 1) := by decide +kernel
theorem dX12_narrowed_17 : decode cX12_narrowed 17 = .ok (.i2l, 1) := by decide +kernel
theorem dX12_narrowed_18 : decode cX12_narrowed 18 = .ok (.goto 5, 3) := by decide +kernel
theorem dX12_narrowed_21 : decode cX12_narrowed 21 = .ok (.iload_n 0, 1) := by decide +kernel
theorem dX12_narrowed_22 : decode cX12_narrowed 22 = .ok (.i2l, 1) := by decide +kernel
theorem dX12_narrowed_23 : decode cX12_narrowed 23 = .ok (.lreturn, 1) := by decide +kernel
def b_X12_explain_147 (v1 : Int32) (v2 : Int32) (v3 : Int32) (v4 : Int32) (s0 : Int32) (S : St) : Option ((Int32 × Int32 × Int32 × Int32 × St) ⊕ St) := nm (si S 136 63 s0) fun S1 => some (.inl (v1, v2, v3, (v4 + 1), S1))
def b_X12_explain_125 (v1 : Int32) (v2 : Int32) (v3 : Int32) (v4 : Int32) (v5 : Int32) (s0 : Int32) (S : St) : Option ((Int32 × Int32 × Int32 × Int32 × St) ⊕ St) := nm (si S 136 62 s0) fun S1 => (if (v5 : Int32) ≤ (gi S1 136 63) then (b_X12_explain_147 v1 v2 v3 v4 (gi S1 136 63) S1) else (b_X12_explain_147 v1 v2 v3 v4 v5 S1))
def b_X12_explain_121 (v1 : Int32) (v2 : Int32) (v3 : Int32) (v4 : Int32) (v5 : Int32) (S : St) : Option ((Int32 × Int32 × Int32 × Int32 × St) ⊕ St) := (b_X12_explain_125 v1 v2 v3 v4 v5 (gi S 136 62) S)
def b_X12_explain_83 (v1 : Int32) (v2 : Int32) (v3 : Int32) (v4 : Int32) (v5 : Int32) (s0 : Int32) (s1 : Int32) (S : St) : Option ((Int32 × Int32 × Int32 × Int32 × St) ⊕ St) := nm (si S 136 61 (s1 + s0)) fun S1 => gd (inb v1 8) ((if (v5 : Int32) = (gi S1 157 v1.toNatClampNeg) then (if (0 : Int32) ≤ (gi S1 136 62) then (b_X12_explain_121 v1 v2 v3 v4 v5 S1) else (b_X12_explain_125 v1 v2 v3 v4 v5 ((100 * (gi S1 136 7)) + (gi S1 136 6)) S1)) else (b_X12_explain_121 v1 v2 v3 v4 v5 S1)))
def b_X12_explain_29 (v1 : Int32) (v2 : Int32) (v3 : Int32) (v4 : Int32) (S : St) : Option ((Int32 × Int32 × Int32 × Int32 × St) ⊕ St) := (if (240 : Int32) ≤ v4 then nm (si S 136 7 v2) fun S2 => nm (si S2 136 6 v3) fun S3 => some (.inr S3) else nm (si S 136 7 (v4 / 24)) fun S5 => nm (si S5 136 6 (v4 - v4 / 24 * 24)) fun S7 => (L_X12_fitsUpTo v1 S7).bind fun r8 => gd (inb v1 8) ((if (r8.1 : Int32) = (gi r8.2 157 v1.toNatClampNeg) then (b_X12_explain_83 v1 v2 v3 v4 r8.1 1 (gi r8.2 136 61) r8.2) else (b_X12_explain_83 v1 v2 v3 v4 r8.1 0 (gi r8.2 136 61) r8.2))))
def l_X12_explain_29 (x : (Int32 × Int32 × Int32 × Int32 × St)) : Option ((Int32 × Int32 × Int32 × Int32 × St) ⊕ St) := b_X12_explain_29 x.1 x.2.1 x.2.2.1 x.2.2.2.1 x.2.2.2.2
def b_X12_explain_0 (v1 : Int32) (S : St) : Option St := nm (si S 136 61 0) fun S1 => nm (si S1 136 62 ((-4))) fun S2 => nm (si S2 136 63 0) fun S3 => (lp 1000 (l_X12_explain_29) (v1, (gi S 136 7), (gi S 136 6), 0, S3))
def L_X12_explain (a1 : Int32) (S : St) : Option St := b_X12_explain_0 a1 S
def b_X12_explained_24 (v1 : Int32) (v2 : Int32) (s0 : Int32) (S : St) : Option (Int32 × St) := (if (0 : Int32) ≤ s0 then (L_X12_explain v1 S).bind fun r2 => (if (v2 : Int32) = 0 then some (gi r2 136 61, r2) else some (gi r2 136 62, r2)) else some (s0, S))
def b_X12_explained_0 (v1 : Int32) (v2 : Int32) (S : St) : Option (Int32 × St) := nm (si S 136 28 0) fun S1 => (L_X12_in v2.toInt64 0 1 S1).bind fun r2 => (if (r2 : Int32) = 0 then (b_X12_explained_24 v1 v2 ((-1)) S1) else (L_X12_wrongChoices v1 S1).bind fun r4 => (b_X12_explained_24 v1 v2 r4 S1))
def L_X12_explained (a1 : Int32) (a2 : Int32) (S : St) : Option (Int32 × St) := b_X12_explained_0 a1 a2 S
def b_X12_forged_0 (v1 : Int32) (S : St) : Option (Int32 × St) := nm (si S 136 28 0) fun S1 => (L_X12_wrongChoices v1 S1).bind fun r2 => (if (0 : Int32) ≤ r2 then (L_X12_explain v1 S1).bind fun r4 => (if (gi r4 136 61 : Int32) ≤ 0 then some (gi r4 136 63, r4) else some ((-4), r4)) else some (r2, S1))
def L_X12_forged (a1 : Int32) (S : St) : Option (Int32 × St) := b_X12_forged_0 a1 S
def b_X12_judge_112 (v1 : Int32) (v2 : Int32) (v4 : Int32) (S : St) : Option ((Int32 × Int32 × Int32 × St) ⊕ (Int32 × St)) := some (.inl (v1, v2, (v4 + 1), S))
def b_X12_judge_103 (v1 : Int32) (v2 : Int32) (v4 : Int32) (s0 : Int32) (s2 : Int64) (S : St) : Option ((Int32 × Int32 × Int32 × St) ⊕ (Int32 × St)) := gd (inb s0 192) ((if (lg_cmp s2 ((gi S 171 s0.toNatClampNeg).toInt64) : Int32) = 0 then (b_X12_judge_112 v1 v2 v4 S) else some (.inr (v4, S))))
def b_X12_judge_36 (v1 : Int32) (v2 : Int32) (v4 : Int32) (S : St) : Option ((Int32 × Int32 × Int32 × St) ⊕ (Int32 × St)) := gd (inb v2 8) ((if (gi S 157 v2.toNatClampNeg : Int32) ≤ v4 then some (.inr ((-4), S)) else gd (inb ((100 * v2) + v4) 800) ((L_X12_skipped v2 S).bind fun r4 => (if (lg_cmp (gl S 158 ((100 * v2) + v4).toNatClampNeg) r4 : Int32) = 0 then (b_X12_judge_112 v1 v2 v4 S) else (if (23 : Int32) < v4 then some (.inr (v4, S)) else (if (v4 : Int32) ≤ 23 then (b_X12_judge_103 v1 v2 v4 ((8 * v4) + v1) (gl S 158 ((100 * v2) + v4).toNatClampNeg) S) else (b_X12_judge_103 v1 v2 v4 v1 (gl S 158 ((100 * v2) + v4).toNatClampNeg) S)))))))
def l_X12_judge_36 (x : (Int32 × Int32 × Int32 × St)) : Option ((Int32 × Int32 × Int32 × St) ⊕ (Int32 × St)) := b_X12_judge_36 x.1 x.2.1 x.2.2.1 x.2.2.2
def b_X12_judge_22 (v1 : Int32) (v2 : Int32) (s0 : Int32) (S : St) : Option (Int32 × St) := (if (0 : Int32) ≤ s0 then (L_X12_day S).bind fun r2 => (lp 1000 (l_X12_judge_36) (v1, v2, 0, r2)) else some (s0, S))
def b_X12_judge_0 (v1 : Int32) (v2 : Int32) (S : St) : Option (Int32 × St) := nm (si S 136 28 0) fun S1 => (L_X12_isOne v1 S1).bind fun r2 => (if (r2 : Int32) = 0 then (b_X12_judge_22 v1 v2 ((-1)) S1) else (L_X12_wrongRow v2 S1).bind fun r4 => (b_X12_judge_22 v1 v2 r4 S1))
def L_X12_judge (a1 : Int32) (a2 : Int32) (S : St) : Option (Int32 × St) := b_X12_judge_0 a1 a2 S
def b_X12_seeds_133 (v3 : Int32) (v5 : Int32) (v6 : Int32) (S : St) : Option (Int32 × St) := (L_X12_close S).bind fun r1 => (if (v3 : Int32) = 0 then some (v5, r1) else some (v6, r1))
def b_X12_seeds_104 (v1 : Int32) (v3 : Int32) (v4 : Int32) (v5 : Int32) (v6 : Int32) (v7 : Int32) (S : St) : Option ((Int32 × Int32 × Int32 × Int32 × Int32 × Int32 × St) ⊕ (Int32 × St)) := (L_X12_day S).bind fun r1 => (L_X12_chose 1 r1).bind fun r2 => (L_X12_soldMany r1).bind fun r3 => some (.inl (v1, v3, v4, (v5 + r2), (v6 + r3), (v7 + 1), r1))
def b_X12_seeds_54 (v1 : Int32) (v3 : Int32) (v4 : Int32) (v5 : Int32) (v6 : Int32) (v7 : Int32) (v8 : Int32) (S : St) : Option ((Int32 × Int32 × Int32 × Int32 × Int32 × Int32 × Int32 × St) ⊕ ((Int32 × Int32 × Int32 × Int32 × Int32 × Int32 × St) ⊕ (Int32 × St))) := (if (gi S 136 15 : Int32) ≤ v8 then ((b_X12_seeds_104 v1 v3 v4 v5 v6 v7 S).map Sum.inr) else gd (inb v8 8) (nm (si S 151 v8.toNatClampNeg ((((((v4 * 1103515245) + 12345) &&& 2147483647) / 65536) - ((((v4 * 1103515245) + 12345) &&& 2147483647) / 65536) / 19 * 19) - 9)) fun S5 => some (.inl (v1, v3, ((v4 * 1103515245) + 12345), v5, v6, v7, (v8 + 1), S5))))
def l_X12_seeds_54 (x : (Int32 × Int32 × Int32 × Int32 × Int32 × Int32 × Int32 × St)) : Option ((Int32 × Int32 × Int32 × Int32 × Int32 × Int32 × Int32 × St) ⊕ ((Int32 × Int32 × Int32 × Int32 × Int32 × Int32 × St) ⊕ (Int32 × St))) := b_X12_seeds_54 x.1 x.2.1 x.2.2.1 x.2.2.2.1 x.2.2.2.2.1 x.2.2.2.2.2.1 x.2.2.2.2.2.2.1 x.2.2.2.2.2.2.2
def b_X12_seeds_45 (v1 : Int32) (v3 : Int32) (v4 : Int32) (v5 : Int32) (v6 : Int32) (v7 : Int32) (S : St) : Option ((Int32 × Int32 × Int32 × Int32 × Int32 × Int32 × St) ⊕ (Int32 × St)) := (if (v1 : Int32) ≤ v7 then ((b_X12_seeds_133 v3 v5 v6 S).map Sum.inr) else (lp 1000 (l_X12_seeds_54) (v1, v3, v4, v5, v6, v7, 0, S)))
def l_X12_seeds_45 (x : (Int32 × Int32 × Int32 × Int32 × Int32 × Int32 × St)) : Option ((Int32 × Int32 × Int32 × Int32 × Int32 × Int32 × St) ⊕ (Int32 × St)) := b_X12_seeds_45 x.1 x.2.1 x.2.2.1 x.2.2.2.1 x.2.2.2.2.1 x.2.2.2.2.2.1 x.2.2.2.2.2.2
def b_X12_seeds_0 (v1 : Int32) (v2 : Int32) (v3 : Int32) (S : St) : Option (Int32 × St) := nm (si S 136 28 0) fun S1 => (L_X12_in v1.toInt64 1 20 S1).bind fun r2 => (if (r2 : Int32) = 0 then some ((-1), S1) else (L_X12_in v3.toInt64 0 1 S1).bind fun r4 => (if (r4 : Int32) = 0 then some ((-1), S1) else (L_X12_open S1).bind fun r6 => (lp 1000 (l_X12_seeds_45) (v1, v3, v2, 0, 0, 0, r6))))
def L_X12_seeds (a1 : Int32) (a2 : Int32) (a3 : Int32) (S : St) : Option (Int32 × St) := b_X12_seeds_0 a1 a2 a3 S
def b_X12_count_88 (v2 : Int32) (v3 : Int32) (S : St) : Option ((Int32 × Int32 × St) ⊕ (Int32 × St)) := (if (gi S 136 15 : Int32) ≤ v3 then some (.inr (v2, S)) else gd (inb v3 8) (some (.inl ((v2 + (gi S 152 v3.toNatClampNeg)), (v3 + 1), S))))
def l_X12_count_88 (x : (Int32 × Int32 × St)) : Option ((Int32 × Int32 × St) ⊕ (Int32 × St)) := b_X12_count_88 x.1 x.2.1 x.2.2
def b_X12_count_115 (v2 : Int32) (v3 : Int32) (S : St) : Option ((Int32 × Int32 × St) ⊕ (Int32 × St)) := (if (16 : Int32) ≤ v3 then some (.inr ((v2 - 4) / 2, S)) else gd (inb v3 16) (some (.inl ((v2 + (gi S 137 v3.toNatClampNeg)), (v3 + 1), S))))
def l_X12_count_115 (x : (Int32 × Int32 × St)) : Option ((Int32 × Int32 × St) ⊕ (Int32 × St)) := b_X12_count_115 x.1 x.2.1 x.2.2
def b_X12_count_0 (v1 : Int32) (S : St) : Option (Int32 × St) := nm (si S 136 28 0) fun S1 => (if (v1 : Int32) = 0 then some (gi S1 136 15, S1) else if (v1 : Int32) = 1 then some (gi S1 136 1, S1) else if (v1 : Int32) = 2 then some (gi S1 136 9, S1) else if (v1 : Int32) = 3 then some (gi S1 136 6, S1) else if (v1 : Int32) = 4 then some (gi S1 136 7, S1) else if (v1 : Int32) = 5 then some (gi S1 136 8, S1) else if (v1 : Int32) = 6 then (lp 1000 (l_X12_count_88) (0, 0, S1)) else if (v1 : Int32) = 7 then (lp 1000 (l_X12_count_115) (0, 0, S1)) else some ((-1), S1))
def L_X12_count (a1 : Int32) (S : St) : Option (Int32 × St) := b_X12_count_0 a1 S
def b_X12_keep_81 (v1 : Int32) (v2 : Int32) (v4 : Int32) (s0 : Int32) (s1 : Int32) (S : St) : Option (Int32 × St) := gd (inb s1 8) (nm (si S 154 s1.toNatClampNeg s0) fun S2 => (if (v2 : Int32) = 1 then gd (inb v1 8) (nm (si S2 155 v1.toNatClampNeg v4) fun S7 => some (0, S7)) else gd (inb v1 8) (nm (si S2 155 v1.toNatClampNeg 0) fun S5 => some (0, S5))))
def b_X12_keep_59 (v1 : Int32) (v2 : Int32) (v3 : Int32) (v4 : Int32) (S : St) : Option (Int32 × St) := gd (inb v1 8) (nm (si S 153 v1.toNatClampNeg v2) fun S2 => (if (v2 : Int32) = 1 then (b_X12_keep_81 v1 v2 v4 v3 v1 S2) else (b_X12_keep_81 v1 v2 v4 0 v1 S2)))
def b_X12_keep_0 (v1 : Int32) (v2 : Int32) (v3 : Int32) (v4 : Int32) (S : St) : Option (Int32 × St) := nm (si S 136 28 0) fun S1 => (L_X12_in v1.toInt64 0 7 S1).bind fun r2 => (if (r2 : Int32) = 0 then some ((-1), S1) else (L_X12_in v2.toInt64 0 1 S1).bind fun r4 => (if (r4 : Int32) = 0 then some ((-1), S1) else (if (v2 : Int32) = 1 then (L_X12_in v3.toInt64 0 7 S1).bind fun r7 => (if (r7 : Int32) = 0 then some ((-1), S1) else (L_X12_in v4.toInt64 0 9 S1).bind fun r9 => (if (r9 : Int32) = 0 then some ((-1), S1) else (b_X12_keep_59 v1 v2 v3 v4 S1))) else (b_X12_keep_59 v1 v2 v3 v4 S1))))
def L_X12_keep (a1 : Int32) (a2 : Int32) (a3 : Int32) (a4 : Int32) (S : St) : Option (Int32 × St) := b_X12_keep_0 a1 a2 a3 a4 S
def b_X12_narrowed_0 (v0 : Int32) (v1 : Int32) (S : St) : Option Int64 := (if (v1 : Int32) = 0 then some v0.toInt8.toInt32.toInt64 else (if (v1 : Int32) = 1 then some v0.toInt16.toInt32.toInt64 else some v0.toInt64))
def L_X12_narrowed (a0 : Int32) (a1 : Int32) (S : St) : Option Int64 := b_X12_narrowed_0 a0 a1 S
section WALKS
variable {p : Program} {e : Env} {s : State} {m : MethodId} {args : Array Value} {below : List Frame} {meth : Method} {c : Code} {D : va_G} {ct : Nat → ClassId} {B : Nat} {Hb : Heap}
set_option maxRecDepth 100000 in
set_option maxHeartbeats 4000000 in
theorem w_X12_explain_147 (l : Launch) {V : St} (C0 : XC D ct p s m args meth c cX12_explain 6 none RX12) (n0 : Nat) (ih0 : ∀ (v1 : Int32) (v2 : Int32) (v3 : Int32) (v4 : Int32) (S : St) (H : Heap) (locs : List Loc) (ls : Array Slot), (lp n0 (l_X12_explain_29) (v1, v2, v3, v4, S)).bind some = some V → MP D ct B Hb S H → va_S (AB B) s.heap H locs → lv_has ls 6 [(0, .ref (B + 136)), (1, .int v1), (2, .int v2), (3, .int v3), (4, .int v4)] → W p l e { frames := 8, cells := 0, slots := 0, locals := 182 } s m args below meth c H locs 0 0 (MQ below (qVw D ct B Hb V) args s 0 0 (AB B)) (F0 m 29 ls [])) (v1 : Int32) (v2 : Int32) (v3 : Int32) (v4 : Int32) (s0 : Int32) (S : St) {H : Heap} {locs : List Loc} {ls : Array Slot} (h : (b_X12_explain_147 v1 v2 v3 v4 s0 S).bind (lpF n0 (l_X12_explain_29) some) = some V) (hP : MP D ct B Hb S H) (hS : va_S (AB B) s.heap H locs) (hl : lv_has ls 6 [(0, .ref (B + 136)), (1, .int v1), (2, .int v2), (3, .int v3), (4, .int v4)]) : W p l e { frames := 8, cells := 0, slots := 0, locals := 182 } s m args below meth c H locs 0 0 (MQ below (qVw D ct B Hb V) args s 0 0 (AB B)) (F0 m 147 ls [.int s0, .ref (B + 136)]) := by
  obtain ⟨hx, hb, hr, hml, hown, hts, hK, hlocks, hN⟩ := id C0
  unfold b_X12_explain_147 at h
  obtain ⟨S1, eS1, h⟩ := ob_nm h
  refine x_put (S' := si S 136 63 s0) (FS := (fs12 B)) C0 hP hS (fun S => lay_X12 B ct S) rfl inG12 tyX12 tyX12_ok nmX12 63 (by decide) wd_1204 rfl rfl (fun a ha => lay_local (gi_si_n _ _ _ ha) rfl rfl rfl) (put_12_63 B _ _) rfl rfl (Nat.le_of_ble_eq_true rfl) dX12_explain_147 (fun H locs hP hS => ?_)
  rw [← eS1] at hP
  refine lv_iinc (v := v4 + 1) (lv' := [(4, .int (v4 + 1)), (0, .ref (B + 136)), (1, .int v1), (2, .int v2), (3, .int v3)]) hx hb dX12_explain_150 hl (k := 4) rfl rfl (by decide) rfl (fun ls hl => ?_)
  refine lv_goto (tgt := 29) hx hb dX12_explain_153 (by decide) ?_
  exact ih0 v1 v2 v3 (v4 + 1) S1 _ _ _ h hP hS (lv_sub hl [1, 2, 3, 4, 0] rfl)
set_option maxRecDepth 100000 in
set_option maxHeartbeats 4000000 in
theorem w_X12_explain_125 (l : Launch) {V : St} (C0 : XC D ct p s m args meth c cX12_explain 6 none RX12) (n0 : Nat) (ih0 : ∀ (v1 : Int32) (v2 : Int32) (v3 : Int32) (v4 : Int32) (S : St) (H : Heap) (locs : List Loc) (ls : Array Slot), (lp n0 (l_X12_explain_29) (v1, v2, v3, v4, S)).bind some = some V → MP D ct B Hb S H → va_S (AB B) s.heap H locs → lv_has ls 6 [(0, .ref (B + 136)), (1, .int v1), (2, .int v2), (3, .int v3), (4, .int v4)] → W p l e { frames := 8, cells := 0, slots := 0, locals := 182 } s m args below meth c H locs 0 0 (MQ below (qVw D ct B Hb V) args s 0 0 (AB B)) (F0 m 29 ls [])) (v1 : Int32) (v2 : Int32) (v3 : Int32) (v4 : Int32) (v5 : Int32) (s0 : Int32) (S : St) {H : Heap} {locs : List Loc} {ls : Array Slot} (h : (b_X12_explain_125 v1 v2 v3 v4 v5 s0 S).bind (lpF n0 (l_X12_explain_29) some) = some V) (hP : MP D ct B Hb S H) (hS : va_S (AB B) s.heap H locs) (hl : lv_has ls 6 [(0, .ref (B + 136)), (1, .int v1), (2, .int v2), (3, .int v3), (4, .int v4), (5, .int v5)]) : W p l e { frames := 8, cells := 0, slots := 0, locals := 182 } s m args below meth c H locs 0 0 (MQ below (qVw D ct B Hb V) args s 0 0 (AB B)) (F0 m 125 ls [.int s0, .ref (B + 136)]) := by
  obtain ⟨hx, hb, hr, hml, hown, hts, hK, hlocks, hN⟩ := id C0
  unfold b_X12_explain_125 at h
  obtain ⟨S1, eS1, h⟩ := ob_nm h
  refine x_put (S' := si S 136 62 s0) (FS := (fs12 B)) C0 hP hS (fun S => lay_X12 B ct S) rfl inG12 tyX12 tyX12_ok nmX12 62 (by decide) wd_1203 rfl rfl (fun a ha => lay_local (gi_si_n _ _ _ ha) rfl rfl rfl) (put_12_62 B _ _) rfl rfl (Nat.le_of_ble_eq_true rfl) dX12_explain_125 (fun H locs hP hS => ?_)
  rw [← eS1] at hP
  refine lv_aload_n hx hb dX12_explain_128 rfl (lv_at hl 0 rfl) ?_
  refine lv_iload hx hb dX12_explain_129 (lv_at hl 5 rfl) ?_
  refine lv_aload_n hx hb dX12_explain_131 rfl (lv_at hl 0 rfl) ?_
  refine x_get C0 hP (lay_X12 B ct S1) rfl inG12 63 (by decide) wd_1204 (fun _ h => h) rfl dX12_explain_132 ?_
  refine lv_icmp_le (tgt := 143) hx hb dX12_explain_135 (by decide) (fun z2 => ?_) (fun z2 => ?_)
  · have h := ob_t h z2
    refine lv_aload_n hx hb dX12_explain_143 rfl (lv_at hl 0 rfl) ?_
    refine x_get C0 hP (lay_X12 B ct S1) rfl inG12 63 (by decide) wd_1204 (fun _ h => h) rfl dX12_explain_144 ?_
    exact w_X12_explain_147 l C0 n0 ih0 v1 v2 v3 v4 (gi S1 136 63) S1 h hP hS (lv_sub hl [0, 1, 2, 3, 4] rfl)
  · have h := ob_f h z2
    refine lv_iload hx hb dX12_explain_138 (lv_at hl 5 rfl) ?_
    refine lv_goto (tgt := 147) hx hb dX12_explain_140 (by decide) ?_
    exact w_X12_explain_147 l C0 n0 ih0 v1 v2 v3 v4 v5 S1 h hP hS (lv_sub hl [0, 1, 2, 3, 4] rfl)
set_option maxRecDepth 100000 in
set_option maxHeartbeats 4000000 in
theorem w_X12_explain_121 (l : Launch) {V : St} (C0 : XC D ct p s m args meth c cX12_explain 6 none RX12) (n0 : Nat) (ih0 : ∀ (v1 : Int32) (v2 : Int32) (v3 : Int32) (v4 : Int32) (S : St) (H : Heap) (locs : List Loc) (ls : Array Slot), (lp n0 (l_X12_explain_29) (v1, v2, v3, v4, S)).bind some = some V → MP D ct B Hb S H → va_S (AB B) s.heap H locs → lv_has ls 6 [(0, .ref (B + 136)), (1, .int v1), (2, .int v2), (3, .int v3), (4, .int v4)] → W p l e { frames := 8, cells := 0, slots := 0, locals := 182 } s m args below meth c H locs 0 0 (MQ below (qVw D ct B Hb V) args s 0 0 (AB B)) (F0 m 29 ls [])) (v1 : Int32) (v2 : Int32) (v3 : Int32) (v4 : Int32) (v5 : Int32) (S : St) {H : Heap} {locs : List Loc} {ls : Array Slot} (h : (b_X12_explain_121 v1 v2 v3 v4 v5 S).bind (lpF n0 (l_X12_explain_29) some) = some V) (hP : MP D ct B Hb S H) (hS : va_S (AB B) s.heap H locs) (hl : lv_has ls 6 [(0, .ref (B + 136)), (1, .int v1), (2, .int v2), (3, .int v3), (4, .int v4), (5, .int v5)]) : W p l e { frames := 8, cells := 0, slots := 0, locals := 182 } s m args below meth c H locs 0 0 (MQ below (qVw D ct B Hb V) args s 0 0 (AB B)) (F0 m 121 ls [.ref (B + 136)]) := by
  obtain ⟨hx, hb, hr, hml, hown, hts, hK, hlocks, hN⟩ := id C0
  unfold b_X12_explain_121 at h
  refine lv_aload_n hx hb dX12_explain_121 rfl (lv_at hl 0 rfl) ?_
  refine x_get C0 hP (lay_X12 B ct S) rfl inG12 62 (by decide) wd_1203 (fun _ h => h) rfl dX12_explain_122 ?_
  exact w_X12_explain_125 l C0 n0 ih0 v1 v2 v3 v4 v5 (gi S 136 62) S h hP hS (lv_sub hl [0, 1, 2, 3, 4, 5] rfl)
set_option maxRecDepth 100000 in
set_option maxHeartbeats 4000000 in
theorem w_X12_explain_83 (l : Launch) {V : St} (C0 : XC D ct p s m args meth c cX12_explain 6 none RX12) (n0 : Nat) (ih0 : ∀ (v1 : Int32) (v2 : Int32) (v3 : Int32) (v4 : Int32) (S : St) (H : Heap) (locs : List Loc) (ls : Array Slot), (lp n0 (l_X12_explain_29) (v1, v2, v3, v4, S)).bind some = some V → MP D ct B Hb S H → va_S (AB B) s.heap H locs → lv_has ls 6 [(0, .ref (B + 136)), (1, .int v1), (2, .int v2), (3, .int v3), (4, .int v4)] → W p l e { frames := 8, cells := 0, slots := 0, locals := 182 } s m args below meth c H locs 0 0 (MQ below (qVw D ct B Hb V) args s 0 0 (AB B)) (F0 m 29 ls [])) (v1 : Int32) (v2 : Int32) (v3 : Int32) (v4 : Int32) (v5 : Int32) (s0 : Int32) (s1 : Int32) (S : St) {H : Heap} {locs : List Loc} {ls : Array Slot} (h : (b_X12_explain_83 v1 v2 v3 v4 v5 s0 s1 S).bind (lpF n0 (l_X12_explain_29) some) = some V) (hP : MP D ct B Hb S H) (hS : va_S (AB B) s.heap H locs) (hl : lv_has ls 6 [(0, .ref (B + 136)), (1, .int v1), (2, .int v2), (3, .int v3), (4, .int v4), (5, .int v5)]) : W p l e { frames := 8, cells := 0, slots := 0, locals := 182 } s m args below meth c H locs 0 0 (MQ below (qVw D ct B Hb V) args s 0 0 (AB B)) (F0 m 83 ls [.int s0, .int s1, .ref (B + 136)]) := by
  obtain ⟨hx, hb, hr, hml, hown, hts, hK, hlocks, hN⟩ := id C0
  unfold b_X12_explain_83 at h
  refine lv_iadd hx hb dX12_explain_83 ?_
  obtain ⟨S1, eS1, h⟩ := ob_nm h
  refine x_put (S' := si S 136 61 (s1 + s0)) (FS := (fs12 B)) C0 hP hS (fun S => lay_X12 B ct S) rfl inG12 tyX12 tyX12_ok nmX12 61 (by decide) wd_1202 rfl rfl (fun a ha => lay_local (gi_si_n _ _ _ ha) rfl rfl rfl) (put_12_61 B _ _) rfl rfl (Nat.le_of_ble_eq_true rfl) dX12_explain_84 (fun H locs hP hS => ?_)
  rw [← eS1] at hP
  refine lv_aload_n hx hb dX12_explain_87 rfl (lv_at hl 0 rfl) ?_
  refine lv_iload hx hb dX12_explain_88 (lv_at hl 5 rfl) ?_
  refine lv_aload_n hx hb dX12_explain_90 rfl (lv_at hl 0 rfl) ?_
  refine x_get C0 hP (lay_X12 B ct S1) rfl inG12 26 (by decide) wd_1167 (fun _ h => h) rfl dX12_explain_91 ?_
  refine lv_iload_n hx hb dX12_explain_94 rfl (lv_at hl 1 rfl) ?_
  obtain ⟨g2, h⟩ := ob_gd h
  refine x_iald C0 hP ((fun S => lay_157 B ct S) S1) g2 dX12_explain_95 ?_
  refine lv_icmp_ne (tgt := 121) hx hb dX12_explain_96 (by decide) (fun z3 => ?_) (fun z3 => ?_)
  · have h := ob_f h z3
    exact w_X12_explain_121 l C0 n0 ih0 v1 v2 v3 v4 v5 S1 h hP hS (lv_sub hl [0, 1, 2, 3, 4, 5] rfl)
  · have h := ob_t h z3
    refine lv_aload_n hx hb dX12_explain_99 rfl (lv_at hl 0 rfl) ?_
    refine x_get C0 hP (lay_X12 B ct S1) rfl inG12 62 (by decide) wd_1203 (fun _ h => h) rfl dX12_explain_100 ?_
    refine lv_if_ge (tgt := 121) hx hb dX12_explain_103 (by decide) (fun z4 => ?_) (fun z4 => ?_)
    · have h := ob_t h z4
      exact w_X12_explain_121 l C0 n0 ih0 v1 v2 v3 v4 v5 S1 h hP hS (lv_sub hl [0, 1, 2, 3, 4, 5] rfl)
    · have h := ob_f h z4
      refine lv_bipush (v := 100) hx hb dX12_explain_106 (by decide) ?_
      refine lv_aload_n hx hb dX12_explain_108 rfl (lv_at hl 0 rfl) ?_
      refine x_get C0 hP (lay_X12 B ct S1) rfl inG12 7 (by decide) wd_1148 (fun _ h => h) rfl dX12_explain_109 ?_
      refine lv_imul hx hb dX12_explain_112 ?_
      refine lv_aload_n hx hb dX12_explain_113 rfl (lv_at hl 0 rfl) ?_
      refine x_get C0 hP (lay_X12 B ct S1) rfl inG12 6 (by decide) wd_1147 (fun _ h => h) rfl dX12_explain_114 ?_
      refine lv_iadd hx hb dX12_explain_117 ?_
      refine lv_goto (tgt := 125) hx hb dX12_explain_118 (by decide) ?_
      exact w_X12_explain_125 l C0 n0 ih0 v1 v2 v3 v4 v5 ((100 * (gi S1 136 7)) + (gi S1 136 6)) S1 h hP hS (lv_sub hl [0, 1, 2, 3, 4, 5] rfl)
set_option maxRecDepth 100000 in
set_option maxHeartbeats 4000000 in
theorem w_X12_explain_29 (l : Launch) {V : St} (C0 : XC D ct p s m args meth c cX12_explain 6 none RX12) (n0 : Nat) (ih0 : ∀ (v1 : Int32) (v2 : Int32) (v3 : Int32) (v4 : Int32) (S : St) (H : Heap) (locs : List Loc) (ls : Array Slot), (lp n0 (l_X12_explain_29) (v1, v2, v3, v4, S)).bind some = some V → MP D ct B Hb S H → va_S (AB B) s.heap H locs → lv_has ls 6 [(0, .ref (B + 136)), (1, .int v1), (2, .int v2), (3, .int v3), (4, .int v4)] → W p l e { frames := 8, cells := 0, slots := 0, locals := 182 } s m args below meth c H locs 0 0 (MQ below (qVw D ct B Hb V) args s 0 0 (AB B)) (F0 m 29 ls [])) (v1 : Int32) (v2 : Int32) (v3 : Int32) (v4 : Int32) (S : St) {H : Heap} {locs : List Loc} {ls : Array Slot} (h : (b_X12_explain_29 v1 v2 v3 v4 S).bind (lpF n0 (l_X12_explain_29) some) = some V) (hP : MP D ct B Hb S H) (hS : va_S (AB B) s.heap H locs) (hl : lv_has ls 6 [(0, .ref (B + 136)), (1, .int v1), (2, .int v2), (3, .int v3), (4, .int v4)]) : W p l e { frames := 8, cells := 0, slots := 0, locals := 182 } s m args below meth c H locs 0 0 (MQ below (qVw D ct B Hb V) args s 0 0 (AB B)) (F0 m 29 ls []) := by
  obtain ⟨hx, hb, hr, hml, hown, hts, hK, hlocks, hN⟩ := id C0
  unfold b_X12_explain_29 at h
  refine lv_iload hx hb dX12_explain_29 (lv_at hl 4 rfl) ?_
  refine lv_sipush (v := 240) hx hb dX12_explain_31 (by decide) ?_
  refine lv_icmp_ge (tgt := 156) hx hb dX12_explain_34 (by decide) (fun z1 => ?_) (fun z1 => ?_)
  · have h := ob_t h z1
    refine lv_aload_n hx hb dX12_explain_156 rfl (lv_at hl 0 rfl) ?_
    refine lv_iload_n hx hb dX12_explain_157 rfl (lv_at hl 2 rfl) ?_
    obtain ⟨S2, eS2, h⟩ := ob_nm h
    refine x_put (S' := si S 136 7 v2) (FS := (fs12 B)) C0 hP hS (fun S => lay_X12 B ct S) rfl inG12 tyX12 tyX12_ok nmX12 7 (by decide) wd_1148 rfl rfl (fun a ha => lay_local (gi_si_n _ _ _ ha) rfl rfl rfl) (put_12_7 B _ _) rfl rfl (Nat.le_of_ble_eq_true rfl) dX12_explain_158 (fun H locs hP hS => ?_)
    rw [← eS2] at hP
    refine lv_aload_n hx hb dX12_explain_161 rfl (lv_at hl 0 rfl) ?_
    refine lv_iload_n hx hb dX12_explain_162 rfl (lv_at hl 3 rfl) ?_
    obtain ⟨S3, eS3, h⟩ := ob_nm h
    refine x_put (S' := si S2 136 6 v3) (FS := (fs12 B)) C0 hP hS (fun S => lay_X12 B ct S) rfl inG12 tyX12 tyX12_ok nmX12 6 (by decide) wd_1147 rfl rfl (fun a ha => lay_local (gi_si_n _ _ _ ha) rfl rfl rfl) (put_12_6 B _ _) rfl rfl (Nat.le_of_ble_eq_true rfl) dX12_explain_163 (fun H locs hP hS => ?_)
    rw [← eS3] at hP
    exact r_Vw C0 hP hS h dX12_explain_166
  · have h := ob_f h z1
    refine lv_aload_n hx hb dX12_explain_37 rfl (lv_at hl 0 rfl) ?_
    refine lv_iload hx hb dX12_explain_38 (lv_at hl 4 rfl) ?_
    refine lv_bipush (v := 24) hx hb dX12_explain_40 (by decide) ?_
    refine lv_idiv hx hb dX12_explain_42 (by decide) ?_
    obtain ⟨S5, eS5, h⟩ := ob_nm h
    refine x_put (S' := si S 136 7 (v4 / 24)) (FS := (fs12 B)) C0 hP hS (fun S => lay_X12 B ct S) rfl inG12 tyX12 tyX12_ok nmX12 7 (by decide) wd_1148 rfl rfl (fun a ha => lay_local (gi_si_n _ _ _ ha) rfl rfl rfl) (put_12_7 B _ _) rfl rfl (Nat.le_of_ble_eq_true rfl) dX12_explain_43 (fun H locs hP hS => ?_)
    rw [← eS5] at hP
    refine lv_aload_n hx hb dX12_explain_46 rfl (lv_at hl 0 rfl) ?_
    refine lv_iload hx hb dX12_explain_47 (lv_at hl 4 rfl) ?_
    refine lv_bipush (v := 24) hx hb dX12_explain_49 (by decide) ?_
    refine lv_irem hx hb dX12_explain_51 (by decide) ?_
    obtain ⟨S7, eS7, h⟩ := ob_nm h
    refine x_put (S' := si S5 136 6 (v4 - v4 / 24 * 24)) (FS := (fs12 B)) C0 hP hS (fun S => lay_X12 B ct S) rfl inG12 tyX12 tyX12_ok nmX12 6 (by decide) wd_1147 rfl rfl (fun a ha => lay_local (gi_si_n _ _ _ ha) rfl rfl rfl) (put_12_6 B _ _) rfl rfl (Nat.le_of_ble_eq_true rfl) dX12_explain_52 (fun H locs hP hS => ?_)
    rw [← eS7] at hP
    refine lv_aload_n hx hb dX12_explain_55 rfl (lv_at hl 0 rfl) ?_
    refine lv_iload_n hx hb dX12_explain_56 rfl (lv_at hl 1 rfl) ?_
    obtain ⟨r8, hr8, h⟩ := ob_bd h
    refine n_Iw (kV (As := [.int v1]) C0 (c_X12_fitsUpTo l v1 hr8) ⟨wd_1735, wd_1732, wd_1734, wp_68, wd_6⟩ kd_X12_fitsUpTo ⟨Nat.le_of_ble_eq_true rfl, Nat.le_of_ble_eq_true rfl⟩ hP (lay_X12 B ct S7) rfl rfl hl.1 rfl (Nat.le_of_ble_eq_true rfl) dX12_explain_57 ⟨Nat.le_of_ble_eq_true rfl, Nat.le_of_ble_eq_true rfl⟩) hS (fun H locs hP hS => ?_)
    refine lv_istore (lv' := [(5, .int r8.1), (0, .ref (B + 136)), (1, .int v1), (2, .int v2), (3, .int v3), (4, .int v4)]) hx hb dX12_explain_60 hl (by decide) rfl (fun ls hl => ?_)
    refine lv_aload_n hx hb dX12_explain_62 rfl (lv_at hl 1 rfl) ?_
    refine lv_dup hx hb dX12_explain_63 rfl ?_
    refine x_get C0 hP (lay_X12 B ct r8.2) rfl inG12 61 (by decide) wd_1202 (fun _ h => h) rfl dX12_explain_64 ?_
    refine lv_iload hx hb dX12_explain_67 (lv_at hl 0 rfl) ?_
    refine lv_aload_n hx hb dX12_explain_69 rfl (lv_at hl 1 rfl) ?_
    refine x_get C0 hP (lay_X12 B ct r8.2) rfl inG12 26 (by decide) wd_1167 (fun _ h => h) rfl dX12_explain_70 ?_
    refine lv_iload_n hx hb dX12_explain_73 rfl (lv_at hl 2 rfl) ?_
    obtain ⟨g9, h⟩ := ob_gd h
    refine x_iald C0 hP ((fun S => lay_157 B ct S) r8.2) g9 dX12_explain_74 ?_
    refine lv_icmp_ne (tgt := 82) hx hb dX12_explain_75 (by decide) (fun z10 => ?_) (fun z10 => ?_)
    · have h := ob_f h z10
      refine lv_iconst (v := 0) hx hb dX12_explain_82 (by decide) ?_
      exact w_X12_explain_83 l C0 n0 ih0 v1 v2 v3 v4 r8.1 0 (gi r8.2 136 61) r8.2 h hP hS (lv_sub hl [1, 2, 3, 4, 5, 0] rfl)
    · have h := ob_t h z10
      refine lv_iconst (v := 1) hx hb dX12_explain_78 (by decide) ?_
      refine lv_goto (tgt := 83) hx hb dX12_explain_79 (by decide) ?_
      exact w_X12_explain_83 l C0 n0 ih0 v1 v2 v3 v4 r8.1 1 (gi r8.2 136 61) r8.2 h hP hS (lv_sub hl [1, 2, 3, 4, 5, 0] rfl)
set_option maxRecDepth 100000 in
set_option maxHeartbeats 4000000 in
theorem wl_X12_explain_29 (l : Launch) {V : St} (C0 : XC D ct p s m args meth c cX12_explain 6 none RX12)  : ∀ (n0 : Nat) (v1 : Int32) (v2 : Int32) (v3 : Int32) (v4 : Int32) (S : St) {H : Heap} {locs : List Loc} {ls : Array Slot}, (lp n0 (l_X12_explain_29) (v1, v2, v3, v4, S)).bind some = some V → MP D ct B Hb S H → va_S (AB B) s.heap H locs → lv_has ls 6 [(0, .ref (B + 136)), (1, .int v1), (2, .int v2), (3, .int v3), (4, .int v4)] → W p l e { frames := 8, cells := 0, slots := 0, locals := 182 } s m args below meth c H locs 0 0 (MQ below (qVw D ct B Hb V) args s 0 0 (AB B)) (F0 m 29 ls []) := by
  intro n0
  induction n0 with
  | zero =>
    intro v1 v2 v3 v4 S H locs ls h hP hS hl
    exact (lp_0 h).elim
  | succ n0 ih0 =>
    intro v1 v2 v3 v4 S H locs ls h hP hS hl
    have h := lp_s h
    exact w_X12_explain_29 l C0 n0 (fun v1 v2 v3 v4 S H locs ls h hP hS hl => ih0 v1 v2 v3 v4 S h hP hS hl) v1 v2 v3 v4 S h hP hS hl
set_option maxRecDepth 100000 in
set_option maxHeartbeats 4000000 in
theorem w_X12_explain_0 (l : Launch) {V : St} (C0 : XC D ct p s m args meth c cX12_explain 6 none RX12) (v1 : Int32) (S : St) {H : Heap} {locs : List Loc} {ls : Array Slot} (h : (b_X12_explain_0 v1 S).bind some = some V) (hP : MP D ct B Hb S H) (hS : va_S (AB B) s.heap H locs) (hl : lv_has ls 6 [(0, .ref (B + 136)), (1, .int v1)]) : W p l e { frames := 8, cells := 0, slots := 0, locals := 182 } s m args below meth c H locs 0 0 (MQ below (qVw D ct B Hb V) args s 0 0 (AB B)) (F0 m 0 ls []) := by
  obtain ⟨hx, hb, hr, hml, hown, hts, hK, hlocks, hN⟩ := id C0
  unfold b_X12_explain_0 at h
  refine lv_aload_n hx hb dX12_explain_0 rfl (lv_at hl 0 rfl) ?_
  refine x_get C0 hP (lay_X12 B ct S) rfl inG12 7 (by decide) wd_1148 (fun _ h => h) rfl dX12_explain_1 ?_
  refine lv_istore_n (lv' := [(2, .int (gi S 136 7)), (0, .ref (B + 136)), (1, .int v1)]) hx hb dX12_explain_4 rfl hl (by decide) rfl (fun ls hl => ?_)
  refine lv_aload_n hx hb dX12_explain_5 rfl (lv_at hl 1 rfl) ?_
  refine x_get C0 hP (lay_X12 B ct S) rfl inG12 6 (by decide) wd_1147 (fun _ h => h) rfl dX12_explain_6 ?_
  refine lv_istore_n (lv' := [(3, .int (gi S 136 6)), (2, .int (gi S 136 7)), (0, .ref (B + 136)), (1, .int v1)]) hx hb dX12_explain_9 rfl hl (by decide) rfl (fun ls hl => ?_)
  refine lv_aload_n hx hb dX12_explain_10 rfl (lv_at hl 2 rfl) ?_
  refine lv_iconst (v := 0) hx hb dX12_explain_11 (by decide) ?_
  obtain ⟨S1, eS1, h⟩ := ob_nm h
  refine x_put (S' := si S 136 61 0) (FS := (fs12 B)) C0 hP hS (fun S => lay_X12 B ct S) rfl inG12 tyX12 tyX12_ok nmX12 61 (by decide) wd_1202 rfl rfl (fun a ha => lay_local (gi_si_n _ _ _ ha) rfl rfl rfl) (put_12_61 B _ _) rfl rfl (Nat.le_of_ble_eq_true rfl) dX12_explain_12 (fun H locs hP hS => ?_)
  rw [← eS1] at hP
  refine lv_aload_n hx hb dX12_explain_15 rfl (lv_at hl 2 rfl) ?_
  refine lv_bipush (v := (-4)) hx hb dX12_explain_16 (by decide) ?_
  obtain ⟨S2, eS2, h⟩ := ob_nm h
  refine x_put (S' := si S1 136 62 ((-4))) (FS := (fs12 B)) C0 hP hS (fun S => lay_X12 B ct S) rfl inG12 tyX12 tyX12_ok nmX12 62 (by decide) wd_1203 rfl rfl (fun a ha => lay_local (gi_si_n _ _ _ ha) rfl rfl rfl) (put_12_62 B _ _) rfl rfl (Nat.le_of_ble_eq_true rfl) dX12_explain_18 (fun H locs hP hS => ?_)
  rw [← eS2] at hP
  refine lv_aload_n hx hb dX12_explain_21 rfl (lv_at hl 2 rfl) ?_
  refine lv_iconst (v := 0) hx hb dX12_explain_22 (by decide) ?_
  obtain ⟨S3, eS3, h⟩ := ob_nm h
  refine x_put (S' := si S2 136 63 0) (FS := (fs12 B)) C0 hP hS (fun S => lay_X12 B ct S) rfl inG12 tyX12 tyX12_ok nmX12 63 (by decide) wd_1204 rfl rfl (fun a ha => lay_local (gi_si_n _ _ _ ha) rfl rfl rfl) (put_12_63 B _ _) rfl rfl (Nat.le_of_ble_eq_true rfl) dX12_explain_23 (fun H locs hP hS => ?_)
  rw [← eS3] at hP
  refine lv_iconst (v := 0) hx hb dX12_explain_26 (by decide) ?_
  refine lv_istore (lv' := [(4, .int 0), (3, .int (gi S 136 6)), (2, .int (gi S 136 7)), (0, .ref (B + 136)), (1, .int v1)]) hx hb dX12_explain_27 hl (by decide) rfl (fun ls hl => ?_)
  exact wl_X12_explain_29 l C0 1000 v1 (gi S 136 7) (gi S 136 6) 0 S3 h hP hS (lv_sub hl [3, 4, 2, 1, 0] rfl)
set_option maxRecDepth 100000 in
set_option maxHeartbeats 4000000 in
theorem c_X12_explain (l : Launch) (a1 : Int32) {D : va_G} {ct : Nat → ClassId} {B : Nat} {Hb : Heap} {S : St} {V : St} (h : L_X12_explain a1 S = some V) : Met l yX12_explain (Cond.code yX12_explain cX12_explain 6 none :: tG) { frames := 8, cells := 0, slots := 0, locals := 182 } (va_Pc [.ref (B + 136), .int a1] (MPK D ct B Hb S)) (qVw D ct B Hb V) 0 0 (AB B) := by
  refine mk_met (by decide +kernel) (Nat.le_of_ble_eq_true rfl) (fun p e s m args below meth c ls C0 hP hl _ => ?_)
  have h := ob_of h
  exact w_X12_explain_0 l C0 a1 S h hP va_S.rf (lv_sub hl [0, 1] rfl)
set_option maxRecDepth 100000 in
set_option maxHeartbeats 4000000 in
theorem w_X12_explained_24 (l : Launch) {V : Int32 × St} (C0 : XC D ct p s m args meth c cX12_explained 4 (some .int) RX12) (v1 : Int32) (v2 : Int32) (s0 : Int32) (S : St) {H : Heap} {locs : List Loc} {ls : Array Slot} (h : (b_X12_explained_24 v1 v2 s0 S).bind some = some V) (hP : MP D ct B Hb S H) (hS : va_S (AB B) s.heap H locs) (hl : lv_has ls 4 [(0, .ref (B + 136)), (1, .int v1), (2, .int v2)]) : W p l e { frames := 9, cells := 0, slots := 0, locals := 207 } s m args below meth c H locs 0 0 (MQ below (qIw D ct B Hb V) args s 0 0 (AB B)) (F0 m 24 ls [.int s0]) := by
  obtain ⟨hx, hb, hr, hml, hown, hts, hK, hlocks, hN⟩ := id C0
  unfold b_X12_explained_24 at h
  refine lv_istore_n (lv' := [(3, .int s0), (0, .ref (B + 136)), (1, .int v1), (2, .int v2)]) hx hb dX12_explained_24 rfl hl (by decide) rfl (fun ls hl => ?_)
  refine lv_iload_n hx hb dX12_explained_25 rfl (lv_at hl 0 rfl) ?_
  refine lv_if_ge (tgt := 31) hx hb dX12_explained_26 (by decide) (fun z1 => ?_) (fun z1 => ?_)
  · have h := ob_t h z1
    refine lv_aload_n hx hb dX12_explained_31 rfl (lv_at hl 1 rfl) ?_
    refine lv_iload_n hx hb dX12_explained_32 rfl (lv_at hl 2 rfl) ?_
    obtain ⟨r2, hr2, h⟩ := ob_bd h
    refine n_Vw (kV (As := [.int v1]) C0 (c_X12_explain l v1 hr2) ⟨wd_1731, wd_1728, wd_1730, wp_67, wd_6⟩ kd_X12_explain ⟨Nat.le_of_ble_eq_true rfl, Nat.le_of_ble_eq_true rfl⟩ hP (lay_X12 B ct S) rfl rfl hl.1 rfl (Nat.le_of_ble_eq_true rfl) dX12_explained_33 ⟨Nat.le_of_ble_eq_true rfl, Nat.le_of_ble_eq_true rfl⟩) hS (fun H locs hP hS => ?_)
    refine lv_iload_n hx hb dX12_explained_36 rfl (lv_at hl 3 rfl) ?_
    refine lv_if_ne (tgt := 47) hx hb dX12_explained_37 (by decide) (fun z3 => ?_) (fun z3 => ?_)
    · have h := ob_f h z3
      refine lv_aload_n hx hb dX12_explained_47 rfl (lv_at hl 1 rfl) ?_
      refine x_get C0 hP (lay_X12 B ct r2) rfl inG12 62 (by decide) wd_1203 (fun _ h => h) rfl dX12_explained_48 ?_
      exact r_Iw C0 hP hS h dX12_explained_51
    · have h := ob_t h z3
      refine lv_aload_n hx hb dX12_explained_40 rfl (lv_at hl 1 rfl) ?_
      refine x_get C0 hP (lay_X12 B ct r2) rfl inG12 61 (by decide) wd_1202 (fun _ h => h) rfl dX12_explained_41 ?_
      refine lv_goto (tgt := 51) hx hb dX12_explained_44 (by decide) ?_
      exact r_Iw C0 hP hS h dX12_explained_51
  · have h := ob_f h z1
    refine lv_iload_n hx hb dX12_explained_29 rfl (lv_at hl 0 rfl) ?_
    exact r_Iw C0 hP hS h dX12_explained_30
set_option maxRecDepth 100000 in
set_option maxHeartbeats 4000000 in
theorem w_X12_explained_0 (l : Launch) {V : Int32 × St} (C0 : XC D ct p s m args meth c cX12_explained 4 (some .int) RX12) (v1 : Int32) (v2 : Int32) (S : St) {H : Heap} {locs : List Loc} {ls : Array Slot} (h : (b_X12_explained_0 v1 v2 S).bind some = some V) (hP : MP D ct B Hb S H) (hS : va_S (AB B) s.heap H locs) (hl : lv_has ls 4 [(0, .ref (B + 136)), (1, .int v1), (2, .int v2)]) : W p l e { frames := 9, cells := 0, slots := 0, locals := 207 } s m args below meth c H locs 0 0 (MQ below (qIw D ct B Hb V) args s 0 0 (AB B)) (F0 m 0 ls []) := by
  obtain ⟨hx, hb, hr, hml, hown, hts, hK, hlocks, hN⟩ := id C0
  unfold b_X12_explained_0 at h
  refine lv_aload_n hx hb dX12_explained_0 rfl (lv_at hl 0 rfl) ?_
  refine lv_iconst (v := 0) hx hb dX12_explained_1 (by decide) ?_
  obtain ⟨S1, eS1, h⟩ := ob_nm h
  refine x_put (S' := si S 136 28 0) (FS := (fs12 B)) C0 hP hS (fun S => lay_X12 B ct S) rfl inG12 tyX12 tyX12_ok nmX12 28 (by decide) wd_1169 rfl rfl (fun a ha => lay_local (gi_si_n _ _ _ ha) rfl rfl rfl) (put_12_28 B _ _) rfl rfl (Nat.le_of_ble_eq_true rfl) dX12_explained_2 (fun H locs hP hS => ?_)
  rw [← eS1] at hP
  refine lv_iload_n hx hb dX12_explained_5 rfl (lv_at hl 2 rfl) ?_
  refine lv_i2l hx hb dX12_explained_6 rfl ?_
  refine lv_lconst (v := 0) hx hb dX12_explained_7 (by decide) ?_
  refine lv_lconst (v := 1) hx hb dX12_explained_8 (by decide) ?_
  obtain ⟨r2, hr2, h⟩ := ob_bd h
  refine n_I (kS (As := [.long v2.toInt64, .long 0, .long 1]) C0 (c_X12_in l v2.toInt64 0 1 hr2) ⟨wd_1370, wd_1368, wd_1369, wd_6⟩ kd_X12_in ⟨Nat.le_of_ble_eq_true rfl, Nat.le_of_ble_eq_true rfl⟩ hP rfl hl.1 rfl (Nat.le_of_ble_eq_true rfl) dX12_explained_9 ⟨Nat.le_of_ble_eq_true rfl, Nat.le_of_ble_eq_true rfl⟩) hS (fun H locs hP hS => ?_)
  refine lv_if_eq (tgt := 23) hx hb dX12_explained_12 (by decide) (fun z3 => ?_) (fun z3 => ?_)
  · have h := ob_t h z3
    refine lv_iconst (v := (-1)) hx hb dX12_explained_23 (by decide) ?_
    exact w_X12_explained_24 l C0 v1 v2 ((-1)) S1 h hP hS (lv_sub hl [0, 1, 2] rfl)
  · have h := ob_f h z3
    refine lv_aload_n hx hb dX12_explained_15 rfl (lv_at hl 0 rfl) ?_
    refine lv_iload_n hx hb dX12_explained_16 rfl (lv_at hl 1 rfl) ?_
    obtain ⟨r4, hr4, h⟩ := ob_bd h
    refine n_I (kV (As := [.int v1]) C0 (c_X12_wrongChoices l v1 hr4) ⟨wd_1727, wd_1724, wd_1726, wp_66, wd_6⟩ kd_X12_wrongChoices ⟨Nat.le_of_ble_eq_true rfl, Nat.le_of_ble_eq_true rfl⟩ hP (lay_X12 B ct S1) rfl rfl hl.1 rfl (Nat.le_of_ble_eq_true rfl) dX12_explained_17 ⟨Nat.le_of_ble_eq_true rfl, Nat.le_of_ble_eq_true rfl⟩) hS (fun H locs hP hS => ?_)
    refine lv_goto (tgt := 24) hx hb dX12_explained_20 (by decide) ?_
    exact w_X12_explained_24 l C0 v1 v2 r4 S1 h hP hS (lv_sub hl [0, 1, 2] rfl)
set_option maxRecDepth 100000 in
set_option maxHeartbeats 4000000 in
theorem c_X12_explained (l : Launch) (a1 : Int32) (a2 : Int32) {D : va_G} {ct : Nat → ClassId} {B : Nat} {Hb : Heap} {S : St} {V : Int32 × St} (h : L_X12_explained a1 a2 S = some V) : Met l yX12_explained (Cond.code yX12_explained cX12_explained 4 (some .int) :: tG) { frames := 9, cells := 0, slots := 0, locals := 207 } (va_Pc [.ref (B + 136), .int a1, .int a2] (MPK D ct B Hb S)) (qIw D ct B Hb V) 0 0 (AB B) := by
  refine mk_met (by decide +kernel) (Nat.le_of_ble_eq_true rfl) (fun p e s m args below meth c ls C0 hP hl _ => ?_)
  have h := ob_of h
  exact w_X12_explained_0 l C0 a1 a2 S h hP va_S.rf (lv_sub hl [0, 1, 2] rfl)
set_option maxRecDepth 100000 in
set_option maxHeartbeats 4000000 in
theorem w_X12_forged_0 (l : Launch) {V : Int32 × St} (C0 : XC D ct p s m args meth c cX12_forged 3 (some .int) RX12) (v1 : Int32) (S : St) {H : Heap} {locs : List Loc} {ls : Array Slot} (h : (b_X12_forged_0 v1 S).bind some = some V) (hP : MP D ct B Hb S H) (hS : va_S (AB B) s.heap H locs) (hl : lv_has ls 3 [(0, .ref (B + 136)), (1, .int v1)]) : W p l e { frames := 9, cells := 0, slots := 0, locals := 207 } s m args below meth c H locs 0 0 (MQ below (qIw D ct B Hb V) args s 0 0 (AB B)) (F0 m 0 ls []) := by
  obtain ⟨hx, hb, hr, hml, hown, hts, hK, hlocks, hN⟩ := id C0
  unfold b_X12_forged_0 at h
  refine lv_aload_n hx hb dX12_forged_0 rfl (lv_at hl 0 rfl) ?_
  refine lv_iconst (v := 0) hx hb dX12_forged_1 (by decide) ?_
  obtain ⟨S1, eS1, h⟩ := ob_nm h
  refine x_put (S' := si S 136 28 0) (FS := (fs12 B)) C0 hP hS (fun S => lay_X12 B ct S) rfl inG12 tyX12 tyX12_ok nmX12 28 (by decide) wd_1169 rfl rfl (fun a ha => lay_local (gi_si_n _ _ _ ha) rfl rfl rfl) (put_12_28 B _ _) rfl rfl (Nat.le_of_ble_eq_true rfl) dX12_forged_2 (fun H locs hP hS => ?_)
  rw [← eS1] at hP
  refine lv_aload_n hx hb dX12_forged_5 rfl (lv_at hl 0 rfl) ?_
  refine lv_iload_n hx hb dX12_forged_6 rfl (lv_at hl 1 rfl) ?_
  obtain ⟨r2, hr2, h⟩ := ob_bd h
  refine n_I (kV (As := [.int v1]) C0 (c_X12_wrongChoices l v1 hr2) ⟨wd_1727, wd_1724, wd_1726, wp_66, wd_6⟩ kd_X12_wrongChoices ⟨Nat.le_of_ble_eq_true rfl, Nat.le_of_ble_eq_true rfl⟩ hP (lay_X12 B ct S1) rfl rfl hl.1 rfl (Nat.le_of_ble_eq_true rfl) dX12_forged_7 ⟨Nat.le_of_ble_eq_true rfl, Nat.le_of_ble_eq_true rfl⟩) hS (fun H locs hP hS => ?_)
  refine lv_istore_n (lv' := [(2, .int r2), (0, .ref (B + 136)), (1, .int v1)]) hx hb dX12_forged_10 rfl hl (by decide) rfl (fun ls hl => ?_)
  refine lv_iload_n hx hb dX12_forged_11 rfl (lv_at hl 0 rfl) ?_
  refine lv_if_ge (tgt := 17) hx hb dX12_forged_12 (by decide) (fun z3 => ?_) (fun z3 => ?_)
  · have h := ob_t h z3
    refine lv_aload_n hx hb dX12_forged_17 rfl (lv_at hl 1 rfl) ?_
    refine lv_iload_n hx hb dX12_forged_18 rfl (lv_at hl 2 rfl) ?_
    obtain ⟨r4, hr4, h⟩ := ob_bd h
    refine n_Vw (kV (As := [.int v1]) C0 (c_X12_explain l v1 hr4) ⟨wd_1731, wd_1728, wd_1730, wp_67, wd_6⟩ kd_X12_explain ⟨Nat.le_of_ble_eq_true rfl, Nat.le_of_ble_eq_true rfl⟩ hP (lay_X12 B ct S1) rfl rfl hl.1 rfl (Nat.le_of_ble_eq_true rfl) dX12_forged_19 ⟨Nat.le_of_ble_eq_true rfl, Nat.le_of_ble_eq_true rfl⟩) hS (fun H locs hP hS => ?_)
    refine lv_aload_n hx hb dX12_forged_22 rfl (lv_at hl 1 rfl) ?_
    refine x_get C0 hP (lay_X12 B ct r4) rfl inG12 61 (by decide) wd_1202 (fun _ h => h) rfl dX12_forged_23 ?_
    refine lv_if_le (tgt := 34) hx hb dX12_forged_26 (by decide) (fun z5 => ?_) (fun z5 => ?_)
    · have h := ob_t h z5
      refine lv_aload_n hx hb dX12_forged_34 rfl (lv_at hl 1 rfl) ?_
      refine x_get C0 hP (lay_X12 B ct r4) rfl inG12 63 (by decide) wd_1204 (fun _ h => h) rfl dX12_forged_35 ?_
      exact r_Iw C0 hP hS h dX12_forged_38
    · have h := ob_f h z5
      refine lv_bipush (v := (-4)) hx hb dX12_forged_29 (by decide) ?_
      refine lv_goto (tgt := 38) hx hb dX12_forged_31 (by decide) ?_
      exact r_Iw C0 hP hS h dX12_forged_38
  · have h := ob_f h z3
    refine lv_iload_n hx hb dX12_forged_15 rfl (lv_at hl 0 rfl) ?_
    exact r_Iw C0 hP hS h dX12_forged_16
set_option maxRecDepth 100000 in
set_option maxHeartbeats 4000000 in
theorem c_X12_forged (l : Launch) (a1 : Int32) {D : va_G} {ct : Nat → ClassId} {B : Nat} {Hb : Heap} {S : St} {V : Int32 × St} (h : L_X12_forged a1 S = some V) : Met l yX12_forged (Cond.code yX12_forged cX12_forged 3 (some .int) :: tG) { frames := 9, cells := 0, slots := 0, locals := 207 } (va_Pc [.ref (B + 136), .int a1] (MPK D ct B Hb S)) (qIw D ct B Hb V) 0 0 (AB B) := by
  refine mk_met (by decide +kernel) (Nat.le_of_ble_eq_true rfl) (fun p e s m args below meth c ls C0 hP hl _ => ?_)
  have h := ob_of h
  exact w_X12_forged_0 l C0 a1 S h hP va_S.rf (lv_sub hl [0, 1] rfl)
set_option maxRecDepth 100000 in
set_option maxHeartbeats 4000000 in
theorem w_X12_judge_112 (l : Launch) {V : Int32 × St} (C0 : XC D ct p s m args meth c cX12_judge 7 (some .int) RX12) (n0 : Nat) (ih0 : ∀ (v1 : Int32) (v2 : Int32) (v4 : Int32) (S : St) (H : Heap) (locs : List Loc) (ls : Array Slot), (lp n0 (l_X12_judge_36) (v1, v2, v4, S)).bind some = some V → MP D ct B Hb S H → va_S (AB B) s.heap H locs → lv_has ls 7 [(0, .ref (B + 136)), (1, .int v1), (2, .int v2), (4, .int v4)] → W p l e { frames := 7, cells := 0, slots := 0, locals := 160 } s m args below meth c H locs 0 0 (MQ below (qIw D ct B Hb V) args s 0 0 (AB B)) (F0 m 36 ls [])) (v1 : Int32) (v2 : Int32) (v4 : Int32) (S : St) {H : Heap} {locs : List Loc} {ls : Array Slot} (h : (b_X12_judge_112 v1 v2 v4 S).bind (lpF n0 (l_X12_judge_36) some) = some V) (hP : MP D ct B Hb S H) (hS : va_S (AB B) s.heap H locs) (hl : lv_has ls 7 [(0, .ref (B + 136)), (1, .int v1), (2, .int v2), (4, .int v4)]) : W p l e { frames := 7, cells := 0, slots := 0, locals := 160 } s m args below meth c H locs 0 0 (MQ below (qIw D ct B Hb V) args s 0 0 (AB B)) (F0 m 112 ls []) := by
  obtain ⟨hx, hb, hr, hml, hown, hts, hK, hlocks, hN⟩ := id C0
  unfold b_X12_judge_112 at h
  refine lv_iinc (v := v4 + 1) (lv' := [(4, .int (v4 + 1)), (0, .ref (B + 136)), (1, .int v1), (2, .int v2)]) hx hb dX12_judge_112 hl (k := 3) rfl rfl (by decide) rfl (fun ls hl => ?_)
  refine lv_goto (tgt := 36) hx hb dX12_judge_115 (by decide) ?_
  exact ih0 v1 v2 (v4 + 1) S _ _ _ h hP hS (lv_sub hl [1, 2, 3, 0] rfl)
set_option maxRecDepth 100000 in
set_option maxHeartbeats 4000000 in
theorem w_X12_judge_103 (l : Launch) {V : Int32 × St} (C0 : XC D ct p s m args meth c cX12_judge 7 (some .int) RX12) (n0 : Nat) (ih0 : ∀ (v1 : Int32) (v2 : Int32) (v4 : Int32) (S : St) (H : Heap) (locs : List Loc) (ls : Array Slot), (lp n0 (l_X12_judge_36) (v1, v2, v4, S)).bind some = some V → MP D ct B Hb S H → va_S (AB B) s.heap H locs → lv_has ls 7 [(0, .ref (B + 136)), (1, .int v1), (2, .int v2), (4, .int v4)] → W p l e { frames := 7, cells := 0, slots := 0, locals := 160 } s m args below meth c H locs 0 0 (MQ below (qIw D ct B Hb V) args s 0 0 (AB B)) (F0 m 36 ls [])) (v1 : Int32) (v2 : Int32) (v4 : Int32) (s0 : Int32) (s2 : Int64) (S : St) {H : Heap} {locs : List Loc} {ls : Array Slot} (h : (b_X12_judge_103 v1 v2 v4 s0 s2 S).bind (lpF n0 (l_X12_judge_36) some) = some V) (hP : MP D ct B Hb S H) (hS : va_S (AB B) s.heap H locs) (hl : lv_has ls 7 [(0, .ref (B + 136)), (1, .int v1), (2, .int v2), (4, .int v4)]) : W p l e { frames := 7, cells := 0, slots := 0, locals := 160 } s m args below meth c H locs 0 0 (MQ below (qIw D ct B Hb V) args s 0 0 (AB B)) (F0 m 103 ls [.int s0, .ref (B + 171), .long s2]) := by
  obtain ⟨hx, hb, hr, hml, hown, hts, hK, hlocks, hN⟩ := id C0
  unfold b_X12_judge_103 at h
  obtain ⟨g1, h⟩ := ob_gd h
  refine x_iald C0 hP ((fun S => lay_171 B ct S) S) g1 dX12_judge_103 ?_
  refine lv_i2l hx hb dX12_judge_104 rfl ?_
  refine W.lcmp hx hb dX12_judge_105 ?_
  refine lv_if_eq (tgt := 112) hx hb dX12_judge_106 (by decide) (fun z2 => ?_) (fun z2 => ?_)
  · have h := ob_t h z2
    exact w_X12_judge_112 l C0 n0 ih0 v1 v2 v4 S h hP hS (lv_sub hl [0, 1, 2, 3] rfl)
  · have h := ob_f h z2
    refine lv_iload hx hb dX12_judge_109 (lv_at hl 3 rfl) ?_
    exact r_Iw C0 hP hS h dX12_judge_111
set_option maxRecDepth 100000 in
set_option maxHeartbeats 4000000 in
theorem w_X12_judge_36 (l : Launch) {V : Int32 × St} (C0 : XC D ct p s m args meth c cX12_judge 7 (some .int) RX12) (n0 : Nat) (ih0 : ∀ (v1 : Int32) (v2 : Int32) (v4 : Int32) (S : St) (H : Heap) (locs : List Loc) (ls : Array Slot), (lp n0 (l_X12_judge_36) (v1, v2, v4, S)).bind some = some V → MP D ct B Hb S H → va_S (AB B) s.heap H locs → lv_has ls 7 [(0, .ref (B + 136)), (1, .int v1), (2, .int v2), (4, .int v4)] → W p l e { frames := 7, cells := 0, slots := 0, locals := 160 } s m args below meth c H locs 0 0 (MQ below (qIw D ct B Hb V) args s 0 0 (AB B)) (F0 m 36 ls [])) (v1 : Int32) (v2 : Int32) (v4 : Int32) (S : St) {H : Heap} {locs : List Loc} {ls : Array Slot} (h : (b_X12_judge_36 v1 v2 v4 S).bind (lpF n0 (l_X12_judge_36) some) = some V) (hP : MP D ct B Hb S H) (hS : va_S (AB B) s.heap H locs) (hl : lv_has ls 7 [(0, .ref (B + 136)), (1, .int v1), (2, .int v2), (4, .int v4)]) : W p l e { frames := 7, cells := 0, slots := 0, locals := 160 } s m args below meth c H locs 0 0 (MQ below (qIw D ct B Hb V) args s 0 0 (AB B)) (F0 m 36 ls []) := by
  obtain ⟨hx, hb, hr, hml, hown, hts, hK, hlocks, hN⟩ := id C0
  unfold b_X12_judge_36 at h
  refine lv_iload hx hb dX12_judge_36 (lv_at hl 3 rfl) ?_
  refine lv_aload_n hx hb dX12_judge_38 rfl (lv_at hl 0 rfl) ?_
  refine x_get C0 hP (lay_X12 B ct S) rfl inG12 26 (by decide) wd_1167 (fun _ h => h) rfl dX12_judge_39 ?_
  refine lv_iload_n hx hb dX12_judge_42 rfl (lv_at hl 2 rfl) ?_
  obtain ⟨g1, h⟩ := ob_gd h
  refine x_iald C0 hP ((fun S => lay_157 B ct S) S) g1 dX12_judge_43 ?_
  refine lv_icmp_ge (tgt := 118) hx hb dX12_judge_44 (by decide) (fun z2 => ?_) (fun z2 => ?_)
  · have h := ob_t h z2
    refine lv_bipush (v := (-4)) hx hb dX12_judge_118 (by decide) ?_
    exact r_Iw C0 hP hS h dX12_judge_120
  · have h := ob_f h z2
    refine lv_aload_n hx hb dX12_judge_47 rfl (lv_at hl 0 rfl) ?_
    refine x_get C0 hP (lay_X12 B ct S) rfl inG12 27 (by decide) wd_1168 (fun _ h => h) rfl dX12_judge_48 ?_
    refine lv_bipush (v := 100) hx hb dX12_judge_51 (by decide) ?_
    refine lv_iload_n hx hb dX12_judge_53 rfl (lv_at hl 2 rfl) ?_
    refine lv_imul hx hb dX12_judge_54 ?_
    refine lv_iload hx hb dX12_judge_55 (lv_at hl 3 rfl) ?_
    refine lv_iadd hx hb dX12_judge_57 ?_
    obtain ⟨g3, h⟩ := ob_gd h
    refine x_lald C0 hP ((fun S => lay_158 B ct S) S) g3 dX12_judge_58 ?_
    refine lv_lstore (lv' := [(5, .long (gl S 158 ((100 * v2) + v4).toNatClampNeg)), (0, .ref (B + 136)), (1, .int v1), (2, .int v2), (4, .int v4)]) hx hb dX12_judge_59 hl (by decide) rfl (fun ls hl => ?_)
    refine lv_lload hx hb dX12_judge_61 (lv_at hl 0 rfl) ?_
    refine lv_aload_n hx hb dX12_judge_63 rfl (lv_at hl 1 rfl) ?_
    refine lv_iload_n hx hb dX12_judge_64 rfl (lv_at hl 3 rfl) ?_
    obtain ⟨r4, hr4, h⟩ := ob_bd h
    refine n_L (kV (As := [.int v2]) C0 (c_X12_skipped l v2 hr4) ⟨wd_1739, wd_1736, wd_1738, wp_69, wd_6⟩ kd_X12_skipped ⟨Nat.le_of_ble_eq_true rfl, Nat.le_of_ble_eq_true rfl⟩ hP (lay_X12 B ct S) rfl rfl hl.1 rfl (Nat.le_of_ble_eq_true rfl) dX12_judge_65 ⟨Nat.le_of_ble_eq_true rfl, Nat.le_of_ble_eq_true rfl⟩) hS (fun H locs hP hS => ?_)
    refine W.lcmp hx hb dX12_judge_68 ?_
    refine lv_if_eq (tgt := 112) hx hb dX12_judge_69 (by decide) (fun z5 => ?_) (fun z5 => ?_)
    · have h := ob_t h z5
      exact w_X12_judge_112 l C0 n0 ih0 v1 v2 v4 S h hP hS (lv_sub hl [1, 2, 3, 4] rfl)
    · have h := ob_f h z5
      refine lv_iload hx hb dX12_judge_72 (lv_at hl 4 rfl) ?_
      refine lv_bipush (v := 23) hx hb dX12_judge_74 (by decide) ?_
      refine lv_icmp_gt (tgt := 109) hx hb dX12_judge_76 (by decide) (fun z6 => ?_) (fun z6 => ?_)
      · have h := ob_t h z6
        refine lv_iload hx hb dX12_judge_109 (lv_at hl 4 rfl) ?_
        exact r_Iw C0 hP hS h dX12_judge_111
      · have h := ob_f h z6
        refine lv_lload hx hb dX12_judge_79 (lv_at hl 0 rfl) ?_
        refine lv_aload_n hx hb dX12_judge_81 rfl (lv_at hl 1 rfl) ?_
        refine x_get C0 hP (lay_X12 B ct S) rfl inG12 43 (by decide) wd_1184 (fun _ h => h) rfl dX12_judge_82 ?_
        refine lv_iload hx hb dX12_judge_85 (lv_at hl 4 rfl) ?_
        refine lv_bipush (v := 23) hx hb dX12_judge_87 (by decide) ?_
        refine lv_icmp_le (tgt := 96) hx hb dX12_judge_89 (by decide) (fun z7 => ?_) (fun z7 => ?_)
        · have h := ob_t h z7
          refine lv_bipush (v := 8) hx hb dX12_judge_96 (by decide) ?_
          refine lv_iload hx hb dX12_judge_98 (lv_at hl 4 rfl) ?_
          refine lv_imul hx hb dX12_judge_100 ?_
          refine lv_iload_n hx hb dX12_judge_101 rfl (lv_at hl 2 rfl) ?_
          refine lv_iadd hx hb dX12_judge_102 ?_
          exact w_X12_judge_103 l C0 n0 ih0 v1 v2 v4 ((8 * v4) + v1) (gl S 158 ((100 * v2) + v4).toNatClampNeg) S h hP hS (lv_sub hl [1, 2, 3, 4] rfl)
        · have h := ob_f h z7
          refine lv_iload_n hx hb dX12_judge_92 rfl (lv_at hl 2 rfl) ?_
          refine lv_goto (tgt := 103) hx hb dX12_judge_93 (by decide) ?_
          exact w_X12_judge_103 l C0 n0 ih0 v1 v2 v4 v1 (gl S 158 ((100 * v2) + v4).toNatClampNeg) S h hP hS (lv_sub hl [1, 2, 3, 4] rfl)
set_option maxRecDepth 100000 in
set_option maxHeartbeats 4000000 in
theorem wl_X12_judge_36 (l : Launch) {V : Int32 × St} (C0 : XC D ct p s m args meth c cX12_judge 7 (some .int) RX12)  : ∀ (n0 : Nat) (v1 : Int32) (v2 : Int32) (v4 : Int32) (S : St) {H : Heap} {locs : List Loc} {ls : Array Slot}, (lp n0 (l_X12_judge_36) (v1, v2, v4, S)).bind some = some V → MP D ct B Hb S H → va_S (AB B) s.heap H locs → lv_has ls 7 [(0, .ref (B + 136)), (1, .int v1), (2, .int v2), (4, .int v4)] → W p l e { frames := 7, cells := 0, slots := 0, locals := 160 } s m args below meth c H locs 0 0 (MQ below (qIw D ct B Hb V) args s 0 0 (AB B)) (F0 m 36 ls []) := by
  intro n0
  induction n0 with
  | zero =>
    intro v1 v2 v4 S H locs ls h hP hS hl
    exact (lp_0 h).elim
  | succ n0 ih0 =>
    intro v1 v2 v4 S H locs ls h hP hS hl
    have h := lp_s h
    exact w_X12_judge_36 l C0 n0 (fun v1 v2 v4 S H locs ls h hP hS hl => ih0 v1 v2 v4 S h hP hS hl) v1 v2 v4 S h hP hS hl
set_option maxRecDepth 100000 in
set_option maxHeartbeats 4000000 in
theorem w_X12_judge_22 (l : Launch) {V : Int32 × St} (C0 : XC D ct p s m args meth c cX12_judge 7 (some .int) RX12) (v1 : Int32) (v2 : Int32) (s0 : Int32) (S : St) {H : Heap} {locs : List Loc} {ls : Array Slot} (h : (b_X12_judge_22 v1 v2 s0 S).bind some = some V) (hP : MP D ct B Hb S H) (hS : va_S (AB B) s.heap H locs) (hl : lv_has ls 7 [(0, .ref (B + 136)), (1, .int v1), (2, .int v2)]) : W p l e { frames := 7, cells := 0, slots := 0, locals := 160 } s m args below meth c H locs 0 0 (MQ below (qIw D ct B Hb V) args s 0 0 (AB B)) (F0 m 22 ls [.int s0]) := by
  obtain ⟨hx, hb, hr, hml, hown, hts, hK, hlocks, hN⟩ := id C0
  unfold b_X12_judge_22 at h
  refine lv_istore_n (lv' := [(3, .int s0), (0, .ref (B + 136)), (1, .int v1), (2, .int v2)]) hx hb dX12_judge_22 rfl hl (by decide) rfl (fun ls hl => ?_)
  refine lv_iload_n hx hb dX12_judge_23 rfl (lv_at hl 0 rfl) ?_
  refine lv_if_ge (tgt := 29) hx hb dX12_judge_24 (by decide) (fun z1 => ?_) (fun z1 => ?_)
  · have h := ob_t h z1
    refine lv_aload_n hx hb dX12_judge_29 rfl (lv_at hl 1 rfl) ?_
    obtain ⟨r2, hr2, h⟩ := ob_bd h
    refine n_Vw (kV (As := []) C0 (c_X12_day l hr2) ⟨wd_1539, wd_1536, wd_1538, wp_43, wd_6⟩ kd_X12_day ⟨Nat.le_of_ble_eq_true rfl, Nat.le_of_ble_eq_true rfl⟩ hP (lay_X12 B ct S) rfl rfl hl.1 rfl (Nat.le_of_ble_eq_true rfl) dX12_judge_30 ⟨Nat.le_of_ble_eq_true rfl, Nat.le_of_ble_eq_true rfl⟩) hS (fun H locs hP hS => ?_)
    refine lv_iconst (v := 0) hx hb dX12_judge_33 (by decide) ?_
    refine lv_istore (lv' := [(4, .int 0), (3, .int s0), (0, .ref (B + 136)), (1, .int v1), (2, .int v2)]) hx hb dX12_judge_34 hl (by decide) rfl (fun ls hl => ?_)
    exact wl_X12_judge_36 l C0 1000 v1 v2 0 r2 h hP hS (lv_sub hl [2, 3, 4, 0] rfl)
  · have h := ob_f h z1
    refine lv_iload_n hx hb dX12_judge_27 rfl (lv_at hl 0 rfl) ?_
    exact r_Iw C0 hP hS h dX12_judge_28
set_option maxRecDepth 100000 in
set_option maxHeartbeats 4000000 in
theorem w_X12_judge_0 (l : Launch) {V : Int32 × St} (C0 : XC D ct p s m args meth c cX12_judge 7 (some .int) RX12) (v1 : Int32) (v2 : Int32) (S : St) {H : Heap} {locs : List Loc} {ls : Array Slot} (h : (b_X12_judge_0 v1 v2 S).bind some = some V) (hP : MP D ct B Hb S H) (hS : va_S (AB B) s.heap H locs) (hl : lv_has ls 7 [(0, .ref (B + 136)), (1, .int v1), (2, .int v2)]) : W p l e { frames := 7, cells := 0, slots := 0, locals := 160 } s m args below meth c H locs 0 0 (MQ below (qIw D ct B Hb V) args s 0 0 (AB B)) (F0 m 0 ls []) := by
  obtain ⟨hx, hb, hr, hml, hown, hts, hK, hlocks, hN⟩ := id C0
  unfold b_X12_judge_0 at h
  refine lv_aload_n hx hb dX12_judge_0 rfl (lv_at hl 0 rfl) ?_
  refine lv_iconst (v := 0) hx hb dX12_judge_1 (by decide) ?_
  obtain ⟨S1, eS1, h⟩ := ob_nm h
  refine x_put (S' := si S 136 28 0) (FS := (fs12 B)) C0 hP hS (fun S => lay_X12 B ct S) rfl inG12 tyX12 tyX12_ok nmX12 28 (by decide) wd_1169 rfl rfl (fun a ha => lay_local (gi_si_n _ _ _ ha) rfl rfl rfl) (put_12_28 B _ _) rfl rfl (Nat.le_of_ble_eq_true rfl) dX12_judge_2 (fun H locs hP hS => ?_)
  rw [← eS1] at hP
  refine lv_aload_n hx hb dX12_judge_5 rfl (lv_at hl 0 rfl) ?_
  refine lv_iload_n hx hb dX12_judge_6 rfl (lv_at hl 1 rfl) ?_
  obtain ⟨r2, hr2, h⟩ := ob_bd h
  refine n_I (kV (As := [.int v1]) C0 (c_X12_isOne l v1 hr2) ⟨wd_1448, wd_1445, wd_1447, wp_37, wd_6⟩ kd_X12_isOne ⟨Nat.le_of_ble_eq_true rfl, Nat.le_of_ble_eq_true rfl⟩ hP (lay_X12 B ct S1) rfl rfl hl.1 rfl (Nat.le_of_ble_eq_true rfl) dX12_judge_7 ⟨Nat.le_of_ble_eq_true rfl, Nat.le_of_ble_eq_true rfl⟩) hS (fun H locs hP hS => ?_)
  refine lv_if_eq (tgt := 21) hx hb dX12_judge_10 (by decide) (fun z3 => ?_) (fun z3 => ?_)
  · have h := ob_t h z3
    refine lv_iconst (v := (-1)) hx hb dX12_judge_21 (by decide) ?_
    exact w_X12_judge_22 l C0 v1 v2 ((-1)) S1 h hP hS (lv_sub hl [0, 1, 2] rfl)
  · have h := ob_f h z3
    refine lv_aload_n hx hb dX12_judge_13 rfl (lv_at hl 0 rfl) ?_
    refine lv_iload_n hx hb dX12_judge_14 rfl (lv_at hl 2 rfl) ?_
    obtain ⟨r4, hr4, h⟩ := ob_bd h
    refine n_I (kV (As := [.int v2]) C0 (c_X12_wrongRow l v2 hr4) ⟨wd_1366, wd_1363, wd_1365, wp_22, wd_6⟩ kd_X12_wrongRow ⟨Nat.le_of_ble_eq_true rfl, Nat.le_of_ble_eq_true rfl⟩ hP (lay_X12 B ct S1) rfl rfl hl.1 rfl (Nat.le_of_ble_eq_true rfl) dX12_judge_15 ⟨Nat.le_of_ble_eq_true rfl, Nat.le_of_ble_eq_true rfl⟩) hS (fun H locs hP hS => ?_)
    refine lv_goto (tgt := 22) hx hb dX12_judge_18 (by decide) ?_
    exact w_X12_judge_22 l C0 v1 v2 r4 S1 h hP hS (lv_sub hl [0, 1, 2] rfl)
set_option maxRecDepth 100000 in
set_option maxHeartbeats 4000000 in
theorem c_X12_judge (l : Launch) (a1 : Int32) (a2 : Int32) {D : va_G} {ct : Nat → ClassId} {B : Nat} {Hb : Heap} {S : St} {V : Int32 × St} (h : L_X12_judge a1 a2 S = some V) : Met l yX12_judge (Cond.code yX12_judge cX12_judge 7 (some .int) :: tG) { frames := 7, cells := 0, slots := 0, locals := 160 } (va_Pc [.ref (B + 136), .int a1, .int a2] (MPK D ct B Hb S)) (qIw D ct B Hb V) 0 0 (AB B) := by
  refine mk_met (by decide +kernel) (Nat.le_of_ble_eq_true rfl) (fun p e s m args below meth c ls C0 hP hl _ => ?_)
  have h := ob_of h
  exact w_X12_judge_0 l C0 a1 a2 S h hP va_S.rf (lv_sub hl [0, 1, 2] rfl)
set_option maxRecDepth 100000 in
set_option maxHeartbeats 4000000 in
theorem w_X12_seeds_133 (l : Launch) {V : Int32 × St} (C0 : XC D ct p s m args meth c cX12_seeds 9 (some .int) RX12) (v3 : Int32) (v5 : Int32) (v6 : Int32) (S : St) {H : Heap} {locs : List Loc} {ls : Array Slot} (h : (b_X12_seeds_133 v3 v5 v6 S).bind some = some V) (hP : MP D ct B Hb S H) (hS : va_S (AB B) s.heap H locs) (hl : lv_has ls 9 [(0, .ref (B + 136)), (3, .int v3), (5, .int v5), (6, .int v6)]) : W p l e { frames := 7, cells := 0, slots := 0, locals := 160 } s m args below meth c H locs 0 0 (MQ below (qIw D ct B Hb V) args s 0 0 (AB B)) (F0 m 133 ls []) := by
  obtain ⟨hx, hb, hr, hml, hown, hts, hK, hlocks, hN⟩ := id C0
  unfold b_X12_seeds_133 at h
  refine lv_aload_n hx hb dX12_seeds_133 rfl (lv_at hl 0 rfl) ?_
  obtain ⟨r1, hr1, h⟩ := ob_bd h
  refine n_Vw (kV (As := []) C0 (c_X12_close l hr1) ⟨wd_1440, wd_1437, wd_1439, wp_36, wd_6⟩ kd_X12_close ⟨Nat.le_of_ble_eq_true rfl, Nat.le_of_ble_eq_true rfl⟩ hP (lay_X12 B ct S) rfl rfl hl.1 rfl (Nat.le_of_ble_eq_true rfl) dX12_seeds_134 ⟨Nat.le_of_ble_eq_true rfl, Nat.le_of_ble_eq_true rfl⟩) hS (fun H locs hP hS => ?_)
  refine lv_iload_n hx hb dX12_seeds_137 rfl (lv_at hl 1 rfl) ?_
  refine lv_if_ne (tgt := 146) hx hb dX12_seeds_138 (by decide) (fun z2 => ?_) (fun z2 => ?_)
  · have h := ob_f h z2
    refine lv_iload hx hb dX12_seeds_146 (lv_at hl 3 rfl) ?_
    exact r_Iw C0 hP hS h dX12_seeds_148
  · have h := ob_t h z2
    refine lv_iload hx hb dX12_seeds_141 (lv_at hl 2 rfl) ?_
    refine lv_goto (tgt := 148) hx hb dX12_seeds_143 (by decide) ?_
    exact r_Iw C0 hP hS h dX12_seeds_148
set_option maxRecDepth 100000 in
set_option maxHeartbeats 4000000 in
theorem w_X12_seeds_104 (l : Launch) {V : Int32 × St} (C0 : XC D ct p s m args meth c cX12_seeds 9 (some .int) RX12) (n0 : Nat) (ih0 : ∀ (v1 : Int32) (v3 : Int32) (v4 : Int32) (v5 : Int32) (v6 : Int32) (v7 : Int32) (S : St) (H : Heap) (locs : List Loc) (ls : Array Slot), (lp n0 (l_X12_seeds_45) (v1, v3, v4, v5, v6, v7, S)).bind some = some V → MP D ct B Hb S H → va_S (AB B) s.heap H locs → lv_has ls 9 [(0, .ref (B + 136)), (1, .int v1), (3, .int v3), (4, .int v4), (5, .int v5), (6, .int v6), (7, .int v7)] → W p l e { frames := 7, cells := 0, slots := 0, locals := 160 } s m args below meth c H locs 0 0 (MQ below (qIw D ct B Hb V) args s 0 0 (AB B)) (F0 m 45 ls [])) (v1 : Int32) (v3 : Int32) (v4 : Int32) (v5 : Int32) (v6 : Int32) (v7 : Int32) (S : St) {H : Heap} {locs : List Loc} {ls : Array Slot} (h : (b_X12_seeds_104 v1 v3 v4 v5 v6 v7 S).bind (lpF n0 (l_X12_seeds_45) some) = some V) (hP : MP D ct B Hb S H) (hS : va_S (AB B) s.heap H locs) (hl : lv_has ls 9 [(0, .ref (B + 136)), (1, .int v1), (3, .int v3), (4, .int v4), (5, .int v5), (6, .int v6), (7, .int v7)]) : W p l e { frames := 7, cells := 0, slots := 0, locals := 160 } s m args below meth c H locs 0 0 (MQ below (qIw D ct B Hb V) args s 0 0 (AB B)) (F0 m 104 ls []) := by
  obtain ⟨hx, hb, hr, hml, hown, hts, hK, hlocks, hN⟩ := id C0
  unfold b_X12_seeds_104 at h
  refine lv_aload_n hx hb dX12_seeds_104 rfl (lv_at hl 0 rfl) ?_
  obtain ⟨r1, hr1, h⟩ := ob_bd h
  refine n_Vw (kV (As := []) C0 (c_X12_day l hr1) ⟨wd_1539, wd_1536, wd_1538, wp_43, wd_6⟩ kd_X12_day ⟨Nat.le_of_ble_eq_true rfl, Nat.le_of_ble_eq_true rfl⟩ hP (lay_X12 B ct S) rfl rfl hl.1 rfl (Nat.le_of_ble_eq_true rfl) dX12_seeds_105 ⟨Nat.le_of_ble_eq_true rfl, Nat.le_of_ble_eq_true rfl⟩) hS (fun H locs hP hS => ?_)
  refine lv_iload hx hb dX12_seeds_108 (lv_at hl 4 rfl) ?_
  refine lv_aload_n hx hb dX12_seeds_110 rfl (lv_at hl 0 rfl) ?_
  refine lv_iconst (v := 1) hx hb dX12_seeds_111 (by decide) ?_
  obtain ⟨r2, hr2, h⟩ := ob_bd h
  refine n_I (kV (As := [.int 1]) C0 (c_X12_chose l 1 hr2) ⟨wd_1597, wd_1594, wd_1596, wp_54, wd_6⟩ kd_X12_chose ⟨Nat.le_of_ble_eq_true rfl, Nat.le_of_ble_eq_true rfl⟩ hP (lay_X12 B ct r1) rfl rfl hl.1 rfl (Nat.le_of_ble_eq_true rfl) dX12_seeds_112 ⟨Nat.le_of_ble_eq_true rfl, Nat.le_of_ble_eq_true rfl⟩) hS (fun H locs hP hS => ?_)
  refine lv_iadd hx hb dX12_seeds_115 ?_
  refine lv_istore (lv' := [(5, .int (v5 + r2)), (0, .ref (B + 136)), (1, .int v1), (3, .int v3), (4, .int v4), (6, .int v6), (7, .int v7)]) hx hb dX12_seeds_116 hl (by decide) rfl (fun ls hl => ?_)
  refine lv_iload hx hb dX12_seeds_118 (lv_at hl 5 rfl) ?_
  refine lv_aload_n hx hb dX12_seeds_120 rfl (lv_at hl 1 rfl) ?_
  obtain ⟨r3, hr3, h⟩ := ob_bd h
  refine n_I (kV (As := []) C0 (c_X12_soldMany l hr3) ⟨wd_1601, wd_1598, wd_1600, wp_55, wd_6⟩ kd_X12_soldMany ⟨Nat.le_of_ble_eq_true rfl, Nat.le_of_ble_eq_true rfl⟩ hP (lay_X12 B ct r1) rfl rfl hl.1 rfl (Nat.le_of_ble_eq_true rfl) dX12_seeds_121 ⟨Nat.le_of_ble_eq_true rfl, Nat.le_of_ble_eq_true rfl⟩) hS (fun H locs hP hS => ?_)
  refine lv_iadd hx hb dX12_seeds_124 ?_
  refine lv_istore (lv' := [(6, .int (v6 + r3)), (5, .int (v5 + r2)), (0, .ref (B + 136)), (1, .int v1), (3, .int v3), (4, .int v4), (7, .int v7)]) hx hb dX12_seeds_125 hl (by decide) rfl (fun ls hl => ?_)
  refine lv_iinc (v := v7 + 1) (lv' := [(7, .int (v7 + 1)), (6, .int (v6 + r3)), (5, .int (v5 + r2)), (0, .ref (B + 136)), (1, .int v1), (3, .int v3), (4, .int v4)]) hx hb dX12_seeds_127 hl (k := 6) rfl rfl (by decide) rfl (fun ls hl => ?_)
  refine lv_goto (tgt := 45) hx hb dX12_seeds_130 (by decide) ?_
  exact ih0 v1 v3 v4 (v5 + r2) (v6 + r3) (v7 + 1) r1 _ _ _ h hP hS (lv_sub hl [3, 4, 5, 6, 2, 1, 0] rfl)
set_option maxRecDepth 100000 in
set_option maxHeartbeats 4000000 in
theorem w_X12_seeds_54 (l : Launch) {V : Int32 × St} (C0 : XC D ct p s m args meth c cX12_seeds 9 (some .int) RX12) (n0 : Nat) (ih0 : ∀ (v1 : Int32) (v3 : Int32) (v4 : Int32) (v5 : Int32) (v6 : Int32) (v7 : Int32) (S : St) (H : Heap) (locs : List Loc) (ls : Array Slot), (lp n0 (l_X12_seeds_45) (v1, v3, v4, v5, v6, v7, S)).bind some = some V → MP D ct B Hb S H → va_S (AB B) s.heap H locs → lv_has ls 9 [(0, .ref (B + 136)), (1, .int v1), (3, .int v3), (4, .int v4), (5, .int v5), (6, .int v6), (7, .int v7)] → W p l e { frames := 7, cells := 0, slots := 0, locals := 160 } s m args below meth c H locs 0 0 (MQ below (qIw D ct B Hb V) args s 0 0 (AB B)) (F0 m 45 ls [])) (n1 : Nat) (ih1 : ∀ (v1 : Int32) (v3 : Int32) (v4 : Int32) (v5 : Int32) (v6 : Int32) (v7 : Int32) (v8 : Int32) (S : St) (H : Heap) (locs : List Loc) (ls : Array Slot), (lp n1 (l_X12_seeds_54) (v1, v3, v4, v5, v6, v7, v8, S)).bind (lpF n0 (l_X12_seeds_45) some) = some V → MP D ct B Hb S H → va_S (AB B) s.heap H locs → lv_has ls 9 [(0, .ref (B + 136)), (1, .int v1), (3, .int v3), (4, .int v4), (5, .int v5), (6, .int v6), (7, .int v7), (8, .int v8)] → W p l e { frames := 7, cells := 0, slots := 0, locals := 160 } s m args below meth c H locs 0 0 (MQ below (qIw D ct B Hb V) args s 0 0 (AB B)) (F0 m 54 ls [])) (v1 : Int32) (v3 : Int32) (v4 : Int32) (v5 : Int32) (v6 : Int32) (v7 : Int32) (v8 : Int32) (S : St) {H : Heap} {locs : List Loc} {ls : Array Slot} (h : (b_X12_seeds_54 v1 v3 v4 v5 v6 v7 v8 S).bind (lpF n1 (l_X12_seeds_54) (lpF n0 (l_X12_seeds_45) some)) = some V) (hP : MP D ct B Hb S H) (hS : va_S (AB B) s.heap H locs) (hl : lv_has ls 9 [(0, .ref (B + 136)), (1, .int v1), (3, .int v3), (4, .int v4), (5, .int v5), (6, .int v6), (7, .int v7), (8, .int v8)]) : W p l e { frames := 7, cells := 0, slots := 0, locals := 160 } s m args below meth c H locs 0 0 (MQ below (qIw D ct B Hb V) args s 0 0 (AB B)) (F0 m 54 ls []) := by
  obtain ⟨hx, hb, hr, hml, hown, hts, hK, hlocks, hN⟩ := id C0
  unfold b_X12_seeds_54 at h
  refine lv_iload hx hb dX12_seeds_54 (lv_at hl 7 rfl) ?_
  refine lv_aload_n hx hb dX12_seeds_56 rfl (lv_at hl 0 rfl) ?_
  refine x_get C0 hP (lay_X12 B ct S) rfl inG12 15 (by decide) wd_1156 (fun _ h => h) rfl dX12_seeds_57 ?_
  refine lv_icmp_ge (tgt := 104) hx hb dX12_seeds_60 (by decide) (fun z1 => ?_) (fun z1 => ?_)
  · have h := ob_t h z1
    have h := ob_mp h
    exact w_X12_seeds_104 l C0 n0 ih0 v1 v3 v4 v5 v6 v7 S h hP hS (lv_sub hl [0, 1, 2, 3, 4, 5, 6] rfl)
  · have h := ob_f h z1
    refine lv_iload hx hb dX12_seeds_63 (lv_at hl 3 rfl) ?_
    refine lv_ldcw (v := 1103515245) hx hb hown (hts _ wd_1756) dX12_seeds_65 ?_
    refine lv_imul hx hb dX12_seeds_68 ?_
    refine lv_sipush (v := 12345) hx hb dX12_seeds_69 (by decide) ?_
    refine lv_iadd hx hb dX12_seeds_72 ?_
    refine lv_istore (lv' := [(4, .int ((v4 * 1103515245) + 12345)), (0, .ref (B + 136)), (1, .int v1), (3, .int v3), (5, .int v5), (6, .int v6), (7, .int v7), (8, .int v8)]) hx hb dX12_seeds_73 hl (by decide) rfl (fun ls hl => ?_)
    refine lv_aload_n hx hb dX12_seeds_75 rfl (lv_at hl 1 rfl) ?_
    refine x_get C0 hP (lay_X12 B ct S) rfl inG12 20 (by decide) wd_1161 (fun _ h => h) rfl dX12_seeds_76 ?_
    refine lv_iload hx hb dX12_seeds_79 (lv_at hl 7 rfl) ?_
    refine lv_iload hx hb dX12_seeds_81 (lv_at hl 0 rfl) ?_
    refine lv_ldcw (v := 2147483647) hx hb hown (hts _ wd_1757) dX12_seeds_83 ?_
    refine lv_iand hx hb dX12_seeds_86 ?_
    refine lv_ldcw (v := 65536) hx hb hown (hts _ wd_1758) dX12_seeds_87 ?_
    refine lv_idiv hx hb dX12_seeds_90 (by decide) ?_
    refine lv_bipush (v := 19) hx hb dX12_seeds_91 (by decide) ?_
    refine lv_irem hx hb dX12_seeds_93 (by decide) ?_
    refine lv_bipush (v := 9) hx hb dX12_seeds_94 (by decide) ?_
    refine lv_isub hx hb dX12_seeds_96 ?_
    obtain ⟨g4, h⟩ := ob_gd h
    obtain ⟨S5, eS5, h⟩ := ob_nm h
    refine x_iast C0 hP hS (fun S => lay_151 B ct S) g4 dX12_seeds_97 (fun H locs hP hS => ?_)
    rw [← eS5] at hP
    refine lv_iinc (v := v8 + 1) (lv' := [(8, .int (v8 + 1)), (4, .int ((v4 * 1103515245) + 12345)), (0, .ref (B + 136)), (1, .int v1), (3, .int v3), (5, .int v5), (6, .int v6), (7, .int v7)]) hx hb dX12_seeds_98 hl (k := 7) rfl rfl (by decide) rfl (fun ls hl => ?_)
    refine lv_goto (tgt := 54) hx hb dX12_seeds_101 (by decide) ?_
    exact ih1 v1 v3 ((v4 * 1103515245) + 12345) v5 v6 v7 (v8 + 1) S5 _ _ _ h hP hS (lv_sub hl [2, 3, 4, 1, 5, 6, 7, 0] rfl)
set_option maxRecDepth 100000 in
set_option maxHeartbeats 4000000 in
theorem wl_X12_seeds_54 (l : Launch) {V : Int32 × St} (C0 : XC D ct p s m args meth c cX12_seeds 9 (some .int) RX12) (n0 : Nat) (ih0 : ∀ (v1 : Int32) (v3 : Int32) (v4 : Int32) (v5 : Int32) (v6 : Int32) (v7 : Int32) (S : St) (H : Heap) (locs : List Loc) (ls : Array Slot), (lp n0 (l_X12_seeds_45) (v1, v3, v4, v5, v6, v7, S)).bind some = some V → MP D ct B Hb S H → va_S (AB B) s.heap H locs → lv_has ls 9 [(0, .ref (B + 136)), (1, .int v1), (3, .int v3), (4, .int v4), (5, .int v5), (6, .int v6), (7, .int v7)] → W p l e { frames := 7, cells := 0, slots := 0, locals := 160 } s m args below meth c H locs 0 0 (MQ below (qIw D ct B Hb V) args s 0 0 (AB B)) (F0 m 45 ls []))  : ∀ (n1 : Nat) (v1 : Int32) (v3 : Int32) (v4 : Int32) (v5 : Int32) (v6 : Int32) (v7 : Int32) (v8 : Int32) (S : St) {H : Heap} {locs : List Loc} {ls : Array Slot}, (lp n1 (l_X12_seeds_54) (v1, v3, v4, v5, v6, v7, v8, S)).bind (lpF n0 (l_X12_seeds_45) some) = some V → MP D ct B Hb S H → va_S (AB B) s.heap H locs → lv_has ls 9 [(0, .ref (B + 136)), (1, .int v1), (3, .int v3), (4, .int v4), (5, .int v5), (6, .int v6), (7, .int v7), (8, .int v8)] → W p l e { frames := 7, cells := 0, slots := 0, locals := 160 } s m args below meth c H locs 0 0 (MQ below (qIw D ct B Hb V) args s 0 0 (AB B)) (F0 m 54 ls []) := by
  intro n1
  induction n1 with
  | zero =>
    intro v1 v3 v4 v5 v6 v7 v8 S H locs ls h hP hS hl
    exact (lp_0 h).elim
  | succ n1 ih1 =>
    intro v1 v3 v4 v5 v6 v7 v8 S H locs ls h hP hS hl
    have h := lp_s h
    exact w_X12_seeds_54 l C0 n0 ih0 n1 (fun v1 v3 v4 v5 v6 v7 v8 S H locs ls h hP hS hl => ih1 v1 v3 v4 v5 v6 v7 v8 S h hP hS hl) v1 v3 v4 v5 v6 v7 v8 S h hP hS hl
set_option maxRecDepth 100000 in
set_option maxHeartbeats 4000000 in
theorem w_X12_seeds_45 (l : Launch) {V : Int32 × St} (C0 : XC D ct p s m args meth c cX12_seeds 9 (some .int) RX12) (n0 : Nat) (ih0 : ∀ (v1 : Int32) (v3 : Int32) (v4 : Int32) (v5 : Int32) (v6 : Int32) (v7 : Int32) (S : St) (H : Heap) (locs : List Loc) (ls : Array Slot), (lp n0 (l_X12_seeds_45) (v1, v3, v4, v5, v6, v7, S)).bind some = some V → MP D ct B Hb S H → va_S (AB B) s.heap H locs → lv_has ls 9 [(0, .ref (B + 136)), (1, .int v1), (3, .int v3), (4, .int v4), (5, .int v5), (6, .int v6), (7, .int v7)] → W p l e { frames := 7, cells := 0, slots := 0, locals := 160 } s m args below meth c H locs 0 0 (MQ below (qIw D ct B Hb V) args s 0 0 (AB B)) (F0 m 45 ls [])) (v1 : Int32) (v3 : Int32) (v4 : Int32) (v5 : Int32) (v6 : Int32) (v7 : Int32) (S : St) {H : Heap} {locs : List Loc} {ls : Array Slot} (h : (b_X12_seeds_45 v1 v3 v4 v5 v6 v7 S).bind (lpF n0 (l_X12_seeds_45) some) = some V) (hP : MP D ct B Hb S H) (hS : va_S (AB B) s.heap H locs) (hl : lv_has ls 9 [(0, .ref (B + 136)), (1, .int v1), (3, .int v3), (4, .int v4), (5, .int v5), (6, .int v6), (7, .int v7)]) : W p l e { frames := 7, cells := 0, slots := 0, locals := 160 } s m args below meth c H locs 0 0 (MQ below (qIw D ct B Hb V) args s 0 0 (AB B)) (F0 m 45 ls []) := by
  obtain ⟨hx, hb, hr, hml, hown, hts, hK, hlocks, hN⟩ := id C0
  unfold b_X12_seeds_45 at h
  refine lv_iload hx hb dX12_seeds_45 (lv_at hl 6 rfl) ?_
  refine lv_iload_n hx hb dX12_seeds_47 rfl (lv_at hl 1 rfl) ?_
  refine lv_icmp_ge (tgt := 133) hx hb dX12_seeds_48 (by decide) (fun z1 => ?_) (fun z1 => ?_)
  · have h := ob_t h z1
    have h := ob_mp h
    exact w_X12_seeds_133 l C0 v3 v5 v6 S h hP hS (lv_sub hl [0, 2, 4, 5] rfl)
  · have h := ob_f h z1
    refine lv_iconst (v := 0) hx hb dX12_seeds_51 (by decide) ?_
    refine lv_istore (lv' := [(8, .int 0), (0, .ref (B + 136)), (1, .int v1), (3, .int v3), (4, .int v4), (5, .int v5), (6, .int v6), (7, .int v7)]) hx hb dX12_seeds_52 hl (by decide) rfl (fun ls hl => ?_)
    exact wl_X12_seeds_54 l C0 n0 ih0 1000 v1 v3 v4 v5 v6 v7 0 S h hP hS (lv_sub hl [1, 2, 3, 4, 5, 6, 7, 0] rfl)
set_option maxRecDepth 100000 in
set_option maxHeartbeats 4000000 in
theorem wl_X12_seeds_45 (l : Launch) {V : Int32 × St} (C0 : XC D ct p s m args meth c cX12_seeds 9 (some .int) RX12)  : ∀ (n0 : Nat) (v1 : Int32) (v3 : Int32) (v4 : Int32) (v5 : Int32) (v6 : Int32) (v7 : Int32) (S : St) {H : Heap} {locs : List Loc} {ls : Array Slot}, (lp n0 (l_X12_seeds_45) (v1, v3, v4, v5, v6, v7, S)).bind some = some V → MP D ct B Hb S H → va_S (AB B) s.heap H locs → lv_has ls 9 [(0, .ref (B + 136)), (1, .int v1), (3, .int v3), (4, .int v4), (5, .int v5), (6, .int v6), (7, .int v7)] → W p l e { frames := 7, cells := 0, slots := 0, locals := 160 } s m args below meth c H locs 0 0 (MQ below (qIw D ct B Hb V) args s 0 0 (AB B)) (F0 m 45 ls []) := by
  intro n0
  induction n0 with
  | zero =>
    intro v1 v3 v4 v5 v6 v7 S H locs ls h hP hS hl
    exact (lp_0 h).elim
  | succ n0 ih0 =>
    intro v1 v3 v4 v5 v6 v7 S H locs ls h hP hS hl
    have h := lp_s h
    exact w_X12_seeds_45 l C0 n0 (fun v1 v3 v4 v5 v6 v7 S H locs ls h hP hS hl => ih0 v1 v3 v4 v5 v6 v7 S h hP hS hl) v1 v3 v4 v5 v6 v7 S h hP hS hl
set_option maxRecDepth 100000 in
set_option maxHeartbeats 4000000 in
theorem w_X12_seeds_0 (l : Launch) {V : Int32 × St} (C0 : XC D ct p s m args meth c cX12_seeds 9 (some .int) RX12) (v1 : Int32) (v2 : Int32) (v3 : Int32) (S : St) {H : Heap} {locs : List Loc} {ls : Array Slot} (h : (b_X12_seeds_0 v1 v2 v3 S).bind some = some V) (hP : MP D ct B Hb S H) (hS : va_S (AB B) s.heap H locs) (hl : lv_has ls 9 [(0, .ref (B + 136)), (1, .int v1), (2, .int v2), (3, .int v3)]) : W p l e { frames := 7, cells := 0, slots := 0, locals := 160 } s m args below meth c H locs 0 0 (MQ below (qIw D ct B Hb V) args s 0 0 (AB B)) (F0 m 0 ls []) := by
  obtain ⟨hx, hb, hr, hml, hown, hts, hK, hlocks, hN⟩ := id C0
  unfold b_X12_seeds_0 at h
  refine lv_aload_n hx hb dX12_seeds_0 rfl (lv_at hl 0 rfl) ?_
  refine lv_iconst (v := 0) hx hb dX12_seeds_1 (by decide) ?_
  obtain ⟨S1, eS1, h⟩ := ob_nm h
  refine x_put (S' := si S 136 28 0) (FS := (fs12 B)) C0 hP hS (fun S => lay_X12 B ct S) rfl inG12 tyX12 tyX12_ok nmX12 28 (by decide) wd_1169 rfl rfl (fun a ha => lay_local (gi_si_n _ _ _ ha) rfl rfl rfl) (put_12_28 B _ _) rfl rfl (Nat.le_of_ble_eq_true rfl) dX12_seeds_2 (fun H locs hP hS => ?_)
  rw [← eS1] at hP
  refine lv_iload_n hx hb dX12_seeds_5 rfl (lv_at hl 1 rfl) ?_
  refine lv_i2l hx hb dX12_seeds_6 rfl ?_
  refine lv_lconst (v := 1) hx hb dX12_seeds_7 (by decide) ?_
  refine lv_ldc2 (v := 20) hx hb hown (hts _ wd_1755) dX12_seeds_8 ?_
  obtain ⟨r2, hr2, h⟩ := ob_bd h
  refine n_I (kS (As := [.long v1.toInt64, .long 1, .long 20]) C0 (c_X12_in l v1.toInt64 1 20 hr2) ⟨wd_1370, wd_1368, wd_1369, wd_6⟩ kd_X12_in ⟨Nat.le_of_ble_eq_true rfl, Nat.le_of_ble_eq_true rfl⟩ hP rfl hl.1 rfl (Nat.le_of_ble_eq_true rfl) dX12_seeds_11 ⟨Nat.le_of_ble_eq_true rfl, Nat.le_of_ble_eq_true rfl⟩) hS (fun H locs hP hS => ?_)
  refine lv_if_eq (tgt := 27) hx hb dX12_seeds_14 (by decide) (fun z3 => ?_) (fun z3 => ?_)
  · have h := ob_t h z3
    refine lv_iconst (v := (-1)) hx hb dX12_seeds_27 (by decide) ?_
    exact r_Iw C0 hP hS h dX12_seeds_28
  · have h := ob_f h z3
    refine lv_iload_n hx hb dX12_seeds_17 rfl (lv_at hl 3 rfl) ?_
    refine lv_i2l hx hb dX12_seeds_18 rfl ?_
    refine lv_lconst (v := 0) hx hb dX12_seeds_19 (by decide) ?_
    refine lv_lconst (v := 1) hx hb dX12_seeds_20 (by decide) ?_
    obtain ⟨r4, hr4, h⟩ := ob_bd h
    refine n_I (kS (As := [.long v3.toInt64, .long 0, .long 1]) C0 (c_X12_in l v3.toInt64 0 1 hr4) ⟨wd_1370, wd_1368, wd_1369, wd_6⟩ kd_X12_in ⟨Nat.le_of_ble_eq_true rfl, Nat.le_of_ble_eq_true rfl⟩ hP rfl hl.1 rfl (Nat.le_of_ble_eq_true rfl) dX12_seeds_21 ⟨Nat.le_of_ble_eq_true rfl, Nat.le_of_ble_eq_true rfl⟩) hS (fun H locs hP hS => ?_)
    refine lv_if_ne (tgt := 29) hx hb dX12_seeds_24 (by decide) (fun z5 => ?_) (fun z5 => ?_)
    · have h := ob_f h z5
      refine lv_iload_n hx hb dX12_seeds_29 rfl (lv_at hl 2 rfl) ?_
      refine lv_istore (lv' := [(4, .int v2), (0, .ref (B + 136)), (1, .int v1), (2, .int v2), (3, .int v3)]) hx hb dX12_seeds_30 hl (by decide) rfl (fun ls hl => ?_)
      refine lv_iconst (v := 0) hx hb dX12_seeds_32 (by decide) ?_
      refine lv_istore (lv' := [(5, .int 0), (4, .int v2), (0, .ref (B + 136)), (1, .int v1), (2, .int v2), (3, .int v3)]) hx hb dX12_seeds_33 hl (by decide) rfl (fun ls hl => ?_)
      refine lv_iconst (v := 0) hx hb dX12_seeds_35 (by decide) ?_
      refine lv_istore (lv' := [(6, .int 0), (5, .int 0), (4, .int v2), (0, .ref (B + 136)), (1, .int v1), (2, .int v2), (3, .int v3)]) hx hb dX12_seeds_36 hl (by decide) rfl (fun ls hl => ?_)
      refine lv_aload_n hx hb dX12_seeds_38 rfl (lv_at hl 3 rfl) ?_
      obtain ⟨r6, hr6, h⟩ := ob_bd h
      refine n_Vw (kV (As := []) C0 (c_X12_open l hr6) ⟨wd_1399, wd_1396, wd_1398, wp_28, wd_6⟩ kd_X12_open ⟨Nat.le_of_ble_eq_true rfl, Nat.le_of_ble_eq_true rfl⟩ hP (lay_X12 B ct S1) rfl rfl hl.1 rfl (Nat.le_of_ble_eq_true rfl) dX12_seeds_39 ⟨Nat.le_of_ble_eq_true rfl, Nat.le_of_ble_eq_true rfl⟩) hS (fun H locs hP hS => ?_)
      refine lv_iconst (v := 0) hx hb dX12_seeds_42 (by decide) ?_
      refine lv_istore (lv' := [(7, .int 0), (6, .int 0), (5, .int 0), (4, .int v2), (0, .ref (B + 136)), (1, .int v1), (2, .int v2), (3, .int v3)]) hx hb dX12_seeds_43 hl (by decide) rfl (fun ls hl => ?_)
      exact wl_X12_seeds_45 l C0 1000 v1 v3 v2 0 0 0 r6 h hP hS (lv_sub hl [4, 5, 7, 3, 2, 1, 0] rfl)
    · have h := ob_t h z5
      refine lv_iconst (v := (-1)) hx hb dX12_seeds_27 (by decide) ?_
      exact r_Iw C0 hP hS h dX12_seeds_28
set_option maxRecDepth 100000 in
set_option maxHeartbeats 4000000 in
theorem c_X12_seeds (l : Launch) (a1 : Int32) (a2 : Int32) (a3 : Int32) {D : va_G} {ct : Nat → ClassId} {B : Nat} {Hb : Heap} {S : St} {V : Int32 × St} (h : L_X12_seeds a1 a2 a3 S = some V) : Met l yX12_seeds (Cond.code yX12_seeds cX12_seeds 9 (some .int) :: tG) { frames := 7, cells := 0, slots := 0, locals := 160 } (va_Pc [.ref (B + 136), .int a1, .int a2, .int a3] (MPK D ct B Hb S)) (qIw D ct B Hb V) 0 0 (AB B) := by
  refine mk_met (by decide +kernel) (Nat.le_of_ble_eq_true rfl) (fun p e s m args below meth c ls C0 hP hl _ => ?_)
  have h := ob_of h
  exact w_X12_seeds_0 l C0 a1 a2 a3 S h hP va_S.rf (lv_sub hl [0, 1, 2, 3] rfl)
set_option maxRecDepth 100000 in
set_option maxHeartbeats 4000000 in
theorem w_X12_count_88 (l : Launch) {V : Int32 × St} (C0 : XC D ct p s m args meth c cX12_count 4 (some .int) RX12) (n0 : Nat) (ih0 : ∀ (v2 : Int32) (v3 : Int32) (S : St) (H : Heap) (locs : List Loc) (ls : Array Slot), (lp n0 (l_X12_count_88) (v2, v3, S)).bind some = some V → MP D ct B Hb S H → va_S (AB B) s.heap H locs → lv_has ls 4 [(0, .ref (B + 136)), (2, .int v2), (3, .int v3)] → W p l e { frames := 0, cells := 0, slots := 0, locals := 0 } s m args below meth c H locs 0 0 (MQ below (qIw D ct B Hb V) args s 0 0 (AB B)) (F0 m 88 ls [])) (v2 : Int32) (v3 : Int32) (S : St) {H : Heap} {locs : List Loc} {ls : Array Slot} (h : (b_X12_count_88 v2 v3 S).bind (lpF n0 (l_X12_count_88) some) = some V) (hP : MP D ct B Hb S H) (hS : va_S (AB B) s.heap H locs) (hl : lv_has ls 4 [(0, .ref (B + 136)), (2, .int v2), (3, .int v3)]) : W p l e { frames := 0, cells := 0, slots := 0, locals := 0 } s m args below meth c H locs 0 0 (MQ below (qIw D ct B Hb V) args s 0 0 (AB B)) (F0 m 88 ls []) := by
  obtain ⟨hx, hb, hr, hml, hown, hts, hK, hlocks, hN⟩ := id C0
  unfold b_X12_count_88 at h
  refine lv_iload_n hx hb dX12_count_88 rfl (lv_at hl 2 rfl) ?_
  refine lv_aload_n hx hb dX12_count_89 rfl (lv_at hl 0 rfl) ?_
  refine x_get C0 hP (lay_X12 B ct S) rfl inG12 15 (by decide) wd_1156 (fun _ h => h) rfl dX12_count_90 ?_
  refine lv_icmp_ge (tgt := 111) hx hb dX12_count_93 (by decide) (fun z1 => ?_) (fun z1 => ?_)
  · have h := ob_t h z1
    refine lv_iload_n hx hb dX12_count_111 rfl (lv_at hl 1 rfl) ?_
    exact r_Iw C0 hP hS h dX12_count_112
  · have h := ob_f h z1
    refine lv_iload_n hx hb dX12_count_96 rfl (lv_at hl 1 rfl) ?_
    refine lv_aload_n hx hb dX12_count_97 rfl (lv_at hl 0 rfl) ?_
    refine x_get C0 hP (lay_X12 B ct S) rfl inG12 21 (by decide) wd_1162 (fun _ h => h) rfl dX12_count_98 ?_
    refine lv_iload_n hx hb dX12_count_101 rfl (lv_at hl 2 rfl) ?_
    obtain ⟨g2, h⟩ := ob_gd h
    refine x_iald C0 hP ((fun S => lay_152 B ct S) S) g2 dX12_count_102 ?_
    refine lv_iadd hx hb dX12_count_103 ?_
    refine lv_istore_n (lv' := [(2, .int (v2 + (gi S 152 v3.toNatClampNeg))), (0, .ref (B + 136)), (3, .int v3)]) hx hb dX12_count_104 rfl hl (by decide) rfl (fun ls hl => ?_)
    refine lv_iinc (v := v3 + 1) (lv' := [(3, .int (v3 + 1)), (2, .int (v2 + (gi S 152 v3.toNatClampNeg))), (0, .ref (B + 136))]) hx hb dX12_count_105 hl (k := 2) rfl rfl (by decide) rfl (fun ls hl => ?_)
    refine lv_goto (tgt := 88) hx hb dX12_count_108 (by decide) ?_
    exact ih0 (v2 + (gi S 152 v3.toNatClampNeg)) (v3 + 1) S _ _ _ h hP hS (lv_sub hl [2, 1, 0] rfl)
set_option maxRecDepth 100000 in
set_option maxHeartbeats 4000000 in
theorem wl_X12_count_88 (l : Launch) {V : Int32 × St} (C0 : XC D ct p s m args meth c cX12_count 4 (some .int) RX12)  : ∀ (n0 : Nat) (v2 : Int32) (v3 : Int32) (S : St) {H : Heap} {locs : List Loc} {ls : Array Slot}, (lp n0 (l_X12_count_88) (v2, v3, S)).bind some = some V → MP D ct B Hb S H → va_S (AB B) s.heap H locs → lv_has ls 4 [(0, .ref (B + 136)), (2, .int v2), (3, .int v3)] → W p l e { frames := 0, cells := 0, slots := 0, locals := 0 } s m args below meth c H locs 0 0 (MQ below (qIw D ct B Hb V) args s 0 0 (AB B)) (F0 m 88 ls []) := by
  intro n0
  induction n0 with
  | zero =>
    intro v2 v3 S H locs ls h hP hS hl
    exact (lp_0 h).elim
  | succ n0 ih0 =>
    intro v2 v3 S H locs ls h hP hS hl
    have h := lp_s h
    exact w_X12_count_88 l C0 n0 (fun v2 v3 S H locs ls h hP hS hl => ih0 v2 v3 S h hP hS hl) v2 v3 S h hP hS hl
set_option maxRecDepth 100000 in
set_option maxHeartbeats 4000000 in
theorem w_X12_count_115 (l : Launch) {V : Int32 × St} (C0 : XC D ct p s m args meth c cX12_count 4 (some .int) RX12) (n0 : Nat) (ih0 : ∀ (v2 : Int32) (v3 : Int32) (S : St) (H : Heap) (locs : List Loc) (ls : Array Slot), (lp n0 (l_X12_count_115) (v2, v3, S)).bind some = some V → MP D ct B Hb S H → va_S (AB B) s.heap H locs → lv_has ls 4 [(0, .ref (B + 136)), (2, .int v2), (3, .int v3)] → W p l e { frames := 0, cells := 0, slots := 0, locals := 0 } s m args below meth c H locs 0 0 (MQ below (qIw D ct B Hb V) args s 0 0 (AB B)) (F0 m 115 ls [])) (v2 : Int32) (v3 : Int32) (S : St) {H : Heap} {locs : List Loc} {ls : Array Slot} (h : (b_X12_count_115 v2 v3 S).bind (lpF n0 (l_X12_count_115) some) = some V) (hP : MP D ct B Hb S H) (hS : va_S (AB B) s.heap H locs) (hl : lv_has ls 4 [(0, .ref (B + 136)), (2, .int v2), (3, .int v3)]) : W p l e { frames := 0, cells := 0, slots := 0, locals := 0 } s m args below meth c H locs 0 0 (MQ below (qIw D ct B Hb V) args s 0 0 (AB B)) (F0 m 115 ls []) := by
  obtain ⟨hx, hb, hr, hml, hown, hts, hK, hlocks, hN⟩ := id C0
  unfold b_X12_count_115 at h
  refine lv_iload_n hx hb dX12_count_115 rfl (lv_at hl 2 rfl) ?_
  refine lv_bipush (v := 16) hx hb dX12_count_116 (by decide) ?_
  refine lv_icmp_ge (tgt := 136) hx hb dX12_count_118 (by decide) (fun z1 => ?_) (fun z1 => ?_)
  · have h := ob_t h z1
    refine lv_iload_n hx hb dX12_count_136 rfl (lv_at hl 1 rfl) ?_
    refine lv_iconst (v := 4) hx hb dX12_count_137 (by decide) ?_
    refine lv_isub hx hb dX12_count_138 ?_
    refine lv_iconst (v := 2) hx hb dX12_count_139 (by decide) ?_
    refine lv_idiv hx hb dX12_count_140 (by decide) ?_
    exact r_Iw C0 hP hS h dX12_count_141
  · have h := ob_f h z1
    refine lv_iload_n hx hb dX12_count_121 rfl (lv_at hl 1 rfl) ?_
    refine lv_aload_n hx hb dX12_count_122 rfl (lv_at hl 0 rfl) ?_
    refine x_get C0 hP (lay_X12 B ct S) rfl inG12 0 (by decide) wd_1141 (fun _ h => h) rfl dX12_count_123 ?_
    refine lv_iload_n hx hb dX12_count_126 rfl (lv_at hl 2 rfl) ?_
    obtain ⟨g3, h⟩ := ob_gd h
    refine x_iald C0 hP ((fun S => lay_137 B ct S) S) g3 dX12_count_127 ?_
    refine lv_iadd hx hb dX12_count_128 ?_
    refine lv_istore_n (lv' := [(2, .int (v2 + (gi S 137 v3.toNatClampNeg))), (0, .ref (B + 136)), (3, .int v3)]) hx hb dX12_count_129 rfl hl (by decide) rfl (fun ls hl => ?_)
    refine lv_iinc (v := v3 + 1) (lv' := [(3, .int (v3 + 1)), (2, .int (v2 + (gi S 137 v3.toNatClampNeg))), (0, .ref (B + 136))]) hx hb dX12_count_130 hl (k := 2) rfl rfl (by decide) rfl (fun ls hl => ?_)
    refine lv_goto (tgt := 115) hx hb dX12_count_133 (by decide) ?_
    exact ih0 (v2 + (gi S 137 v3.toNatClampNeg)) (v3 + 1) S _ _ _ h hP hS (lv_sub hl [2, 1, 0] rfl)
set_option maxRecDepth 100000 in
set_option maxHeartbeats 4000000 in
theorem wl_X12_count_115 (l : Launch) {V : Int32 × St} (C0 : XC D ct p s m args meth c cX12_count 4 (some .int) RX12)  : ∀ (n0 : Nat) (v2 : Int32) (v3 : Int32) (S : St) {H : Heap} {locs : List Loc} {ls : Array Slot}, (lp n0 (l_X12_count_115) (v2, v3, S)).bind some = some V → MP D ct B Hb S H → va_S (AB B) s.heap H locs → lv_has ls 4 [(0, .ref (B + 136)), (2, .int v2), (3, .int v3)] → W p l e { frames := 0, cells := 0, slots := 0, locals := 0 } s m args below meth c H locs 0 0 (MQ below (qIw D ct B Hb V) args s 0 0 (AB B)) (F0 m 115 ls []) := by
  intro n0
  induction n0 with
  | zero =>
    intro v2 v3 S H locs ls h hP hS hl
    exact (lp_0 h).elim
  | succ n0 ih0 =>
    intro v2 v3 S H locs ls h hP hS hl
    have h := lp_s h
    exact w_X12_count_115 l C0 n0 (fun v2 v3 S H locs ls h hP hS hl => ih0 v2 v3 S h hP hS hl) v2 v3 S h hP hS hl
set_option maxRecDepth 100000 in
set_option maxHeartbeats 4000000 in
theorem w_X12_count_0 (l : Launch) {V : Int32 × St} (C0 : XC D ct p s m args meth c cX12_count 4 (some .int) RX12) (v1 : Int32) (S : St) {H : Heap} {locs : List Loc} {ls : Array Slot} (h : (b_X12_count_0 v1 S).bind some = some V) (hP : MP D ct B Hb S H) (hS : va_S (AB B) s.heap H locs) (hl : lv_has ls 4 [(0, .ref (B + 136)), (1, .int v1)]) : W p l e { frames := 0, cells := 0, slots := 0, locals := 0 } s m args below meth c H locs 0 0 (MQ below (qIw D ct B Hb V) args s 0 0 (AB B)) (F0 m 0 ls []) := by
  obtain ⟨hx, hb, hr, hml, hown, hts, hK, hlocks, hN⟩ := id C0
  unfold b_X12_count_0 at h
  refine lv_aload_n hx hb dX12_count_0 rfl (lv_at hl 0 rfl) ?_
  refine lv_iconst (v := 0) hx hb dX12_count_1 (by decide) ?_
  obtain ⟨S1, eS1, h⟩ := ob_nm h
  refine x_put (S' := si S 136 28 0) (FS := (fs12 B)) C0 hP hS (fun S => lay_X12 B ct S) rfl inG12 tyX12 tyX12_ok nmX12 28 (by decide) wd_1169 rfl rfl (fun a ha => lay_local (gi_si_n _ _ _ ha) rfl rfl rfl) (put_12_28 B _ _) rfl rfl (Nat.le_of_ble_eq_true rfl) dX12_count_2 (fun H locs hP hS => ?_)
  rw [← eS1] at hP
  refine lv_iconst (v := 0) hx hb dX12_count_5 (by decide) ?_
  refine lv_istore_n (lv' := [(2, .int 0), (0, .ref (B + 136)), (1, .int v1)]) hx hb dX12_count_6 rfl hl (by decide) rfl (fun ls hl => ?_)
  refine lv_iload_n hx hb dX12_count_7 rfl (lv_at hl 2 rfl) ?_
  rcases Decidable.em ((v1 : Int32) = 0) with z2 | z2
  · have h := ob_t h z2
    refine lv_tableIn (x := v1) (off := 48) (tgt := 56) hx hb dX12_count_8 (by rw [z2]; decide) (by rw [z2]; decide) (by rw [z2]; decide) (by decide) ?_
    refine lv_aload_n hx hb dX12_count_56 rfl (lv_at hl 1 rfl) ?_
    refine x_get C0 hP (lay_X12 B ct S1) rfl inG12 15 (by decide) wd_1156 (fun _ h => h) rfl dX12_count_57 ?_
    exact r_Iw C0 hP hS h dX12_count_60
  · have h := ob_f h z2
    rcases Decidable.em ((v1 : Int32) = 1) with z3 | z3
    · have h := ob_t h z3
      refine lv_tableIn (x := v1) (off := 53) (tgt := 61) hx hb dX12_count_8 (by rw [z3]; decide) (by rw [z3]; decide) (by rw [z3]; decide) (by decide) ?_
      refine lv_aload_n hx hb dX12_count_61 rfl (lv_at hl 1 rfl) ?_
      refine x_get C0 hP (lay_X12 B ct S1) rfl inG12 1 (by decide) wd_1142 (fun _ h => h) rfl dX12_count_62 ?_
      exact r_Iw C0 hP hS h dX12_count_65
    · have h := ob_f h z3
      rcases Decidable.em ((v1 : Int32) = 2) with z4 | z4
      · have h := ob_t h z4
        refine lv_tableIn (x := v1) (off := 58) (tgt := 66) hx hb dX12_count_8 (by rw [z4]; decide) (by rw [z4]; decide) (by rw [z4]; decide) (by decide) ?_
        refine lv_aload_n hx hb dX12_count_66 rfl (lv_at hl 1 rfl) ?_
        refine x_get C0 hP (lay_X12 B ct S1) rfl inG12 9 (by decide) wd_1150 (fun _ h => h) rfl dX12_count_67 ?_
        exact r_Iw C0 hP hS h dX12_count_70
      · have h := ob_f h z4
        rcases Decidable.em ((v1 : Int32) = 3) with z5 | z5
        · have h := ob_t h z5
          refine lv_tableIn (x := v1) (off := 63) (tgt := 71) hx hb dX12_count_8 (by rw [z5]; decide) (by rw [z5]; decide) (by rw [z5]; decide) (by decide) ?_
          refine lv_aload_n hx hb dX12_count_71 rfl (lv_at hl 1 rfl) ?_
          refine x_get C0 hP (lay_X12 B ct S1) rfl inG12 6 (by decide) wd_1147 (fun _ h => h) rfl dX12_count_72 ?_
          exact r_Iw C0 hP hS h dX12_count_75
        · have h := ob_f h z5
          rcases Decidable.em ((v1 : Int32) = 4) with z6 | z6
          · have h := ob_t h z6
            refine lv_tableIn (x := v1) (off := 68) (tgt := 76) hx hb dX12_count_8 (by rw [z6]; decide) (by rw [z6]; decide) (by rw [z6]; decide) (by decide) ?_
            refine lv_aload_n hx hb dX12_count_76 rfl (lv_at hl 1 rfl) ?_
            refine x_get C0 hP (lay_X12 B ct S1) rfl inG12 7 (by decide) wd_1148 (fun _ h => h) rfl dX12_count_77 ?_
            exact r_Iw C0 hP hS h dX12_count_80
          · have h := ob_f h z6
            rcases Decidable.em ((v1 : Int32) = 5) with z7 | z7
            · have h := ob_t h z7
              refine lv_tableIn (x := v1) (off := 73) (tgt := 81) hx hb dX12_count_8 (by rw [z7]; decide) (by rw [z7]; decide) (by rw [z7]; decide) (by decide) ?_
              refine lv_aload_n hx hb dX12_count_81 rfl (lv_at hl 1 rfl) ?_
              refine x_get C0 hP (lay_X12 B ct S1) rfl inG12 8 (by decide) wd_1149 (fun _ h => h) rfl dX12_count_82 ?_
              exact r_Iw C0 hP hS h dX12_count_85
            · have h := ob_f h z7
              rcases Decidable.em ((v1 : Int32) = 6) with z8 | z8
              · have h := ob_t h z8
                refine lv_tableIn (x := v1) (off := 78) (tgt := 86) hx hb dX12_count_8 (by rw [z8]; decide) (by rw [z8]; decide) (by rw [z8]; decide) (by decide) ?_
                refine lv_iconst (v := 0) hx hb dX12_count_86 (by decide) ?_
                refine lv_istore_n (lv' := [(3, .int 0), (2, .int 0), (0, .ref (B + 136)), (1, .int v1)]) hx hb dX12_count_87 rfl hl (by decide) rfl (fun ls hl => ?_)
                exact wl_X12_count_88 l C0 1000 0 0 S1 h hP hS (lv_sub hl [2, 1, 0] rfl)
              · have h := ob_f h z8
                rcases Decidable.em ((v1 : Int32) = 7) with z9 | z9
                · have h := ob_t h z9
                  refine lv_tableIn (x := v1) (off := 105) (tgt := 113) hx hb dX12_count_8 (by rw [z9]; decide) (by rw [z9]; decide) (by rw [z9]; decide) (by decide) ?_
                  refine lv_iconst (v := 0) hx hb dX12_count_113 (by decide) ?_
                  refine lv_istore_n (lv' := [(3, .int 0), (2, .int 0), (0, .ref (B + 136)), (1, .int v1)]) hx hb dX12_count_114 rfl hl (by decide) rfl (fun ls hl => ?_)
                  exact wl_X12_count_115 l C0 1000 0 0 S1 h hP hS (lv_sub hl [2, 1, 0] rfl)
                · have h := ob_f h z9
                  refine lv_tableOut (x := v1) (tgt := 142) hx hb dX12_count_8 (sw_0_8 z2 z3 z4 z5 z6 z7 z8 z9) (by decide) ?_
                  refine lv_iconst (v := (-1)) hx hb dX12_count_142 (by decide) ?_
                  exact r_Iw C0 hP hS h dX12_count_143
set_option maxRecDepth 100000 in
set_option maxHeartbeats 4000000 in
theorem c_X12_count (l : Launch) (a1 : Int32) {D : va_G} {ct : Nat → ClassId} {B : Nat} {Hb : Heap} {S : St} {V : Int32 × St} (h : L_X12_count a1 S = some V) : Met l yX12_count (Cond.code yX12_count cX12_count 4 (some .int) :: tG) { frames := 0, cells := 0, slots := 0, locals := 0 } (va_Pc [.ref (B + 136), .int a1] (MPK D ct B Hb S)) (qIw D ct B Hb V) 0 0 (AB B) := by
  refine mk_met (by decide +kernel) (Nat.le_of_ble_eq_true rfl) (fun p e s m args below meth c ls C0 hP hl _ => ?_)
  have h := ob_of h
  exact w_X12_count_0 l C0 a1 S h hP va_S.rf (lv_sub hl [0, 1] rfl)
set_option maxRecDepth 100000 in
set_option maxHeartbeats 4000000 in
theorem w_X12_keep_81 (l : Launch) {V : Int32 × St} (C0 : XC D ct p s m args meth c cX12_keep 5 (some .int) RX12) (v1 : Int32) (v2 : Int32) (v4 : Int32) (s0 : Int32) (s1 : Int32) (S : St) {H : Heap} {locs : List Loc} {ls : Array Slot} (h : (b_X12_keep_81 v1 v2 v4 s0 s1 S).bind some = some V) (hP : MP D ct B Hb S H) (hS : va_S (AB B) s.heap H locs) (hl : lv_has ls 5 [(0, .ref (B + 136)), (1, .int v1), (2, .int v2), (4, .int v4)]) : W p l e { frames := 1, cells := 0, slots := 0, locals := 25 } s m args below meth c H locs 0 0 (MQ below (qIw D ct B Hb V) args s 0 0 (AB B)) (F0 m 81 ls [.int s0, .int s1, .ref (B + 154)]) := by
  obtain ⟨hx, hb, hr, hml, hown, hts, hK, hlocks, hN⟩ := id C0
  unfold b_X12_keep_81 at h
  obtain ⟨g1, h⟩ := ob_gd h
  obtain ⟨S2, eS2, h⟩ := ob_nm h
  refine x_iast C0 hP hS (fun S => lay_154 B ct S) g1 dX12_keep_81 (fun H locs hP hS => ?_)
  rw [← eS2] at hP
  refine lv_aload_n hx hb dX12_keep_82 rfl (lv_at hl 0 rfl) ?_
  refine x_get C0 hP (lay_X12 B ct S2) rfl inG12 24 (by decide) wd_1165 (fun _ h => h) rfl dX12_keep_83 ?_
  refine lv_iload_n hx hb dX12_keep_86 rfl (lv_at hl 1 rfl) ?_
  refine lv_iload_n hx hb dX12_keep_87 rfl (lv_at hl 2 rfl) ?_
  refine lv_iconst (v := 1) hx hb dX12_keep_88 (by decide) ?_
  refine lv_icmp_ne (tgt := 97) hx hb dX12_keep_89 (by decide) (fun z3 => ?_) (fun z3 => ?_)
  · have h := ob_f h z3
    refine lv_iconst (v := 0) hx hb dX12_keep_97 (by decide) ?_
    obtain ⟨g4, h⟩ := ob_gd h
    obtain ⟨S5, eS5, h⟩ := ob_nm h
    refine x_iast C0 hP hS (fun S => lay_155 B ct S) g4 dX12_keep_98 (fun H locs hP hS => ?_)
    rw [← eS5] at hP
    refine lv_iconst (v := 0) hx hb dX12_keep_99 (by decide) ?_
    exact r_Iw C0 hP hS h dX12_keep_100
  · have h := ob_t h z3
    refine lv_iload hx hb dX12_keep_92 (lv_at hl 3 rfl) ?_
    refine lv_goto (tgt := 98) hx hb dX12_keep_94 (by decide) ?_
    obtain ⟨g6, h⟩ := ob_gd h
    obtain ⟨S7, eS7, h⟩ := ob_nm h
    refine x_iast C0 hP hS (fun S => lay_155 B ct S) g6 dX12_keep_98 (fun H locs hP hS => ?_)
    rw [← eS7] at hP
    refine lv_iconst (v := 0) hx hb dX12_keep_99 (by decide) ?_
    exact r_Iw C0 hP hS h dX12_keep_100
set_option maxRecDepth 100000 in
set_option maxHeartbeats 4000000 in
theorem w_X12_keep_59 (l : Launch) {V : Int32 × St} (C0 : XC D ct p s m args meth c cX12_keep 5 (some .int) RX12) (v1 : Int32) (v2 : Int32) (v3 : Int32) (v4 : Int32) (S : St) {H : Heap} {locs : List Loc} {ls : Array Slot} (h : (b_X12_keep_59 v1 v2 v3 v4 S).bind some = some V) (hP : MP D ct B Hb S H) (hS : va_S (AB B) s.heap H locs) (hl : lv_has ls 5 [(0, .ref (B + 136)), (1, .int v1), (2, .int v2), (3, .int v3), (4, .int v4)]) : W p l e { frames := 1, cells := 0, slots := 0, locals := 25 } s m args below meth c H locs 0 0 (MQ below (qIw D ct B Hb V) args s 0 0 (AB B)) (F0 m 59 ls []) := by
  obtain ⟨hx, hb, hr, hml, hown, hts, hK, hlocks, hN⟩ := id C0
  unfold b_X12_keep_59 at h
  refine lv_aload_n hx hb dX12_keep_59 rfl (lv_at hl 0 rfl) ?_
  refine x_get C0 hP (lay_X12 B ct S) rfl inG12 22 (by decide) wd_1163 (fun _ h => h) rfl dX12_keep_60 ?_
  refine lv_iload_n hx hb dX12_keep_63 rfl (lv_at hl 1 rfl) ?_
  refine lv_iload_n hx hb dX12_keep_64 rfl (lv_at hl 2 rfl) ?_
  obtain ⟨g1, h⟩ := ob_gd h
  obtain ⟨S2, eS2, h⟩ := ob_nm h
  refine x_iast C0 hP hS (fun S => lay_153 B ct S) g1 dX12_keep_65 (fun H locs hP hS => ?_)
  rw [← eS2] at hP
  refine lv_aload_n hx hb dX12_keep_66 rfl (lv_at hl 0 rfl) ?_
  refine x_get C0 hP (lay_X12 B ct S2) rfl inG12 23 (by decide) wd_1164 (fun _ h => h) rfl dX12_keep_67 ?_
  refine lv_iload_n hx hb dX12_keep_70 rfl (lv_at hl 1 rfl) ?_
  refine lv_iload_n hx hb dX12_keep_71 rfl (lv_at hl 2 rfl) ?_
  refine lv_iconst (v := 1) hx hb dX12_keep_72 (by decide) ?_
  refine lv_icmp_ne (tgt := 80) hx hb dX12_keep_73 (by decide) (fun z3 => ?_) (fun z3 => ?_)
  · have h := ob_f h z3
    refine lv_iconst (v := 0) hx hb dX12_keep_80 (by decide) ?_
    exact w_X12_keep_81 l C0 v1 v2 v4 0 v1 S2 h hP hS (lv_sub hl [0, 1, 2, 4] rfl)
  · have h := ob_t h z3
    refine lv_iload_n hx hb dX12_keep_76 rfl (lv_at hl 3 rfl) ?_
    refine lv_goto (tgt := 81) hx hb dX12_keep_77 (by decide) ?_
    exact w_X12_keep_81 l C0 v1 v2 v4 v3 v1 S2 h hP hS (lv_sub hl [0, 1, 2, 4] rfl)
set_option maxRecDepth 100000 in
set_option maxHeartbeats 4000000 in
theorem w_X12_keep_0 (l : Launch) {V : Int32 × St} (C0 : XC D ct p s m args meth c cX12_keep 5 (some .int) RX12) (v1 : Int32) (v2 : Int32) (v3 : Int32) (v4 : Int32) (S : St) {H : Heap} {locs : List Loc} {ls : Array Slot} (h : (b_X12_keep_0 v1 v2 v3 v4 S).bind some = some V) (hP : MP D ct B Hb S H) (hS : va_S (AB B) s.heap H locs) (hl : lv_has ls 5 [(0, .ref (B + 136)), (1, .int v1), (2, .int v2), (3, .int v3), (4, .int v4)]) : W p l e { frames := 1, cells := 0, slots := 0, locals := 25 } s m args below meth c H locs 0 0 (MQ below (qIw D ct B Hb V) args s 0 0 (AB B)) (F0 m 0 ls []) := by
  obtain ⟨hx, hb, hr, hml, hown, hts, hK, hlocks, hN⟩ := id C0
  unfold b_X12_keep_0 at h
  refine lv_aload_n hx hb dX12_keep_0 rfl (lv_at hl 0 rfl) ?_
  refine lv_iconst (v := 0) hx hb dX12_keep_1 (by decide) ?_
  obtain ⟨S1, eS1, h⟩ := ob_nm h
  refine x_put (S' := si S 136 28 0) (FS := (fs12 B)) C0 hP hS (fun S => lay_X12 B ct S) rfl inG12 tyX12 tyX12_ok nmX12 28 (by decide) wd_1169 rfl rfl (fun a ha => lay_local (gi_si_n _ _ _ ha) rfl rfl rfl) (put_12_28 B _ _) rfl rfl (Nat.le_of_ble_eq_true rfl) dX12_keep_2 (fun H locs hP hS => ?_)
  rw [← eS1] at hP
  refine lv_iload_n hx hb dX12_keep_5 rfl (lv_at hl 1 rfl) ?_
  refine lv_i2l hx hb dX12_keep_6 rfl ?_
  refine lv_lconst (v := 0) hx hb dX12_keep_7 (by decide) ?_
  refine lv_ldc2 (v := 7) hx hb hown (hts _ wd_1367) dX12_keep_8 ?_
  obtain ⟨r2, hr2, h⟩ := ob_bd h
  refine n_I (kS (As := [.long v1.toInt64, .long 0, .long 7]) C0 (c_X12_in l v1.toInt64 0 7 hr2) ⟨wd_1370, wd_1368, wd_1369, wd_6⟩ kd_X12_in ⟨Nat.le_of_ble_eq_true rfl, Nat.le_of_ble_eq_true rfl⟩ hP rfl hl.1 rfl (Nat.le_of_ble_eq_true rfl) dX12_keep_11 ⟨Nat.le_of_ble_eq_true rfl, Nat.le_of_ble_eq_true rfl⟩) hS (fun H locs hP hS => ?_)
  refine lv_if_eq (tgt := 57) hx hb dX12_keep_14 (by decide) (fun z3 => ?_) (fun z3 => ?_)
  · have h := ob_t h z3
    refine lv_iconst (v := (-1)) hx hb dX12_keep_57 (by decide) ?_
    exact r_Iw C0 hP hS h dX12_keep_58
  · have h := ob_f h z3
    refine lv_iload_n hx hb dX12_keep_17 rfl (lv_at hl 2 rfl) ?_
    refine lv_i2l hx hb dX12_keep_18 rfl ?_
    refine lv_lconst (v := 0) hx hb dX12_keep_19 (by decide) ?_
    refine lv_lconst (v := 1) hx hb dX12_keep_20 (by decide) ?_
    obtain ⟨r4, hr4, h⟩ := ob_bd h
    refine n_I (kS (As := [.long v2.toInt64, .long 0, .long 1]) C0 (c_X12_in l v2.toInt64 0 1 hr4) ⟨wd_1370, wd_1368, wd_1369, wd_6⟩ kd_X12_in ⟨Nat.le_of_ble_eq_true rfl, Nat.le_of_ble_eq_true rfl⟩ hP rfl hl.1 rfl (Nat.le_of_ble_eq_true rfl) dX12_keep_21 ⟨Nat.le_of_ble_eq_true rfl, Nat.le_of_ble_eq_true rfl⟩) hS (fun H locs hP hS => ?_)
    refine lv_if_eq (tgt := 57) hx hb dX12_keep_24 (by decide) (fun z5 => ?_) (fun z5 => ?_)
    · have h := ob_t h z5
      refine lv_iconst (v := (-1)) hx hb dX12_keep_57 (by decide) ?_
      exact r_Iw C0 hP hS h dX12_keep_58
    · have h := ob_f h z5
      refine lv_iload_n hx hb dX12_keep_27 rfl (lv_at hl 2 rfl) ?_
      refine lv_iconst (v := 1) hx hb dX12_keep_28 (by decide) ?_
      refine lv_icmp_ne (tgt := 59) hx hb dX12_keep_29 (by decide) (fun z6 => ?_) (fun z6 => ?_)
      · have h := ob_f h z6
        exact w_X12_keep_59 l C0 v1 v2 v3 v4 S1 h hP hS (lv_sub hl [0, 1, 2, 3, 4] rfl)
      · have h := ob_t h z6
        refine lv_iload_n hx hb dX12_keep_32 rfl (lv_at hl 3 rfl) ?_
        refine lv_i2l hx hb dX12_keep_33 rfl ?_
        refine lv_lconst (v := 0) hx hb dX12_keep_34 (by decide) ?_
        refine lv_ldc2 (v := 7) hx hb hown (hts _ wd_1367) dX12_keep_35 ?_
        obtain ⟨r7, hr7, h⟩ := ob_bd h
        refine n_I (kS (As := [.long v3.toInt64, .long 0, .long 7]) C0 (c_X12_in l v3.toInt64 0 7 hr7) ⟨wd_1370, wd_1368, wd_1369, wd_6⟩ kd_X12_in ⟨Nat.le_of_ble_eq_true rfl, Nat.le_of_ble_eq_true rfl⟩ hP rfl hl.1 rfl (Nat.le_of_ble_eq_true rfl) dX12_keep_38 ⟨Nat.le_of_ble_eq_true rfl, Nat.le_of_ble_eq_true rfl⟩) hS (fun H locs hP hS => ?_)
        refine lv_if_eq (tgt := 57) hx hb dX12_keep_41 (by decide) (fun z8 => ?_) (fun z8 => ?_)
        · have h := ob_t h z8
          refine lv_iconst (v := (-1)) hx hb dX12_keep_57 (by decide) ?_
          exact r_Iw C0 hP hS h dX12_keep_58
        · have h := ob_f h z8
          refine lv_iload hx hb dX12_keep_44 (lv_at hl 4 rfl) ?_
          refine lv_i2l hx hb dX12_keep_46 rfl ?_
          refine lv_lconst (v := 0) hx hb dX12_keep_47 (by decide) ?_
          refine lv_ldc2 (v := 9) hx hb hown (hts _ wd_1458) dX12_keep_48 ?_
          obtain ⟨r9, hr9, h⟩ := ob_bd h
          refine n_I (kS (As := [.long v4.toInt64, .long 0, .long 9]) C0 (c_X12_in l v4.toInt64 0 9 hr9) ⟨wd_1370, wd_1368, wd_1369, wd_6⟩ kd_X12_in ⟨Nat.le_of_ble_eq_true rfl, Nat.le_of_ble_eq_true rfl⟩ hP rfl hl.1 rfl (Nat.le_of_ble_eq_true rfl) dX12_keep_51 ⟨Nat.le_of_ble_eq_true rfl, Nat.le_of_ble_eq_true rfl⟩) hS (fun H locs hP hS => ?_)
          refine lv_if_ne (tgt := 59) hx hb dX12_keep_54 (by decide) (fun z10 => ?_) (fun z10 => ?_)
          · have h := ob_f h z10
            exact w_X12_keep_59 l C0 v1 v2 v3 v4 S1 h hP hS (lv_sub hl [0, 1, 2, 3, 4] rfl)
          · have h := ob_t h z10
            refine lv_iconst (v := (-1)) hx hb dX12_keep_57 (by decide) ?_
            exact r_Iw C0 hP hS h dX12_keep_58
set_option maxRecDepth 100000 in
set_option maxHeartbeats 4000000 in
theorem c_X12_keep (l : Launch) (a1 : Int32) (a2 : Int32) (a3 : Int32) (a4 : Int32) {D : va_G} {ct : Nat → ClassId} {B : Nat} {Hb : Heap} {S : St} {V : Int32 × St} (h : L_X12_keep a1 a2 a3 a4 S = some V) : Met l yX12_keep (Cond.code yX12_keep cX12_keep 5 (some .int) :: tG) { frames := 1, cells := 0, slots := 0, locals := 25 } (va_Pc [.ref (B + 136), .int a1, .int a2, .int a3, .int a4] (MPK D ct B Hb S)) (qIw D ct B Hb V) 0 0 (AB B) := by
  refine mk_met (by decide +kernel) (Nat.le_of_ble_eq_true rfl) (fun p e s m args below meth c ls C0 hP hl _ => ?_)
  have h := ob_of h
  exact w_X12_keep_0 l C0 a1 a2 a3 a4 S h hP va_S.rf (lv_sub hl [0, 1, 2, 3, 4] rfl)
set_option maxRecDepth 100000 in
set_option maxHeartbeats 4000000 in
theorem w_X12_narrowed_0 (l : Launch) {V : Int64} (C0 : XC D ct p s m args meth c cX12_narrowed 2 (some .long) RX12) (v0 : Int32) (v1 : Int32) (S : St) {H : Heap} {locs : List Loc} {ls : Array Slot} (h : (b_X12_narrowed_0 v0 v1 S).bind some = some V) (hP : MP D ct B Hb S H) (hS : va_S (AB B) s.heap H locs) (hl : lv_has ls 2 [(0, .int v0), (1, .int v1)]) : W p l e { frames := 0, cells := 0, slots := 0, locals := 0 } s m args below meth c H locs 0 0 (MQ below (qL D ct B Hb S V) args s 0 0 (AB B)) (F0 m 0 ls []) := by
  obtain ⟨hx, hb, hr, hml, hown, hts, hK, hlocks, hN⟩ := id C0
  unfold b_X12_narrowed_0 at h
  refine lv_iload_n hx hb dX12_narrowed_0 rfl (lv_at hl 1 rfl) ?_
  refine lv_if_ne (tgt := 10) hx hb dX12_narrowed_1 (by decide) (fun z1 => ?_) (fun z1 => ?_)
  · have h := ob_f h z1
    refine lv_iload_n hx hb dX12_narrowed_10 rfl (lv_at hl 1 rfl) ?_
    refine lv_iconst (v := 1) hx hb dX12_narrowed_11 (by decide) ?_
    refine lv_icmp_ne (tgt := 21) hx hb dX12_narrowed_12 (by decide) (fun z2 => ?_) (fun z2 => ?_)
    · have h := ob_f h z2
      refine lv_iload_n hx hb dX12_narrowed_21 rfl (lv_at hl 0 rfl) ?_
      refine lv_i2l hx hb dX12_narrowed_22 rfl ?_
      exact r_L C0 hP hS h dX12_narrowed_23
    · have h := ob_t h z2
      refine lv_iload_n hx hb dX12_narrowed_15 rfl (lv_at hl 0 rfl) ?_
      refine lv_i2s hx hb dX12_narrowed_16 rfl ?_
      refine lv_i2l hx hb dX12_narrowed_17 rfl ?_
      refine lv_goto (tgt := 23) hx hb dX12_narrowed_18 (by decide) ?_
      exact r_L C0 hP hS h dX12_narrowed_23
  · have h := ob_t h z1
    refine lv_iload_n hx hb dX12_narrowed_4 rfl (lv_at hl 0 rfl) ?_
    refine lv_i2b hx hb dX12_narrowed_5 rfl ?_
    refine lv_i2l hx hb dX12_narrowed_6 rfl ?_
    refine lv_goto (tgt := 23) hx hb dX12_narrowed_7 (by decide) ?_
    exact r_L C0 hP hS h dX12_narrowed_23
set_option maxRecDepth 100000 in
set_option maxHeartbeats 4000000 in
theorem c_X12_narrowed (l : Launch) (a0 : Int32) (a1 : Int32) {D : va_G} {ct : Nat → ClassId} {B : Nat} {Hb : Heap} {S : St} {V : Int64} (h : L_X12_narrowed a0 a1 S = some V) : Met l yX12_narrowed (Cond.code yX12_narrowed cX12_narrowed 2 (some .long) :: tG) { frames := 0, cells := 0, slots := 0, locals := 0 } (va_Pc [.int a0, .int a1] (MPK D ct B Hb S)) (qL D ct B Hb S V) 0 0 (AB B) := by
  refine mk_met (by decide +kernel) (Nat.le_of_ble_eq_true rfl) (fun p e s m args below meth c ls C0 hP hl _ => ?_)
  have h := ob_of h
  exact w_X12_narrowed_0 l C0 a0 a1 S h hP va_S.rf (lv_sub hl [0, 1] rfl)
end WALKS
