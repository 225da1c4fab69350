theorem dX12_oneTold_0 : decode cX12_oneTold 0 = .ok (.aload_n 0, 1) := by decide +kernel
theorem dX12_oneTold_1 : decode cX12_oneTold 1 = .ok (.getfield 142, 3) := by decide +kernel
theorem dX12_oneTold_4 : decode cX12_oneTold 4 = .ok (.iload_n 1, 1) := by decide +kernel
theorem dX12_oneTold_5 : decode cX12_oneTold 5 = .ok (.iaload, 1) := by decide +kernel
theorem dX12_oneTold_6 : decode cX12_oneTold 6 = .ok (.bipush 8, 2) := by decide +kernel
theorem dX12_oneTold_8 : decode cX12_oneTold 8 = .ok (.if_icmp .ge 44, 3) := by decide +kernel
theorem dX12_oneTold_11 : decode cX12_oneTold 11 = .ok (.aload_n 0, 1) := by decide +kernel
theorem dX12_oneTold_12 : decode cX12_oneTold 12 = .ok (.getfield 142, 3) := by decide +kernel
theorem dX12_oneTold_15 : decode cX12_oneTold 15 = .ok (.iload_n 1, 1) := by decide +kernel
theorem dX12_oneTold_16 : decode cX12_oneTold 16 = .ok (.iconst 2, 1) := by decide +kernel
theorem dX12_oneTold_17 : decode cX12_oneTold 17 = .ok (.iadd, 1) := by decide +kernel
theorem dX12_oneTold_18 : decode cX12_oneTold 18 = .ok (.iaload, 1) := by decide +kernel
theorem dX12_oneTold_19 : decode cX12_oneTold 19 = .ok (.invokestatic 294, 3) := by decide +kernel
theorem dX12_oneTold_22 : decode cX12_oneTold 22 = .ok (.ifCond .eq 30, 3) := by decide +kernel
theorem dX12_oneTold_25 : decode cX12_oneTold 25 = .ok (.aload_n 0, 1) := by decide +kernel
theorem dX12_oneTold_26 : decode cX12_oneTold 26 = .ok (.getfield 142, 3) := by decide +kernel
theorem dX12_oneTold_29 : decode cX12_oneTold 29 = .ok (.iload_n 1, 1) := by decide +kernel
theorem dX12_oneTold_30 : decode cX12_oneTold 30 = .ok (.iconst 3, 1) := by decide +kernel
theorem dX12_oneTold_31 : decode cX12_oneTold 31 = .ok (.iadd, 1) := by decide +kernel
theorem dX12_oneTold_32 : decode cX12_oneTold 32 = .ok (.iaload, 1) := by decide +kernel
theorem dX12_oneTold_33 : decode cX12_oneTold 33 = .ok (.invokestatic 297, 3) := by decide +kernel
theorem dX12_oneTold_36 : decode cX12_oneTold 36 = .ok (.ifCond .eq 16, 3) := by decide +kernel
theorem dX12_oneTold_39 : decode cX12_oneTold 39 = .ok (.aload_n 0, 1) := by decide +kernel
theorem dX12_oneTold_40 : decode cX12_oneTold 40 = .ok (.getfield 171, 3) := by decide +kernel
theorem dX12_oneTold_43 : decode cX12_oneTold 43 = .ok (.bipush 8, 2) := by decide +kernel
theorem dX12_oneTold_45 : decode cX12_oneTold 45 = .ok (.if_icmp .ge 7, 3) := by decide +kernel
theorem dX12_oneTold_48 : decode cX12_oneTold 48 = .ok (.iconst 1, 1) := by decide +kernel
theorem dX12_oneTold_49 : decode cX12_oneTold 49 = .ok (.goto 4, 3) := by decide +kernel
theorem dX12_oneTold_52 : decode cX12_oneTold 52 = .ok (.iconst 0, 1) := by decide +kernel
theorem dX12_oneTold_53 : decode cX12_oneTold 53 = .ok (.istore_n 2, 1) := by decide +kernel
theorem dX12_oneTold_54 : decode cX12_oneTold 54 = .ok (.iload_n 2, 1) := by decide +kernel
theorem dX12_oneTold_55 : decode cX12_oneTold 55 = .ok (.ifCond .eq 53, 3) := by decide +kernel
theorem dX12_oneTold_58 : decode cX12_oneTold 58 = .ok (.aload_n 0, 1) := by decide +kernel
theorem dX12_oneTold_59 : decode cX12_oneTold 59 = .ok (.aload_n 0, 1) := by decide +kernel
theorem dX12_oneTold_60 : decode cX12_oneTold 60 = .ok (.getfield 142, 3) := by decide +kernel
theorem dX12_oneTold_63 : decode cX12_oneTold 63 = .ok (.iload_n 1, 1) := by decide +kernel
theorem dX12_oneTold_64 : decode cX12_oneTold 64 = .ok (.iaload, 1) := by decide +kernel
theorem dX12_oneTold_65 : decode cX12_oneTold 65 = .ok (.aload_n 0, 1) := by decide +kernel
theorem dX12_oneTold_66 : decode cX12_oneTold 66 = .ok (.getfield 142, 3) := by decide +kernel
theorem dX12_oneTold_69 : decode cX12_oneTold 69 = .ok (.iload_n 1, 1) := by decide +kernel
theorem dX12_oneTold_70 : decode cX12_oneTold 70 = .ok (.iconst 1, 1) := by decide +kernel
theorem dX12_oneTold_71 : decode cX12_oneTold 71 = .ok (.iadd, 1) := by decide +kernel
theorem dX12_oneTold_72 : decode cX12_oneTold 72 = .ok (.iaload, 1) := by decide +kernel
theorem dX12_oneTold_73 : decode cX12_oneTold 73 = .ok (.aload_n 0, 1) := by decide +kernel
theorem dX12_oneTold_74 : decode cX12_oneTold 74 = .ok (.getfield 142, 3) := by decide +kernel
theorem dX12_oneTold_77 : decode cX12_oneTold 77 = .ok (.iload_n 1, 1) := by decide +kernel
theorem dX12_oneTold_78 : decode cX12_oneTold 78 = .ok (.iconst 2, 1) := by decide +kernel
theorem dX12_oneTold_79 : decode cX12_oneTold 79 = .ok (.iadd, 1) := by decide +kernel
theorem dX12_oneTold_80 : decode cX12_oneTold 80 = .ok (.iaload, 1) := by decide +kernel
theorem dX12_oneTold_81 : decode cX12_oneTold 81 = .ok (.aload_n 0, 1) := by decide +kernel
theorem dX12_oneTold_82 : decode cX12_oneTold 82 = .ok (.getfield 142, 3) := by decide +kernel
theorem dX12_oneTold_85 : decode cX12_oneTold 85 = .ok (.iload_n 1, 1) := by decide +kernel
theorem dX12_oneTold_86 : decode cX12_oneTold 86 = .ok (.iconst 3, 1) := by decide +kernel
theorem dX12_oneTold_87 : decode cX12_oneTold 87 = .ok (.iadd, 1) := by decide +kernel
theorem dX12_oneTold_88 : decode cX12_oneTold 88 = .ok (.iaload, 1) := by decide +kernel
theorem dX12_oneTold_89 : decode cX12_oneTold 89 = .ok (.aload_n 0, 1) := by decide +kernel
theorem dX12_oneTold_90 : decode cX12_oneTold 90 = .ok (.getfield 142, 3) := by decide +kernel
theorem dX12_oneTold_93 : decode cX12_oneTold 93 = .ok (.iload_n 1, 1) := by decide +kernel
theorem dX12_oneTold_94 : decode cX12_oneTold 94 = .ok (.iconst 4, 1) := by decide +kernel
theorem dX12_oneTold_95 : decode cX12_oneTold 95 = .ok (.iadd, 1) := by decide +kernel
theorem dX12_oneTold_96 : decode cX12_oneTold 96 = .ok (.iaload, 1) := by decide +kernel
theorem dX12_oneTold_97 : decode cX12_oneTold 97 = .ok (.aload_n 0, 1) := by decide +kernel
theorem dX12_oneTold_98 : decode cX12_oneTold 98 = .ok (.getfield 142, 3) := by decide +kernel
theorem dX12_oneTold_101 : decode cX12_oneTold 101 = .ok (.iload_n 1, 1) := by decide +kernel
theorem dX12_oneTold_102 : decode cX12_oneTold 102 = .ok (.iconst 5, 1) := by decide +kernel
theorem dX12_oneTold_103 : decode cX12_oneTold 103 = .ok (.iadd, 1) := by decide +kernel
theorem dX12_oneTold_104 : decode cX12_oneTold 104 = .ok (.iaload, 1) := by decide +kernel
theorem dX12_oneTold_105 : decode cX12_oneTold 105 = .ok (.invokevirtual 300, 3) := by decide +kernel
theorem dX12_oneTold_108 : decode cX12_oneTold 108 = .ok (.iload_n 2, 1) := by decide +kernel
theorem dX12_oneTold_109 : decode cX12_oneTold 109 = .ok (.ireturn, 1) := by decide +kernel
theorem dX12_plantTold_0 : decode cX12_plantTold 0 = .ok (.aload_n 0, 1) := by decide +kernel
theorem dX12_plantTold_1 : decode cX12_plantTold 1 = .ok (.getfield 142, 3) := by decide +kernel
theorem dX12_plantTold_4 : decode cX12_plantTold 4 = .ok (.iload_n 1, 1) := by decide +kernel
theorem dX12_plantTold_5 : decode cX12_plantTold 5 = .ok (.iaload, 1) := by decide +kernel
theorem dX12_plantTold_6 : decode cX12_plantTold 6 = .ok (.invokestatic 294, 3) := by decide +kernel
theorem dX12_plantTold_9 : decode cX12_plantTold 9 = .ok (.ifCond .eq 48, 3) := by decide +kernel
theorem dX12_plantTold_12 : decode cX12_plantTold 12 = .ok (.aload_n 0, 1) := by decide +kernel
theorem dX12_plantTold_13 : decode cX12_plantTold 13 = .ok (.getfield 142, 3) := by decide +kernel
theorem dX12_plantTold_16 : decode cX12_plantTold 16 = .ok (.iload_n 1, 1) := by decide +kernel
theorem dX12_plantTold_17 : decode cX12_plantTold 17 = .ok (.iconst 2, 1) := by decide +kernel
theorem dX12_plantTold_18 : decode cX12_plantTold 18 = .ok (.iadd, 1) := by decide +kernel
theorem dX12_plantTold_19 : decode cX12_plantTold 19 = .ok (.iaload, 1) := by decide +kernel
theorem dX12_plantTold_20 : decode cX12_plantTold 20 = .ok (.i2l, 1) := by decide +kernel
theorem dX12_plantTold_21 : decode cX12_plantTold 21 = .ok (.lconst 1, 1) := by decide +kernel
theorem dX12_plantTold_22 : decode cX12_plantTold 22 = .ok (.ldc2_w 304, 3) := by decide +kernel
theorem dX12_plantTold_25 : decode cX12_plantTold 25 = .ok (.invokestatic 165, 3) := by decide +kernel
theorem dX12_plantTold_28 : decode cX12_plantTold 28 = .ok (.ifCond .eq 29, 3) := by decide +kernel
theorem dX12_plantTold_31 : decode cX12_plantTold 31 = .ok (.aload_n 0, 1) := by decide +kernel
theorem dX12_plantTold_32 : decode cX12_plantTold 32 = .ok (.getfield 142, 3) := by decide +kernel
theorem dX12_plantTold_35 : decode cX12_plantTold 35 = .ok (.iload_n 1, 1) := by decide +kernel
theorem dX12_plantTold_36 : decode cX12_plantTold 36 = .ok (.iconst 4, 1) := by decide +kernel
theorem dX12_plantTold_37 : decode cX12_plantTold 37 = .ok (.iadd, 1) := by decide +kernel
theorem dX12_plantTold_38 : decode cX12_plantTold 38 = .ok (.iaload, 1) := by decide +kernel
theorem dX12_plantTold_39 : decode cX12_plantTold 39 = .ok (.invokestatic 297, 3) := by decide +kernel
theorem dX12_plantTold_42 : decode cX12_plantTold 42 = .ok (.ifCond .eq 15, 3) := by decide +kernel
theorem dX12_plantTold_45 : decode cX12_plantTold 45 = .ok (.aload_n 0, 1) := by decide +kernel
theorem dX12_plantTold_46 : decode cX12_plantTold 46 = .ok (.getfield 232, 3) := by decide +kernel
theorem dX12_plantTold_49 : decode cX12_plantTold 49 = .ok (.iconst 3, 1) := by decide +kernel
theorem dX12_plantTold_50 : decode cX12_plantTold 50 = .ok (.if_icmp .ge 7, 3) := by decide +kernel
theorem dX12_plantTold_53 : decode cX12_plantTold 53 = .ok (.iconst 1, 1) := by decide +kernel
theorem dX12_plantTold_54 : decode cX12_plantTold 54 = .ok (.goto 4, 3) := by decide +kernel
theorem dX12_plantTold_57 : decode cX12_plantTold 57 = .ok (.iconst 0, 1) := by decide +kernel
theorem dX12_plantTold_58 : decode cX12_plantTold 58 = .ok (.istore_n 2, 1) := by decide +kernel
theorem dX12_plantTold_59 : decode cX12_plantTold 59 = .ok (.iload_n 2, 1) := by decide +kernel
theorem dX12_plantTold_60 : decode cX12_plantTold 60 = .ok (.ifCond .eq 45, 3) := by decide +kernel
theorem dX12_plantTold_63 : decode cX12_plantTold 63 = .ok (.aload_n 0, 1) := by decide +kernel
theorem dX12_plantTold_64 : decode cX12_plantTold 64 = .ok (.aload_n 0, 1) := by decide +kernel
theorem dX12_plantTold_65 : decode cX12_plantTold 65 = .ok (.getfield 142, 3) := by decide +kernel
theorem dX12_plantTold_68 : decode cX12_plantTold 68 = .ok (.iload_n 1, 1) := by decide +kernel
theorem dX12_plantTold_69 : decode cX12_plantTold 69 = .ok (.iaload, 1) := by decide +kernel
theorem dX12_plantTold_70 : decode cX12_plantTold 70 = .ok (.aload_n 0, 1) := by decide +kernel
theorem dX12_plantTold_71 : decode cX12_plantTold 71 = .ok (.getfield 142, 3) := by decide +kernel
theorem dX12_plantTold_74 : decode cX12_plantTold 74 = .ok (.iload_n 1, 1) := by decide +kernel
theorem dX12_plantTold_75 : decode cX12_plantTold 75 = .ok (.iconst 1, 1) := by decide +kernel
theorem dX12_plantTold_76 : decode cX12_plantTold 76 = .ok (.iadd, 1) := by decide +kernel
theorem dX12_plantTold_77 : decode cX12_plantTold 77 = .ok (.iaload, 1) := by decide +kernel
theorem dX12_plantTold_78 : decode cX12_plantTold 78 = .ok (.aload_n 0, 1) := by decide +kernel
theorem dX12_plantTold_79 : decode cX12_plantTold 79 = .ok (.getfield 142, 3) := by decide +kernel
theorem dX12_plantTold_82 : decode cX12_plantTold 82 = .ok (.iload_n 1, 1) := by decide +kernel
theorem dX12_plantTold_83 : decode cX12_plantTold 83 = .ok (.iconst 2, 1) := by decide +kernel
theorem dX12_plantTold_84 : decode cX12_plantTold 84 = .ok (.iadd, 1) := by decide +kernel
theorem dX12_plantTold_85 : decode cX12_plantTold 85 = .ok (.iaload, 1) := by decide +kernel
theorem dX12_plantTold_86 : decode cX12_plantTold 86 = .ok (.aload_n 0, 1) := by decide +kernel
theorem dX12_plantTold_87 : decode cX12_plantTold 87 = .ok (.getfield 142, 3) := by decide +kernel
theorem dX12_plantTold_90 : decode cX12_plantTold 90 = .ok (.iload_n 1, 1) := by decide +kernel
theorem dX12_plantTold_91 : decode cX12_plantTold 91 = .ok (.iconst 3, 1) := by decide +kernel
theorem dX12_plantTold_92 : decode cX12_plantTold 92 = .ok (.iadd, 1) := by decide +kernel
theorem dX12_plantTold_93 : decode cX12_plantTold 93 = .ok (.iaload, 1) := by decide +kernel
theorem dX12_plantTold_94 : decode cX12_plantTold 94 = .ok (.aload_n 0, 1) := by decide +kernel
theorem dX12_plantTold_95 : decode cX12_plantTold 95 = .ok (.getfield 142, 3) := by decide +kernel
theorem dX12_plantTold_98 : decode cX12_plantTold 98 = .ok (.iload_n 1, 1) := by decide +kernel
theorem dX12_plantTold_99 : decode cX12_plantTold 99 = .ok (.iconst 4, 1) := by decide +kernel
theorem dX12_plantTold_100 : decode cX12_plantTold 100 = .ok (.iadd, 1) := by decide +kernel
theorem dX12_plantTold_101 : decode cX12_plantTold 101 = .ok (.iaload, 1) := by decide +kernel
theorem dX12_plantTold_102 : decode cX12_plantTold 102 = .ok (.invokevirtual 306, 3) := by decide +kernel
theorem dX12_plantTold_105 : decode cX12_plantTold 105 = .ok (.iload_n 2, 1) := by decide +kernel
theorem dX12_plantTold_106 : decode cX12_plantTold 106 = .ok (.ireturn, 1) := by decide +kernel
theorem dX12_comesTold_0 : decode cX12_comesTold 0 = .ok (.bipush 7, 2) := by decide +kernel
theorem dX12_comesTold_2 : decode cX12_comesTold 2 = .ok (.iload_n 1, 1) := by decide +kernel
theorem dX12_comesTold_3 : decode cX12_comesTold 3 = .ok (.imul, 1) := by decide +kernel
theorem dX12_comesTold_4 : decode cX12_comesTold 4 = .ok (.istore_n 2, 1) := by decide +kernel
theorem dX12_comesTold_5 : decode cX12_comesTold 5 = .ok (.aload_n 0, 1) := by decide +kernel
theorem dX12_comesTold_6 : decode cX12_comesTold 6 = .ok (.getfield 142, 3) := by decide +kernel
theorem dX12_comesTold_9 : decode cX12_comesTold 9 = .ok (.iload_n 2, 1) := by decide +kernel
theorem dX12_comesTold_10 : decode cX12_comesTold 10 = .ok (.iaload, 1) := by decide +kernel
theorem dX12_comesTold_11 : decode cX12_comesTold 11 = .ok (.istore_n 3, 1) := by decide +kernel
theorem dX12_comesTold_12 : decode cX12_comesTold 12 = .ok (.iconst 1, 1) := by decide +kernel
theorem dX12_comesTold_13 : decode cX12_comesTold 13 = .ok (.istore 4, 2) := by decide +kernel
theorem dX12_comesTold_15 : decode cX12_comesTold 15 = .ok (.aload_n 0, 1) := by decide +kernel
theorem dX12_comesTold_16 : decode cX12_comesTold 16 = .ok (.getfield 139, 3) := by decide +kernel
theorem dX12_comesTold_19 : decode cX12_comesTold 19 = .ok (.iload_n 1, 1) := by decide +kernel
theorem dX12_comesTold_20 : decode cX12_comesTold 20 = .ok (.iaload, 1) := by decide +kernel
theorem dX12_comesTold_21 : decode cX12_comesTold 21 = .ok (.tableswitch 195 100 116 #[188, 195, 83, 195, 195, 195, 195, 111, 195, 195, 195, 178, 105, 195, 195, 195, 172], 83) := by decide +kernel
theorem dX12_comesTold_104 : decode cX12_comesTold 104 = .ok (.aload_n 0, 1) := by decide +kernel
theorem dX12_comesTold_105 : decode cX12_comesTold 105 = .ok (.iload_n 3, 1) := by decide +kernel
theorem dX12_comesTold_106 : decode cX12_comesTold 106 = .ok (.aload_n 0, 1) := by decide +kernel
theorem dX12_comesTold_107 : decode cX12_comesTold 107 = .ok (.getfield 142, 3) := by decide +kernel
theorem dX12_comesTold_110 : decode cX12_comesTold 110 = .ok (.iload_n 2, 1) := by decide +kernel
theorem dX12_comesTold_111 : decode cX12_comesTold 111 = .ok (.iconst 1, 1) := by decide +kernel
theorem dX12_comesTold_112 : decode cX12_comesTold 112 = .ok (.iadd, 1) := by decide +kernel
theorem dX12_comesTold_113 : decode cX12_comesTold 113 = .ok (.iaload, 1) := by decide +kernel
theorem dX12_comesTold_114 : decode cX12_comesTold 114 = .ok (.aload_n 0, 1) := by decide +kernel
theorem dX12_comesTold_115 : decode cX12_comesTold 115 = .ok (.getfield 142, 3) := by decide +kernel
theorem dX12_comesTold_118 : decode cX12_comesTold 118 = .ok (.iload_n 2, 1) := by decide +kernel
theorem dX12_comesTold_119 : decode cX12_comesTold 119 = .ok (.iconst 2, 1) := by decide +kernel
theorem dX12_comesTold_120 : decode cX12_comesTold 120 = .ok (.iadd, 1) := by decide +kernel
theorem dX12_comesTold_121 : decode cX12_comesTold 121 = .ok (.iaload, 1) := by decide +kernel
theorem dX12_comesTold_122 : decode cX12_comesTold 122 = .ok (.invokevirtual 310, 3) := by decide +kernel
theorem dX12_comesTold_125 : decode cX12_comesTold 125 = .ok (.ireturn, 1) := by decide +kernel
theorem dX12_comesTold_126 : decode cX12_comesTold 126 = .ok (.aload_n 0, 1) := by decide +kernel
theorem dX12_comesTold_127 : decode cX12_comesTold 127 = .ok (.iload_n 2, 1) := by decide +kernel
theorem dX12_comesTold_128 : decode cX12_comesTold 128 = .ok (.invokevirtual 313, 3) := by decide +kernel
theorem dX12_comesTold_131 : decode cX12_comesTold 131 = .ok (.ireturn, 1) := by decide +kernel
theorem dX12_comesTold_132 : decode cX12_comesTold 132 = .ok (.iload_n 3, 1) := by decide +kernel
theorem dX12_comesTold_133 : decode cX12_comesTold 133 = .ok (.invokestatic 294, 3) := by decide +kernel
theorem dX12_comesTold_136 : decode cX12_comesTold 136 = .ok (.ifCond .eq 33, 3) := by decide +kernel
theorem dX12_comesTold_139 : decode cX12_comesTold 139 = .ok (.aload_n 0, 1) := by decide +kernel
theorem dX12_comesTold_140 : decode cX12_comesTold 140 = .ok (.getfield 142, 3) := by decide +kernel
theorem dX12_comesTold_143 : decode cX12_comesTold 143 = .ok (.iload_n 2, 1) := by decide +kernel
theorem dX12_comesTold_144 : decode cX12_comesTold 144 = .ok (.iconst 1, 1) := by decide +kernel
theorem dX12_comesTold_145 : decode cX12_comesTold 145 = .ok (.iadd, 1) := by decide +kernel
theorem dX12_comesTold_146 : decode cX12_comesTold 146 = .ok (.iaload, 1) := by decide +kernel
theorem dX12_comesTold_147 : decode cX12_comesTold 147 = .ok (.invokestatic 294, 3) := by decide +kernel
theorem dX12_comesTold_150 : decode cX12_comesTold 150 = .ok (.ifCond .eq 19, 3) := by decide +kernel
theorem dX12_comesTold_153 : decode cX12_comesTold 153 = .ok (.iload_n 3, 1) := by decide +kernel
theorem dX12_comesTold_154 : decode cX12_comesTold 154 = .ok (.aload_n 0, 1) := by decide +kernel
theorem dX12_comesTold_155 : decode cX12_comesTold 155 = .ok (.getfield 142, 3) := by decide +kernel
theorem dX12_comesTold_158 : decode cX12_comesTold 158 = .ok (.iload_n 2, 1) := by decide +kernel
theorem dX12_comesTold_159 : decode cX12_comesTold 159 = .ok (.iconst 1, 1) := by decide +kernel
theorem dX12_comesTold_160 : decode cX12_comesTold 160 = .ok (.iadd, 1) := by decide +kernel
theorem dX12_comesTold_161 : decode cX12_comesTold 161 = .ok (.iaload, 1) := by decide +kernel
theorem dX12_comesTold_162 : decode cX12_comesTold 162 = .ok (.if_icmp .eq 7, 3) := by decide +kernel
theorem dX12_comesTold_165 : decode cX12_comesTold 165 = .ok (.iconst 1, 1) := by decide +kernel
theorem dX12_comesTold_166 : decode cX12_comesTold 166 = .ok (.goto 4, 3) := by decide +kernel
theorem dX12_comesTold_169 : decode cX12_comesTold 169 = .ok (.iconst 0, 1) := by decide +kernel
theorem dX12_comesTold_170 : decode cX12_comesTold 170 = .ok (.istore 4, 2) := by decide +kernel
theorem dX12_comesTold_172 : decode cX12_comesTold 172 = .ok (.iload 4, 2) := by decide +kernel
theorem dX12_comesTold_174 : decode cX12_comesTold 174 = .ok (.ifCond .eq 16, 3) := by decide +kernel
theorem dX12_comesTold_177 : decode cX12_comesTold 177 = .ok (.aload_n 0, 1) := by decide +kernel
theorem dX12_comesTold_178 : decode cX12_comesTold 178 = .ok (.iload_n 3, 1) := by decide +kernel
theorem dX12_comesTold_179 : decode cX12_comesTold 179 = .ok (.aload_n 0, 1) := by decide +kernel
theorem dX12_comesTold_180 : decode cX12_comesTold 180 = .ok (.getfield 142, 3) := by decide +kernel
theorem dX12_comesTold_183 : decode cX12_comesTold 183 = .ok (.iload_n 2, 1) := by decide +kernel
theorem dX12_comesTold_184 : decode cX12_comesTold 184 = .ok (.iconst 1, 1) := by decide +kernel
theorem dX12_comesTold_185 : decode cX12_comesTold 185 = .ok (.iadd, 1) := by decide +kernel
theorem dX12_comesTold_186 : decode cX12_comesTold 186 = .ok (.iaload, 1) := by decide +kernel
theorem dX12_comesTold_187 : decode cX12_comesTold 187 = .ok (.invokevirtual 316, 3) := by decide +kernel
theorem dX12_comesTold_190 : decode cX12_comesTold 190 = .ok (.iload 4, 2) := by decide +kernel
theorem dX12_comesTold_192 : decode cX12_comesTold 192 = .ok (.ireturn, 1) := by decide +kernel
theorem dX12_comesTold_193 : decode cX12_comesTold 193 = .ok (.aload_n 0, 1) := by decide +kernel
theorem dX12_comesTold_194 : decode cX12_comesTold 194 = .ok (.iload_n 2, 1) := by decide +kernel
theorem dX12_comesTold_195 : decode cX12_comesTold 195 = .ok (.invokevirtual 319, 3) := by decide +kernel
theorem dX12_comesTold_198 : decode cX12_comesTold 198 = .ok (.ireturn, 1) := by decide +kernel
theorem dX12_comesTold_199 : decode cX12_comesTold 199 = .ok (.aload_n 0, 1) := by decide +kernel
theorem dX12_comesTold_200 : decode cX12_comesTold 200 = .ok (.iload_n 3, 1) := by decide +kernel
theorem dX12_comesTold_201 : decode cX12_comesTold 201 = .ok (.putfield 25, 3) := by decide +kernel
theorem dX12_comesTold_204 : decode cX12_comesTold 204 = .ok (.iload_n 3, 1) := by decide +kernel
theorem dX12_comesTold_205 : decode cX12_comesTold 205 = .ok (.invokestatic 297, 3) := by decide +kernel
theorem dX12_comesTold_208 : decode cX12_comesTold 208 = .ok (.ireturn, 1) := by decide +kernel
theorem dX12_comesTold_209 : decode cX12_comesTold 209 = .ok (.aload_n 0, 1) := by decide +kernel
theorem dX12_comesTold_210 : decode cX12_comesTold 210 = .ok (.iload_n 3, 1) := by decide +kernel
theorem dX12_comesTold_211 : decode cX12_comesTold 211 = .ok (.putfield 29, 3) := by decide +kernel
theorem dX12_comesTold_214 : decode cX12_comesTold 214 = .ok (.iconst 1, 1) := by decide +kernel
theorem dX12_comesTold_215 : decode cX12_comesTold 215 = .ok (.ireturn, 1) := by decide +kernel
theorem dX12_comesTold_216 : decode cX12_comesTold 216 = .ok (.aload_n 0, 1) := by decide +kernel
theorem dX12_comesTold_217 : decode cX12_comesTold 217 = .ok (.iload_n 3, 1) := by decide +kernel
theorem dX12_comesTold_218 : decode cX12_comesTold 218 = .ok (.putfield 32, 3) := by decide +kernel
theorem dX12_comesTold_221 : decode cX12_comesTold 221 = .ok (.iload_n 3, 1) := by decide +kernel
theorem dX12_comesTold_222 : decode cX12_comesTold 222 = .ok (.ifCond .le 7, 3) := by decide +kernel
theorem dX12_comesTold_225 : decode cX12_comesTold 225 = .ok (.iconst 1, 1) := by decide +kernel
theorem dX12_comesTold_226 : decode cX12_comesTold 226 = .ok (.goto 4, 3) := by decide +kernel
theorem dX12_comesTold_229 : decode cX12_comesTold 229 = .ok (.iconst 0, 1) := by decide +kernel
theorem dX12_comesTold_230 : decode cX12_comesTold 230 = .ok (.ireturn, 1) := by decide +kernel
theorem dX12_wrongRow_0 : decode cX12_wrongRow 0 = .ok (.iload_n 1, 1) := by decide +kernel
theorem dX12_wrongRow_1 : decode cX12_wrongRow 1 = .ok (.i2l, 1) := by decide +kernel
theorem dX12_wrongRow_2 : decode cX12_wrongRow 2 = .ok (.lconst 0, 1) := by decide +kernel
theorem dX12_wrongRow_3 : decode cX12_wrongRow 3 = .ok (.ldc2_w 353, 3) := by decide +kernel
theorem dX12_wrongRow_6 : decode cX12_wrongRow 6 = .ok (.invokestatic 165, 3) := by decide +kernel
theorem dX12_wrongRow_9 : decode cX12_wrongRow 9 = .ok (.ifCond .ne 7, 3) := by decide +kernel
theorem dX12_wrongRow_12 : decode cX12_wrongRow 12 = .ok (.iconst (-1), 1) := by decide +kernel
theorem dX12_wrongRow_13 : decode cX12_wrongRow 13 = .ok (.goto 33, 3) := by decide +kernel
theorem dX12_wrongRow_16 : decode cX12_wrongRow 16 = .ok (.aload_n 0, 1) := by decide +kernel
theorem dX12_wrongRow_17 : decode cX12_wrongRow 17 = .ok (.getfield 68, 3) := by decide +kernel
theorem dX12_wrongRow_20 : decode cX12_wrongRow 20 = .ok (.iload_n 1, 1) := by decide +kernel
theorem dX12_wrongRow_21 : decode cX12_wrongRow 21 = .ok (.iaload, 1) := by decide +kernel
theorem dX12_wrongRow_22 : decode cX12_wrongRow 22 = .ok (.ifCond .ne 8, 3) := by decide +kernel
theorem dX12_wrongRow_25 : decode cX12_wrongRow 25 = .ok (.bipush (-11), 2) := by decide +kernel
theorem dX12_wrongRow_27 : decode cX12_wrongRow 27 = .ok (.goto 19, 3) := by decide +kernel
theorem dX12_wrongRow_30 : decode cX12_wrongRow 30 = .ok (.aload_n 0, 1) := by decide +kernel
theorem dX12_wrongRow_31 : decode cX12_wrongRow 31 = .ok (.getfield 68, 3) := by decide +kernel
theorem dX12_wrongRow_34 : decode cX12_wrongRow 34 = .ok (.iload_n 1, 1) := by decide +kernel
theorem dX12_wrongRow_35 : decode cX12_wrongRow 35 = .ok (.iaload, 1) := by decide +kernel
theorem dX12_wrongRow_36 : decode cX12_wrongRow 36 = .ok (.iconst 2, 1) := by decide +kernel
theorem dX12_wrongRow_37 : decode cX12_wrongRow 37 = .ok (.if_icmp .eq 8, 3) := by decide +kernel
theorem dX12_wrongRow_40 : decode cX12_wrongRow 40 = .ok (.bipush (-12), 2) := by decide +kernel
theorem dX12_wrongRow_42 : decode cX12_wrongRow 42 = .ok (.goto 4, 3) := by decide +kernel
theorem dX12_wrongRow_45 : decode cX12_wrongRow 45 = .ok (.iconst 0, 1) := by decide +kernel
theorem dX12_wrongRow_46 : decode cX12_wrongRow 46 = .ok (.ireturn, 1) := by decide +kernel
theorem dX12_town_0 : decode cX12_town 0 = .ok (.aload_n 0, 1) := by decide +kernel
theorem dX12_town_1 : decode cX12_town 1 = .ok (.iconst 0, 1) := by decide +kernel
theorem dX12_town_2 : decode cX12_town 2 = .ok (.putfield 160, 3) := by decide +kernel
theorem dX12_town_5 : decode cX12_town 5 = .ok (.aload_n 0, 1) := by decide +kernel
theorem dX12_town_6 : decode cX12_town 6 = .ok (.iload_n 1, 1) := by decide +kernel
theorem dX12_town_7 : decode cX12_town 7 = .ok (.invokevirtual 322, 3) := by decide +kernel
theorem dX12_town_10 : decode cX12_town 10 = .ok (.istore_n 2, 1) := by decide +kernel
theorem dX12_town_11 : decode cX12_town 11 = .ok (.iload_n 2, 1) := by decide +kernel
theorem dX12_town_12 : decode cX12_town 12 = .ok (.ifCond .ne 17, 3) := by decide +kernel
theorem dX12_town_15 : decode cX12_town 15 = .ok (.aload_n 0, 1) := by decide +kernel
theorem dX12_town_16 : decode cX12_town 16 = .ok (.getfield 77, 3) := by decide +kernel
theorem dX12_town_19 : decode cX12_town 19 = .ok (.iload_n 1, 1) := by decide +kernel
theorem dX12_town_20 : decode cX12_town 20 = .ok (.iaload, 1) := by decide +kernel
theorem dX12_town_21 : decode cX12_town 21 = .ok (.ifCond .eq 8, 3) := by decide +kernel
theorem dX12_town_24 : decode cX12_town 24 = .ok (.bipush (-12), 2) := by decide +kernel
theorem dX12_town_26 : decode cX12_town 26 = .ok (.goto 4, 3) := by decide +kernel
theorem dX12_town_29 : decode cX12_town 29 = .ok (.iload_n 2, 1) := by decide +kernel
theorem dX12_town_30 : decode cX12_town 30 = .ok (.istore_n 2, 1) := by decide +kernel
theorem dX12_town_31 : decode cX12_town 31 = .ok (.iload_n 2, 1) := by decide +kernel
theorem dX12_town_32 : decode cX12_town 32 = .ok (.ifCond .ge 5, 3) := by decide +kernel
theorem dX12_town_35 : decode cX12_town 35 = .ok (.iload_n 2, 1) := by decide +kernel
theorem dX12_town_36 : decode cX12_town 36 = .ok (.ireturn, 1) := by decide +kernel
theorem dX12_town_37 : decode cX12_town 37 = .ok (.aload_n 0, 1) := by decide +kernel
theorem dX12_town_38 : decode cX12_town 38 = .ok (.iload_n 1, 1) := by decide +kernel
theorem dX12_town_39 : decode cX12_town 39 = .ok (.putfield 264, 3) := by decide +kernel
theorem dX12_town_42 : decode cX12_town 42 = .ok (.aload_n 0, 1) := by decide +kernel
theorem dX12_town_43 : decode cX12_town 43 = .ok (.iconst 0, 1) := by decide +kernel
theorem dX12_town_44 : decode cX12_town 44 = .ok (.putfield 261, 3) := by decide +kernel
theorem dX12_town_47 : decode cX12_town 47 = .ok (.aload_n 0, 1) := by decide +kernel
theorem dX12_town_48 : decode cX12_town 48 = .ok (.iconst 0, 1) := by decide +kernel
theorem dX12_town_49 : decode cX12_town 49 = .ok (.putfield 267, 3) := by decide +kernel
theorem dX12_town_52 : decode cX12_town 52 = .ok (.aload_n 0, 1) := by decide +kernel
theorem dX12_town_53 : decode cX12_town 53 = .ok (.iconst 0, 1) := by decide +kernel
theorem dX12_town_54 : decode cX12_town 54 = .ok (.putfield 284, 3) := by decide +kernel
theorem dX12_town_57 : decode cX12_town 57 = .ok (.aload_n 0, 1) := by decide +kernel
theorem dX12_town_58 : decode cX12_town 58 = .ok (.getfield 267, 3) := by decide +kernel
theorem dX12_town_61 : decode cX12_town 61 = .ok (.ifCond .ne 30, 3) := by decide +kernel
theorem dX12_town_64 : decode cX12_town 64 = .ok (.aload_n 0, 1) := by decide +kernel
theorem dX12_town_65 : decode cX12_town 65 = .ok (.getfield 284, 3) := by decide +kernel
theorem dX12_town_68 : decode cX12_town 68 = .ok (.ifCond .eq 16, 3) := by decide +kernel
theorem dX12_town_71 : decode cX12_town 71 = .ok (.aload_n 0, 1) := by decide +kernel
theorem dX12_town_72 : decode cX12_town 72 = .ok (.getfield 261, 3) := by decide +kernel
theorem dX12_town_75 : decode cX12_town 75 = .ok (.aload_n 0, 1) := by decide +kernel
theorem dX12_town_76 : decode cX12_town 76 = .ok (.getfield 80, 3) := by decide +kernel
theorem dX12_town_79 : decode cX12_town 79 = .ok (.iload_n 1, 1) := by decide +kernel
theorem dX12_town_80 : decode cX12_town 80 = .ok (.iaload, 1) := by decide +kernel
theorem dX12_town_81 : decode cX12_town 81 = .ok (.if_icmp .ge 10, 3) := by decide +kernel
theorem dX12_town_84 : decode cX12_town 84 = .ok (.aload_n 0, 1) := by decide +kernel
theorem dX12_town_85 : decode cX12_town 85 = .ok (.invokevirtual 325, 3) := by decide +kernel
theorem dX12_town_88 : decode cX12_town 88 = .ok (.goto (-31), 3) := by decide +kernel
theorem dX12_town_91 : decode cX12_town 91 = .ok (.aload_n 0, 1) := by decide +kernel
theorem dX12_town_92 : decode cX12_town 92 = .ok (.getfield 267, 3) := by decide +kernel
theorem dX12_town_95 : decode cX12_town 95 = .ok (.ifCond .eq 12, 3) := by decide +kernel
theorem dX12_town_98 : decode cX12_town 98 = .ok (.sipush (-1000), 3) := by decide +kernel
theorem dX12_town_101 : decode cX12_town 101 = .ok (.aload_n 0, 1) := by decide +kernel
theorem dX12_town_102 : decode cX12_town 102 = .ok (.getfield 261, 3) := by decide +kernel
theorem dX12_town_105 : decode cX12_town 105 = .ok (.isub, 1) := by decide +kernel
theorem dX12_town_106 : decode cX12_town 106 = .ok (.ireturn, 1) := by decide +kernel
theorem dX12_town_107 : decode cX12_town 107 = .ok (.aload_n 0, 1) := by decide +kernel
theorem dX12_town_108 : decode cX12_town 108 = .ok (.invokevirtual 328, 3) := by decide +kernel
theorem dX12_town_111 : decode cX12_town 111 = .ok (.iconst 0, 1) := by decide +kernel
theorem dX12_town_112 : decode cX12_town 112 = .ok (.istore_n 3, 1) := by decide +kernel
theorem dX12_town_113 : decode cX12_town 113 = .ok (.iload_n 3, 1) := by decide +kernel
theorem dX12_town_114 : decode cX12_town 114 = .ok (.aload_n 0, 1) := by decide +kernel
theorem dX12_town_115 : decode cX12_town 115 = .ok (.getfield 284, 3) := by decide +kernel
theorem dX12_town_118 : decode cX12_town 118 = .ok (.if_icmp .ge 32, 3) := by decide +kernel
theorem dX12_town_121 : decode cX12_town 121 = .ok (.aload_n 0, 1) := by decide +kernel
theorem dX12_town_122 : decode cX12_town 122 = .ok (.iload_n 3, 1) := by decide +kernel
theorem dX12_town_123 : decode cX12_town 123 = .ok (.invokevirtual 331, 3) := by decide +kernel
theorem dX12_town_126 : decode cX12_town 126 = .ok (.ifCond .ne 18, 3) := by decide +kernel
theorem dX12_town_129 : decode cX12_town 129 = .ok (.aload_n 0, 1) := by decide +kernel
theorem dX12_town_130 : decode cX12_town 130 = .ok (.invokevirtual 334, 3) := by decide +kernel
theorem dX12_town_133 : decode cX12_town 133 = .ok (.sipush (-2000), 3) := by decide +kernel
theorem dX12_town_136 : decode cX12_town 136 = .ok (.aload_n 0, 1) := by decide +kernel
theorem dX12_town_137 : decode cX12_town 137 = .ok (.getfield 136, 3) := by decide +kernel
theorem dX12_town_140 : decode cX12_town 140 = .ok (.iload_n 3, 1) := by decide +kernel
theorem dX12_town_141 : decode cX12_town 141 = .ok (.iaload, 1) := by decide +kernel
theorem dX12_town_142 : decode cX12_town 142 = .ok (.isub, 1) := by decide +kernel
theorem dX12_town_143 : decode cX12_town 143 = .ok (.ireturn, 1) := by decide +kernel
theorem dX12_town_144 : decode cX12_town 144 = .ok (.iinc 3 1, 3) := by decide +kernel
theorem dX12_town_147 : decode cX12_town 147 = .ok (.goto (-34), 3) := by decide +kernel
theorem dX12_town_150 : decode cX12_town 150 = .ok (.aload_n 0, 1) := by decide +kernel
theorem dX12_town_151 : decode cX12_town 151 = .ok (.getfield 284, 3) := by decide +kernel
theorem dX12_town_154 : decode cX12_town 154 = .ok (.ireturn, 1) := by decide +kernel
theorem dX12_person_0 : decode cX12_person 0 = .ok (.aload_n 0, 1) := by decide +kernel
theorem dX12_person_1 : decode cX12_person 1 = .ok (.iconst 0, 1) := by decide +kernel
theorem dX12_person_2 : decode cX12_person 2 = .ok (.putfield 160, 3) := by decide +kernel
theorem dX12_person_5 : decode cX12_person 5 = .ok (.aload_n 0, 1) := by decide +kernel
theorem dX12_person_6 : decode cX12_person 6 = .ok (.iload_n 1, 1) := by decide +kernel
theorem dX12_person_7 : decode cX12_person 7 = .ok (.invokevirtual 337, 3) := by decide +kernel
theorem dX12_person_10 : decode cX12_person 10 = .ok (.ifCond .ne 5, 3) := by decide +kernel
theorem dX12_person_13 : decode cX12_person 13 = .ok (.iconst (-1), 1) := by decide +kernel
theorem dX12_person_14 : decode cX12_person 14 = .ok (.ireturn, 1) := by decide +kernel
theorem dX12_person_15 : decode cX12_person 15 = .ok (.iload_n 2, 1) := by decide +kernel
theorem dX12_person_16 : decode cX12_person 16 = .ok (.tableswitch 95 0 6 #[44, 51, 58, 65, 72, 78, 85], 44) := by decide +kernel
theorem dX12_person_60 : decode cX12_person 60 = .ok (.aload_n 0, 1) := by decide +kernel
theorem dX12_person_61 : decode cX12_person 61 = .ok (.getfield 50, 3) := by decide +kernel
theorem dX12_person_64 : decode cX12_person 64 = .ok (.iload_n 1, 1) := by decide +kernel
theorem dX12_person_65 : decode cX12_person 65 = .ok (.iaload, 1) := by decide +kernel
theorem dX12_person_66 : decode cX12_person 66 = .ok (.ireturn, 1) := by decide +kernel
theorem dX12_person_67 : decode cX12_person 67 = .ok (.aload_n 0, 1) := by decide +kernel
theorem dX12_person_68 : decode cX12_person 68 = .ok (.getfield 53, 3) := by decide +kernel
theorem dX12_person_71 : decode cX12_person 71 = .ok (.iload_n 1, 1) := by decide +kernel
theorem dX12_person_72 : decode cX12_person 72 = .ok (.iaload, 1) := by decide +kernel
theorem dX12_person_73 : decode cX12_person 73 = .ok (.ireturn, 1) := by decide +kernel
theorem dX12_person_74 : decode cX12_person 74 = .ok (.aload_n 0, 1) := by decide +kernel
theorem dX12_person_75 : decode cX12_person 75 = .ok (.getfield 56, 3) := by decide +kernel
theorem dX12_person_78 : decode cX12_person 78 = .ok (.iload_n 1, 1) := by decide +kernel
theorem dX12_person_79 : decode cX12_person 79 = .ok (.iaload, 1) := by decide +kernel
theorem dX12_person_80 : decode cX12_person 80 = .ok (.ireturn, 1) := by decide +kernel
theorem dX12_person_81 : decode cX12_person 81 = .ok (.aload_n 0, 1) := by decide +kernel
theorem dX12_person_82 : decode cX12_person 82 = .ok (.getfield 59, 3) := by decide +kernel
theorem dX12_person_85 : decode cX12_person 85 = .ok (.iload_n 1, 1) := by decide +kernel
theorem dX12_person_86 : decode cX12_person 86 = .ok (.iaload, 1) := by decide +kernel
theorem dX12_person_87 : decode cX12_person 87 = .ok (.ireturn, 1) := by decide +kernel
theorem dX12_person_88 : decode cX12_person 88 = .ok (.aload_n 0, 1) := by decide +kernel
theorem dX12_person_89 : decode cX12_person 89 = .ok (.iload_n 1, 1) := by decide +kernel
theorem dX12_person_90 : decode cX12_person 90 = .ok (.invokevirtual 187, 3) := by decide +kernel
theorem dX12_person_93 : decode cX12_person 93 = .ok (.ireturn, 1) := by decide +kernel
theorem dX12_person_94 : decode cX12_person 94 = .ok (.aload_n 0, 1) := by decide +kernel
theorem dX12_person_95 : decode cX12_person 95 = .ok (.getfield 65, 3) := by decide +kernel
theorem dX12_person_98 : decode cX12_person 98 = .ok (.iload_n 1, 1) := by decide +kernel
theorem dX12_person_99 : decode cX12_person 99 = .ok (.iaload, 1) := by decide +kernel
theorem dX12_person_100 : decode cX12_person 100 = .ok (.ireturn, 1) := by decide +kernel
theorem dX12_person_101 : decode cX12_person 101 = .ok (.aload_n 0, 1) := by decide +kernel
theorem dX12_person_102 : decode cX12_person 102 = .ok (.getfield 62, 3) := by decide +kernel
theorem dX12_person_105 : decode cX12_person 105 = .ok (.iload_n 1, 1) := by decide +kernel
theorem dX12_person_106 : decode cX12_person 106 = .ok (.iaload, 1) := by decide +kernel
theorem dX12_person_107 : decode cX12_person 107 = .ok (.bipush 9, 2) := by decide +kernel
theorem dX12_person_109 : decode cX12_person 109 = .ok (.iadd, 1) := by decide +kernel
theorem dX12_person_110 : decode cX12_person 110 = .ok (.ireturn, 1) := by decide +kernel
theorem dX12_person_111 : decode cX12_person 111 = .ok (.iconst (-1), 1) := by decide +kernel
theorem dX12_person_112 : decode cX12_person 112 = .ok (.ireturn, 1) := by decide +kernel
theorem dX12_weighs_0 : decode cX12_weighs 0 = .ok (.aload_n 0, 1) := by decide +kernel
theorem dX12_weighs_1 : decode cX12_weighs 1 = .ok (.iconst 0, 1) := by decide +kernel
theorem dX12_weighs_2 : decode cX12_weighs 2 = .ok (.putfield 160, 3) := by decide +kernel
theorem dX12_weighs_5 : decode cX12_weighs 5 = .ok (.aload_n 0, 1) := by decide +kernel
theorem dX12_weighs_6 : decode cX12_weighs 6 = .ok (.iload_n 1, 1) := by decide +kernel
theorem dX12_weighs_7 : decode cX12_weighs 7 = .ok (.invokevirtual 337, 3) := by decide +kernel
theorem dX12_weighs_10 : decode cX12_weighs 10 = .ok (.ifCond .eq 41, 3) := by decide +kernel
theorem dX12_weighs_13 : decode cX12_weighs 13 = .ok (.iload_n 2, 1) := by decide +kernel
theorem dX12_weighs_14 : decode cX12_weighs 14 = .ok (.i2l, 1) := by decide +kernel
theorem dX12_weighs_15 : decode cX12_weighs 15 = .ok (.ldc2_w 340, 3) := by decide +kernel
theorem dX12_weighs_18 : decode cX12_weighs 18 = .ok (.ldc2_w 342, 3) := by decide +kernel
theorem dX12_weighs_21 : decode cX12_weighs 21 = .ok (.invokestatic 165, 3) := by decide +kernel
theorem dX12_weighs_24 : decode cX12_weighs 24 = .ok (.ifCond .eq 27, 3) := by decide +kernel
theorem dX12_weighs_27 : decode cX12_weighs 27 = .ok (.iload_n 3, 1) := by decide +kernel
theorem dX12_weighs_28 : decode cX12_weighs 28 = .ok (.i2l, 1) := by decide +kernel
theorem dX12_weighs_29 : decode cX12_weighs 29 = .ok (.ldc2_w 344, 3) := by decide +kernel
theorem dX12_weighs_32 : decode cX12_weighs 32 = .ok (.ldc2_w 346, 3) := by decide +kernel
theorem dX12_weighs_35 : decode cX12_weighs 35 = .ok (.invokestatic 165, 3) := by decide +kernel
theorem dX12_weighs_38 : decode cX12_weighs 38 = .ok (.ifCond .eq 13, 3) := by decide +kernel
theorem dX12_weighs_41 : decode cX12_weighs 41 = .ok (.aload_n 0, 1) := by decide +kernel
theorem dX12_weighs_42 : decode cX12_weighs 42 = .ok (.iload_n 1, 1) := by decide +kernel
theorem dX12_weighs_43 : decode cX12_weighs 43 = .ok (.iload_n 2, 1) := by decide +kernel
theorem dX12_weighs_44 : decode cX12_weighs 44 = .ok (.iload_n 3, 1) := by decide +kernel
theorem dX12_weighs_45 : decode cX12_weighs 45 = .ok (.invokevirtual 194, 3) := by decide +kernel
theorem dX12_weighs_48 : decode cX12_weighs 48 = .ok (.goto 6, 3) := by decide +kernel
theorem dX12_weighs_51 : decode cX12_weighs 51 = .ok (.ldc_w 348, 3) := by decide +kernel
theorem dX12_weighs_54 : decode cX12_weighs 54 = .ok (.ireturn, 1) := by decide +kernel
theorem dX12_strength_0 : decode cX12_strength 0 = .ok (.aload_n 0, 1) := by decide +kernel
theorem dX12_strength_1 : decode cX12_strength 1 = .ok (.iconst 0, 1) := by decide +kernel
theorem dX12_strength_2 : decode cX12_strength 2 = .ok (.putfield 160, 3) := by decide +kernel
theorem dX12_strength_5 : decode cX12_strength 5 = .ok (.aload_n 0, 1) := by decide +kernel
theorem dX12_strength_6 : decode cX12_strength 6 = .ok (.iload_n 1, 1) := by decide +kernel
theorem dX12_strength_7 : decode cX12_strength 7 = .ok (.invokevirtual 337, 3) := by decide +kernel
theorem dX12_strength_10 : decode cX12_strength 10 = .ok (.ifCond .eq 26, 3) := by decide +kernel
theorem dX12_strength_13 : decode cX12_strength 13 = .ok (.iload_n 2, 1) := by decide +kernel
theorem dX12_strength_14 : decode cX12_strength 14 = .ok (.i2l, 1) := by decide +kernel
theorem dX12_strength_15 : decode cX12_strength 15 = .ok (.ldc2_w 349, 3) := by decide +kernel
theorem dX12_strength_18 : decode cX12_strength 18 = .ok (.ldc2_w 351, 3) := by decide +kernel
theorem dX12_strength_21 : decode cX12_strength 21 = .ok (.invokestatic 165, 3) := by decide +kernel
theorem dX12_strength_24 : decode cX12_strength 24 = .ok (.ifCond .eq 12, 3) := by decide +kernel
theorem dX12_strength_27 : decode cX12_strength 27 = .ok (.aload_n 0, 1) := by decide +kernel
theorem dX12_strength_28 : decode cX12_strength 28 = .ok (.iload_n 1, 1) := by decide +kernel
theorem dX12_strength_29 : decode cX12_strength 29 = .ok (.iload_n 2, 1) := by decide +kernel
theorem dX12_strength_30 : decode cX12_strength 30 = .ok (.invokevirtual 201, 3) := by decide +kernel
theorem dX12_strength_33 : decode cX12_strength 33 = .ok (.goto 4, 3) := by decide +kernel
theorem dX12_strength_36 : decode cX12_strength 36 = .ok (.iconst (-1), 1) := by decide +kernel
theorem dX12_strength_37 : decode cX12_strength 37 = .ok (.ireturn, 1) := by decide +kernel
def b_X12_oneTold_53 (v1 : Int32) (s0 : Int32) (S : St) : Option (Int32 × St) := (if (s0 : Int32) = 0 then gd ((s0 : Int32) == 0 || (s0 : Int32) == 1) (some (s0, S)) else gd (inb v1 357) (gd (inb (v1 + 1) 357) (gd (inb (v1 + 2) 357) (gd (inb (v1 + 3) 357) (gd (inb (v1 + 4) 357) (gd (inb (v1 + 5) 357) ((L_X12_oneComes (gi S 176 v1.toNatClampNeg) (gi S 176 (v1 + 1).toNatClampNeg) (gi S 176 (v1 + 2).toNatClampNeg) (gi S 176 (v1 + 3).toNatClampNeg) (gi S 176 (v1 + 4).toNatClampNeg) (gi S 176 (v1 + 5).toNatClampNeg) S).bind fun r9 => gd ((s0 : Int32) == 0 || (s0 : Int32) == 1) (some (s0, r9)))))))))
def b_X12_oneTold_52 (v1 : Int32) (S : St) : Option (Int32 × St) := (b_X12_oneTold_53 v1 0 S)
def b_X12_oneTold_0 (v1 : Int32) (S : St) : Option (Int32 × St) := gd (inb v1 357) ((if (8 : Int32) ≤ (gi S 176 v1.toNatClampNeg) then (b_X12_oneTold_52 v1 S) else gd (inb (v1 + 2) 357) ((L_X12_isCase (gi S 176 (v1 + 2).toNatClampNeg) S).bind fun r4 => (if (r4 : Int32) = 0 then (b_X12_oneTold_52 v1 S) else gd (inb (v1 + 3) 357) ((L_X12_isHour (gi S 176 (v1 + 3).toNatClampNeg) S).bind fun r7 => (if (r7 : Int32) = 0 then (b_X12_oneTold_52 v1 S) else (if (8 : Int32) ≤ (gi S 136 15) then (b_X12_oneTold_52 v1 S) else (b_X12_oneTold_53 v1 1 S))))))))
def L_X12_oneTold (a1 : Int32) (S : St) : Option (Int32 × St) := b_X12_oneTold_0 a1 S
def b_X12_plantTold_58 (v1 : Int32) (s0 : Int32) (S : St) : Option (Int32 × St) := (if (s0 : Int32) = 0 then gd ((s0 : Int32) == 0 || (s0 : Int32) == 1) (some (s0, S)) else gd (inb v1 357) (gd (inb (v1 + 1) 357) (gd (inb (v1 + 2) 357) (gd (inb (v1 + 3) 357) (gd (inb (v1 + 4) 357) ((L_X12_plantComes (gi S 176 v1.toNatClampNeg) (gi S 176 (v1 + 1).toNatClampNeg) (gi S 176 (v1 + 2).toNatClampNeg) (gi S 176 (v1 + 3).toNatClampNeg) (gi S 176 (v1 + 4).toNatClampNeg) S).bind fun r8 => gd ((s0 : Int32) == 0 || (s0 : Int32) == 1) (some (s0, r8))))))))
def b_X12_plantTold_57 (v1 : Int32) (S : St) : Option (Int32 × St) := (b_X12_plantTold_58 v1 0 S)
def b_X12_plantTold_0 (v1 : Int32) (S : St) : Option (Int32 × St) := gd (inb v1 357) ((L_X12_isCase (gi S 176 v1.toNatClampNeg) S).bind fun r2 => (if (r2 : Int32) = 0 then (b_X12_plantTold_57 v1 S) else gd (inb (v1 + 2) 357) ((L_X12_in ((gi S 176 (v1 + 2).toNatClampNeg).toInt64) 1 60 S).bind fun r5 => (if (r5 : Int32) = 0 then (b_X12_plantTold_57 v1 S) else gd (inb (v1 + 4) 357) ((L_X12_isHour (gi S 176 (v1 + 4).toNatClampNeg) S).bind fun r8 => (if (r8 : Int32) = 0 then (b_X12_plantTold_57 v1 S) else (if (3 : Int32) ≤ (gi S 136 9) then (b_X12_plantTold_57 v1 S) else (b_X12_plantTold_58 v1 1 S))))))))
def L_X12_plantTold (a1 : Int32) (S : St) : Option (Int32 × St) := b_X12_plantTold_0 a1 S
def b_X12_comesTold_216 (v3 : Int32) (S : St) : Option (Int32 × St) := nm (si S 136 8 v3) fun S1 => (if (v3 : Int32) ≤ 0 then some (0, S1) else some (1, S1))
def b_X12_comesTold_170 (v2 : Int32) (v3 : Int32) (s0 : Int32) (S : St) : Option (Int32 × St) := (if (s0 : Int32) = 0 then gd ((s0 : Int32) == 0 || (s0 : Int32) == 1) (some (s0, S)) else gd (inb (v2 + 1) 357) ((L_X12_turnKin v3 (gi S 176 (v2 + 1).toNatClampNeg) S).bind fun r4 => gd ((s0 : Int32) == 0 || (s0 : Int32) == 1) (some (s0, r4))))
def b_X12_comesTold_169 (v2 : Int32) (v3 : Int32) (S : St) : Option (Int32 × St) := (b_X12_comesTold_170 v2 v3 0 S)
def b_X12_comesTold_0 (v1 : Int32) (S : St) : Option (Int32 × St) := gd (inb (7 * v1) 357) (gd (inb v1 51) ((if (gi S 175 v1.toNatClampNeg : Int32) = 100 then nm (si S 136 7 (gi S 176 (7 * v1).toNatClampNeg)) fun S4 => some (1, S4) else if (gi S 175 v1.toNatClampNeg : Int32) = 101 then (b_X12_comesTold_216 (gi S 176 (7 * v1).toNatClampNeg) S) else if (gi S 175 v1.toNatClampNeg : Int32) = 102 then gd (inb ((7 * v1) + 1) 357) (gd (inb ((7 * v1) + 2) 357) ((L_X12_factComes (gi S 176 (7 * v1).toNatClampNeg) (gi S 176 ((7 * v1) + 1).toNatClampNeg) (gi S 176 ((7 * v1) + 2).toNatClampNeg) S).bind fun r9 => gd ((r9.1 : Int32) == 0 || (r9.1 : Int32) == 1) (some (r9.1, r9.2)))) else if (gi S 175 v1.toNatClampNeg : Int32) = 103 then (b_X12_comesTold_216 (gi S 176 (7 * v1).toNatClampNeg) S) else if (gi S 175 v1.toNatClampNeg : Int32) = 104 then (b_X12_comesTold_216 (gi S 176 (7 * v1).toNatClampNeg) S) else if (gi S 175 v1.toNatClampNeg : Int32) = 105 then (b_X12_comesTold_216 (gi S 176 (7 * v1).toNatClampNeg) S) else if (gi S 175 v1.toNatClampNeg : Int32) = 106 then (b_X12_comesTold_216 (gi S 176 (7 * v1).toNatClampNeg) S) else if (gi S 175 v1.toNatClampNeg : Int32) = 107 then (L_X12_isCase (gi S 176 (7 * v1).toNatClampNeg) S).bind fun r16 => (if (r16 : Int32) = 0 then (b_X12_comesTold_169 (7 * v1) (gi S 176 (7 * v1).toNatClampNeg) S) else gd (inb ((7 * v1) + 1) 357) ((L_X12_isCase (gi S 176 ((7 * v1) + 1).toNatClampNeg) S).bind fun r19 => (if (r19 : Int32) = 0 then (b_X12_comesTold_169 (7 * v1) (gi S 176 (7 * v1).toNatClampNeg) S) else gd (inb ((7 * v1) + 1) 357) ((if (gi S 176 (7 * v1).toNatClampNeg : Int32) = (gi S 176 ((7 * v1) + 1).toNatClampNeg) then (b_X12_comesTold_169 (7 * v1) (gi S 176 (7 * v1).toNatClampNeg) S) else (b_X12_comesTold_170 (7 * v1) (gi S 176 (7 * v1).toNatClampNeg) 1 S)))))) else if (gi S 175 v1.toNatClampNeg : Int32) = 108 then (b_X12_comesTold_216 (gi S 176 (7 * v1).toNatClampNeg) S) else if (gi S 175 v1.toNatClampNeg : Int32) = 109 then (b_X12_comesTold_216 (gi S 176 (7 * v1).toNatClampNeg) S) else if (gi S 175 v1.toNatClampNeg : Int32) = 110 then (b_X12_comesTold_216 (gi S 176 (7 * v1).toNatClampNeg) S) else if (gi S 175 v1.toNatClampNeg : Int32) = 111 then nm (si S 136 6 (gi S 176 (7 * v1).toNatClampNeg)) fun S27 => (L_X12_isHour (gi S 176 (7 * v1).toNatClampNeg) S27).bind fun r28 => gd ((r28 : Int32) == 0 || (r28 : Int32) == 1) (some (r28, S27)) else if (gi S 175 v1.toNatClampNeg : Int32) = 112 then (L_X12_oneTold (7 * v1) S).bind fun r31 => gd ((r31.1 : Int32) == 0 || (r31.1 : Int32) == 1) (some (r31.1, r31.2)) else if (gi S 175 v1.toNatClampNeg : Int32) = 113 then (b_X12_comesTold_216 (gi S 176 (7 * v1).toNatClampNeg) S) else if (gi S 175 v1.toNatClampNeg : Int32) = 114 then (b_X12_comesTold_216 (gi S 176 (7 * v1).toNatClampNeg) S) else if (gi S 175 v1.toNatClampNeg : Int32) = 115 then (b_X12_comesTold_216 (gi S 176 (7 * v1).toNatClampNeg) S) else if (gi S 175 v1.toNatClampNeg : Int32) = 116 then (L_X12_plantTold (7 * v1) S).bind fun r37 => gd ((r37.1 : Int32) == 0 || (r37.1 : Int32) == 1) (some (r37.1, r37.2)) else (b_X12_comesTold_216 (gi S 176 (7 * v1).toNatClampNeg) S))))
def L_X12_comesTold (a1 : Int32) (S : St) : Option (Int32 × St) := b_X12_comesTold_0 a1 S
def b_X12_wrongRow_0 (v1 : Int32) (S : St) : Option Int32 := (L_X12_in v1.toInt64 0 7 S).bind fun r1 => (if (r1 : Int32) = 0 then some ((-1)) else gd (inb v1 8) ((if (gi S 153 v1.toNatClampNeg : Int32) = 0 then some ((-11)) else gd (inb v1 8) ((if (gi S 153 v1.toNatClampNeg : Int32) = 2 then some 0 else some ((-12)))))))
def L_X12_wrongRow (a1 : Int32) (S : St) : Option Int32 := b_X12_wrongRow_0 a1 S
def b_X12_town_113 (v3 : Int32) (S : St) : Option ((Int32 × St) ⊕ (Int32 × St)) := (if (gi S 136 53 : Int32) ≤ v3 then some (.inr (gi S 136 53, S)) else (L_X12_comesTold v3 S).bind fun r2 => (if (r2.1 : Int32) = 0 then (L_X12_close r2.2).bind fun r4 => gd (inb v3 51) (some (.inr (((-2000)) - (gi r4 174 v3.toNatClampNeg), r4))) else some (.inl ((v3 + 1), r2.2))))
def l_X12_town_113 (x : (Int32 × St)) : Option ((Int32 × St) ⊕ (Int32 × St)) := b_X12_town_113 x.1 x.2
def b_X12_town_91 (S : St) : Option (Int32 × St) := (if (gi S 136 52 : Int32) = 0 then (L_X12_open S).bind fun r2 => (lp 1000 (l_X12_town_113) (0, r2)) else some (((-1000)) - (gi S 136 51), S))
def b_X12_town_84 (v1 : Int32) (S : St) : Option ((Int32 × St) ⊕ (Int32 × St)) := (L_X12_readStatement S).bind fun r1 => some (.inl (v1, r1))
def b_X12_town_57 (v1 : Int32) (S : St) : Option ((Int32 × St) ⊕ (Int32 × St)) := (if (gi S 136 52 : Int32) = 0 then (if (gi S 136 53 : Int32) = 0 then (b_X12_town_84 v1 S) else gd (inb v1 8) ((if (gi S 157 v1.toNatClampNeg : Int32) ≤ (gi S 136 51) then ((b_X12_town_91 S).map Sum.inr) else (b_X12_town_84 v1 S)))) else ((b_X12_town_91 S).map Sum.inr))
def l_X12_town_57 (x : (Int32 × St)) : Option ((Int32 × St) ⊕ (Int32 × St)) := b_X12_town_57 x.1 x.2
def b_X12_town_30 (v1 : Int32) (s0 : Int32) (S : St) : Option (Int32 × St) := (if (0 : Int32) ≤ s0 then nm (si S 136 50 v1) fun S2 => nm (si S2 136 51 0) fun S3 => nm (si S3 136 52 0) fun S4 => nm (si S4 136 53 0) fun S5 => (lp 1000 (l_X12_town_57) (v1, S5)) else some (s0, S))
def b_X12_town_29 (v1 : Int32) (v2 : Int32) (S : St) : Option (Int32 × St) := (b_X12_town_30 v1 v2 S)
def b_X12_town_0 (v1 : Int32) (S : St) : Option (Int32 × St) := nm (si S 136 28 0) fun S1 => (L_X12_wrongRow v1 S1).bind fun r2 => (if (r2 : Int32) = 0 then gd (inb v1 8) ((if (gi S1 156 v1.toNatClampNeg : Int32) = 0 then (b_X12_town_29 v1 r2 S1) else (b_X12_town_30 v1 ((-12)) S1))) else (b_X12_town_29 v1 r2 S1))
def L_X12_town (a1 : Int32) (S : St) : Option (Int32 × St) := b_X12_town_0 a1 S
def b_X12_person_0 (v1 : Int32) (v2 : Int32) (S : St) : Option (Int32 × St) := nm (si S 136 28 0) fun S1 => (L_X12_isOne v1 S1).bind fun r2 => (if (r2 : Int32) = 0 then some ((-1), S1) else (if (v2 : Int32) = 0 then gd (inb v1 8) (some (gi S1 147 v1.toNatClampNeg, S1)) else if (v2 : Int32) = 1 then gd (inb v1 8) (some (gi S1 148 v1.toNatClampNeg, S1)) else if (v2 : Int32) = 2 then gd (inb v1 8) (some (gi S1 149 v1.toNatClampNeg, S1)) else if (v2 : Int32) = 3 then gd (inb v1 8) (some (gi S1 150 v1.toNatClampNeg, S1)) else if (v2 : Int32) = 4 then (L_X12_dueOf v1 S1).bind fun r13 => some (r13, S1) else if (v2 : Int32) = 5 then gd (inb v1 8) (some (gi S1 152 v1.toNatClampNeg, S1)) else if (v2 : Int32) = 6 then gd (inb v1 8) (some ((gi S1 151 v1.toNatClampNeg) + 9, S1)) else some ((-1), S1)))
def L_X12_person (a1 : Int32) (a2 : Int32) (S : St) : Option (Int32 × St) := b_X12_person_0 a1 a2 S
def b_X12_weighs_51 (S : St) : Option (Int32 × St) := some ((-1000000001), S)
def b_X12_weighs_0 (v1 : Int32) (v2 : Int32) (v3 : Int32) (S : St) : Option (Int32 × St) := nm (si S 136 28 0) fun S1 => (L_X12_isOne v1 S1).bind fun r2 => (if (r2 : Int32) = 0 then (b_X12_weighs_51 S1) else (L_X12_in v2.toInt64 ((-9)) 9 S1).bind fun r4 => (if (r4 : Int32) = 0 then (b_X12_weighs_51 S1) else (L_X12_in v3.toInt64 ((-99)) 99 S1).bind fun r6 => (if (r6 : Int32) = 0 then (b_X12_weighs_51 S1) else (L_X12_sumOf v1 v2 v3 S1).bind fun r8 => some (r8, S1))))
def L_X12_weighs (a1 : Int32) (a2 : Int32) (a3 : Int32) (S : St) : Option (Int32 × St) := b_X12_weighs_0 a1 a2 a3 S
def b_X12_strength_36 (S : St) : Option (Int32 × St) := some ((-1), S)
def b_X12_strength_0 (v1 : Int32) (v2 : Int32) (S : St) : Option (Int32 × St) := nm (si S 136 28 0) fun S1 => (L_X12_isOne v1 S1).bind fun r2 => (if (r2 : Int32) = 0 then (b_X12_strength_36 S1) else (L_X12_in v2.toInt64 ((-999)) 999 S1).bind fun r4 => (if (r4 : Int32) = 0 then (b_X12_strength_36 S1) else (L_X12_strengthOf v1 v2 S1).bind fun r6 => some (r6, S1)))
def L_X12_strength (a1 : Int32) (a2 : Int32) (S : St) : Option (Int32 × St) := b_X12_strength_0 a1 a2 S
section WALKS
variable {p : Program} {e : Env} {s : State} {m : MethodId} {args : Array Value} {below : List Frame} {meth : Method} {c : Code} {D : va_G} {ct : Nat → ClassId} {B : Nat} {Hb : Heap}
set_option maxRecDepth 100000 in
set_option maxHeartbeats 4000000 in
theorem w_X12_oneTold_53 (l : Launch) {V : Int32 × St} (C0 : XC D ct p s m args meth c cX12_oneTold 3 (some .boolean) RX12) (v1 : Int32) (s0 : Int32) (S : St) {H : Heap} {locs : List Loc} {ls : Array Slot} (h : (b_X12_oneTold_53 v1 s0 S).bind some = some V) (hP : MP D ct B Hb S H) (hS : va_S (AB B) s.heap H locs) (hl : lv_has ls 3 [(0, .ref (B + 136)), (1, .int v1)]) : W p l e { frames := 2, cells := 0, slots := 0, locals := 45 } s m args below meth c H locs 0 0 (MQ below (qIw D ct B Hb V) args s 0 0 (AB B)) (F0 m 53 ls [.int s0]) := by
  obtain ⟨hx, hb, hr, hml, hown, hts, hK, hlocks, hN⟩ := id C0
  unfold b_X12_oneTold_53 at h
  refine lv_istore_n (lv' := [(2, .int s0), (0, .ref (B + 136)), (1, .int v1)]) hx hb dX12_oneTold_53 rfl hl (by decide) rfl (fun ls hl => ?_)
  refine lv_iload_n hx hb dX12_oneTold_54 rfl (lv_at hl 0 rfl) ?_
  refine lv_if_eq (tgt := 108) hx hb dX12_oneTold_55 (by decide) (fun z1 => ?_) (fun z1 => ?_)
  · have h := ob_t h z1
    refine lv_iload_n hx hb dX12_oneTold_108 rfl (lv_at hl 0 rfl) ?_
    obtain ⟨g2, h⟩ := ob_gd h
    exact r_Zw C0 hP hS (bool_n g2) h dX12_oneTold_109
  · have h := ob_f h z1
    refine lv_aload_n hx hb dX12_oneTold_58 rfl (lv_at hl 1 rfl) ?_
    refine lv_aload_n hx hb dX12_oneTold_59 rfl (lv_at hl 1 rfl) ?_
    refine x_get C0 hP (lay_X12 B ct S) rfl inG12 56 (by decide) wd_1197 (fun _ h => h) rfl dX12_oneTold_60 ?_
    refine lv_iload_n hx hb dX12_oneTold_63 rfl (lv_at hl 2 rfl) ?_
    obtain ⟨g3, h⟩ := ob_gd h
    refine x_iald C0 hP ((fun S => lay_176 B ct S) S) g3 dX12_oneTold_64 ?_
    refine lv_aload_n hx hb dX12_oneTold_65 rfl (lv_at hl 1 rfl) ?_
    refine x_get C0 hP (lay_X12 B ct S) rfl inG12 56 (by decide) wd_1197 (fun _ h => h) rfl dX12_oneTold_66 ?_
    refine lv_iload_n hx hb dX12_oneTold_69 rfl (lv_at hl 2 rfl) ?_
    refine lv_iconst (v := 1) hx hb dX12_oneTold_70 (by decide) ?_
    refine lv_iadd hx hb dX12_oneTold_71 ?_
    obtain ⟨g4, h⟩ := ob_gd h
    refine x_iald C0 hP ((fun S => lay_176 B ct S) S) g4 dX12_oneTold_72 ?_
    refine lv_aload_n hx hb dX12_oneTold_73 rfl (lv_at hl 1 rfl) ?_
    refine x_get C0 hP (lay_X12 B ct S) rfl inG12 56 (by decide) wd_1197 (fun _ h => h) rfl dX12_oneTold_74 ?_
    refine lv_iload_n hx hb dX12_oneTold_77 rfl (lv_at hl 2 rfl) ?_
    refine lv_iconst (v := 2) hx hb dX12_oneTold_78 (by decide) ?_
    refine lv_iadd hx hb dX12_oneTold_79 ?_
    obtain ⟨g5, h⟩ := ob_gd h
    refine x_iald C0 hP ((fun S => lay_176 B ct S) S) g5 dX12_oneTold_80 ?_
    refine lv_aload_n hx hb dX12_oneTold_81 rfl (lv_at hl 1 rfl) ?_
    refine x_get C0 hP (lay_X12 B ct S) rfl inG12 56 (by decide) wd_1197 (fun _ h => h) rfl dX12_oneTold_82 ?_
    refine lv_iload_n hx hb dX12_oneTold_85 rfl (lv_at hl 2 rfl) ?_
    refine lv_iconst (v := 3) hx hb dX12_oneTold_86 (by decide) ?_
    refine lv_iadd hx hb dX12_oneTold_87 ?_
    obtain ⟨g6, h⟩ := ob_gd h
    refine x_iald C0 hP ((fun S => lay_176 B ct S) S) g6 dX12_oneTold_88 ?_
    refine lv_aload_n hx hb dX12_oneTold_89 rfl (lv_at hl 1 rfl) ?_
    refine x_get C0 hP (lay_X12 B ct S) rfl inG12 56 (by decide) wd_1197 (fun _ h => h) rfl dX12_oneTold_90 ?_
    refine lv_iload_n hx hb dX12_oneTold_93 rfl (lv_at hl 2 rfl) ?_
    refine lv_iconst (v := 4) hx hb dX12_oneTold_94 (by decide) ?_
    refine lv_iadd hx hb dX12_oneTold_95 ?_
    obtain ⟨g7, h⟩ := ob_gd h
    refine x_iald C0 hP ((fun S => lay_176 B ct S) S) g7 dX12_oneTold_96 ?_
    refine lv_aload_n hx hb dX12_oneTold_97 rfl (lv_at hl 1 rfl) ?_
    refine x_get C0 hP (lay_X12 B ct S) rfl inG12 56 (by decide) wd_1197 (fun _ h => h) rfl dX12_oneTold_98 ?_
    refine lv_iload_n hx hb dX12_oneTold_101 rfl (lv_at hl 2 rfl) ?_
    refine lv_iconst (v := 5) hx hb dX12_oneTold_102 (by decide) ?_
    refine lv_iadd hx hb dX12_oneTold_103 ?_
    obtain ⟨g8, h⟩ := ob_gd h
    refine x_iald C0 hP ((fun S => lay_176 B ct S) S) g8 dX12_oneTold_104 ?_
    obtain ⟨r9, hr9, h⟩ := ob_bd h
    refine n_Vw (kV (As := [.int (gi S 176 v1.toNatClampNeg), .int (gi S 176 (v1 + 1).toNatClampNeg), .int (gi S 176 (v1 + 2).toNatClampNeg), .int (gi S 176 (v1 + 3).toNatClampNeg), .int (gi S 176 (v1 + 4).toNatClampNeg), .int (gi S 176 (v1 + 5).toNatClampNeg)]) C0 (c_X12_oneComes l (gi S 176 v1.toNatClampNeg) (gi S 176 (v1 + 1).toNatClampNeg) (gi S 176 (v1 + 2).toNatClampNeg) (gi S 176 (v1 + 3).toNatClampNeg) (gi S 176 (v1 + 4).toNatClampNeg) (gi S 176 (v1 + 5).toNatClampNeg) hr9) ⟨wd_1423, wd_1420, wd_1422, wp_32, wd_6⟩ kd_X12_oneComes ⟨Nat.le_of_ble_eq_true rfl, Nat.le_of_ble_eq_true rfl⟩ hP (lay_X12 B ct S) rfl rfl hl.1 rfl (Nat.le_of_ble_eq_true rfl) dX12_oneTold_105 ⟨Nat.le_of_ble_eq_true rfl, Nat.le_of_ble_eq_true rfl⟩) hS (fun H locs hP hS => ?_)
    refine lv_iload_n hx hb dX12_oneTold_108 rfl (lv_at hl 0 rfl) ?_
    obtain ⟨g10, h⟩ := ob_gd h
    exact r_Zw C0 hP hS (bool_n g10) h dX12_oneTold_109
set_option maxRecDepth 100000 in
set_option maxHeartbeats 4000000 in
theorem w_X12_oneTold_52 (l : Launch) {V : Int32 × St} (C0 : XC D ct p s m args meth c cX12_oneTold 3 (some .boolean) RX12) (v1 : Int32) (S : St) {H : Heap} {locs : List Loc} {ls : Array Slot} (h : (b_X12_oneTold_52 v1 S).bind some = some V) (hP : MP D ct B Hb S H) (hS : va_S (AB B) s.heap H locs) (hl : lv_has ls 3 [(0, .ref (B + 136)), (1, .int v1)]) : W p l e { frames := 2, cells := 0, slots := 0, locals := 45 } s m args below meth c H locs 0 0 (MQ below (qIw D ct B Hb V) args s 0 0 (AB B)) (F0 m 52 ls []) := by
  obtain ⟨hx, hb, hr, hml, hown, hts, hK, hlocks, hN⟩ := id C0
  unfold b_X12_oneTold_52 at h
  refine lv_iconst (v := 0) hx hb dX12_oneTold_52 (by decide) ?_
  exact w_X12_oneTold_53 l C0 v1 0 S h hP hS (lv_sub hl [0, 1] rfl)
set_option maxRecDepth 100000 in
set_option maxHeartbeats 4000000 in
theorem w_X12_oneTold_0 (l : Launch) {V : Int32 × St} (C0 : XC D ct p s m args meth c cX12_oneTold 3 (some .boolean) RX12) (v1 : Int32) (S : St) {H : Heap} {locs : List Loc} {ls : Array Slot} (h : (b_X12_oneTold_0 v1 S).bind some = some V) (hP : MP D ct B Hb S H) (hS : va_S (AB B) s.heap H locs) (hl : lv_has ls 3 [(0, .ref (B + 136)), (1, .int v1)]) : W p l e { frames := 2, cells := 0, slots := 0, locals := 45 } s m args below meth c H locs 0 0 (MQ below (qIw D ct B Hb V) args s 0 0 (AB B)) (F0 m 0 ls []) := by
  obtain ⟨hx, hb, hr, hml, hown, hts, hK, hlocks, hN⟩ := id C0
  unfold b_X12_oneTold_0 at h
  refine lv_aload_n hx hb dX12_oneTold_0 rfl (lv_at hl 0 rfl) ?_
  refine x_get C0 hP (lay_X12 B ct S) rfl inG12 56 (by decide) wd_1197 (fun _ h => h) rfl dX12_oneTold_1 ?_
  refine lv_iload_n hx hb dX12_oneTold_4 rfl (lv_at hl 1 rfl) ?_
  obtain ⟨g1, h⟩ := ob_gd h
  refine x_iald C0 hP ((fun S => lay_176 B ct S) S) g1 dX12_oneTold_5 ?_
  refine lv_bipush (v := 8) hx hb dX12_oneTold_6 (by decide) ?_
  refine lv_icmp_ge (tgt := 52) hx hb dX12_oneTold_8 (by decide) (fun z2 => ?_) (fun z2 => ?_)
  · have h := ob_t h z2
    exact w_X12_oneTold_52 l C0 v1 S h hP hS (lv_sub hl [0, 1] rfl)
  · have h := ob_f h z2
    refine lv_aload_n hx hb dX12_oneTold_11 rfl (lv_at hl 0 rfl) ?_
    refine x_get C0 hP (lay_X12 B ct S) rfl inG12 56 (by decide) wd_1197 (fun _ h => h) rfl dX12_oneTold_12 ?_
    refine lv_iload_n hx hb dX12_oneTold_15 rfl (lv_at hl 1 rfl) ?_
    refine lv_iconst (v := 2) hx hb dX12_oneTold_16 (by decide) ?_
    refine lv_iadd hx hb dX12_oneTold_17 ?_
    obtain ⟨g3, h⟩ := ob_gd h
    refine x_iald C0 hP ((fun S => lay_176 B ct S) S) g3 dX12_oneTold_18 ?_
    obtain ⟨r4, hr4, h⟩ := ob_bd h
    refine n_I (kS (As := [.int (gi S 176 (v1 + 2).toNatClampNeg)]) C0 (c_X12_isCase l (gi S 176 (v1 + 2).toNatClampNeg) hr4) ⟨wd_1410, wd_1408, wd_1409, wd_6⟩ kd_X12_isCase ⟨Nat.le_of_ble_eq_true rfl, Nat.le_of_ble_eq_true rfl⟩ hP rfl hl.1 rfl (Nat.le_of_ble_eq_true rfl) dX12_oneTold_19 ⟨Nat.le_of_ble_eq_true rfl, Nat.le_of_ble_eq_true rfl⟩) hS (fun H locs hP hS => ?_)
    refine lv_if_eq (tgt := 52) hx hb dX12_oneTold_22 (by decide) (fun z5 => ?_) (fun z5 => ?_)
    · have h := ob_t h z5
      exact w_X12_oneTold_52 l C0 v1 S h hP hS (lv_sub hl [0, 1] rfl)
    · have h := ob_f h z5
      refine lv_aload_n hx hb dX12_oneTold_25 rfl (lv_at hl 0 rfl) ?_
      refine x_get C0 hP (lay_X12 B ct S) rfl inG12 56 (by decide) wd_1197 (fun _ h => h) rfl dX12_oneTold_26 ?_
      refine lv_iload_n hx hb dX12_oneTold_29 rfl (lv_at hl 1 rfl) ?_
      refine lv_iconst (v := 3) hx hb dX12_oneTold_30 (by decide) ?_
      refine lv_iadd hx hb dX12_oneTold_31 ?_
      obtain ⟨g6, h⟩ := ob_gd h
      refine x_iald C0 hP ((fun S => lay_176 B ct S) S) g6 dX12_oneTold_32 ?_
      obtain ⟨r7, hr7, h⟩ := ob_bd h
      refine n_I (kS (As := [.int (gi S 176 (v1 + 3).toNatClampNeg)]) C0 (c_X12_isHour l (gi S 176 (v1 + 3).toNatClampNeg) hr7) ⟨wd_1414, wd_1412, wd_1413, wd_6⟩ kd_X12_isHour ⟨Nat.le_of_ble_eq_true rfl, Nat.le_of_ble_eq_true rfl⟩ hP rfl hl.1 rfl (Nat.le_of_ble_eq_true rfl) dX12_oneTold_33 ⟨Nat.le_of_ble_eq_true rfl, Nat.le_of_ble_eq_true rfl⟩) hS (fun H locs hP hS => ?_)
      refine lv_if_eq (tgt := 52) hx hb dX12_oneTold_36 (by decide) (fun z8 => ?_) (fun z8 => ?_)
      · have h := ob_t h z8
        exact w_X12_oneTold_52 l C0 v1 S h hP hS (lv_sub hl [0, 1] rfl)
      · have h := ob_f h z8
        refine lv_aload_n hx hb dX12_oneTold_39 rfl (lv_at hl 0 rfl) ?_
        refine x_get C0 hP (lay_X12 B ct S) rfl inG12 15 (by decide) wd_1156 (fun _ h => h) rfl dX12_oneTold_40 ?_
        refine lv_bipush (v := 8) hx hb dX12_oneTold_43 (by decide) ?_
        refine lv_icmp_ge (tgt := 52) hx hb dX12_oneTold_45 (by decide) (fun z9 => ?_) (fun z9 => ?_)
        · have h := ob_t h z9
          exact w_X12_oneTold_52 l C0 v1 S h hP hS (lv_sub hl [0, 1] rfl)
        · have h := ob_f h z9
          refine lv_iconst (v := 1) hx hb dX12_oneTold_48 (by decide) ?_
          refine lv_goto (tgt := 53) hx hb dX12_oneTold_49 (by decide) ?_
          exact w_X12_oneTold_53 l C0 v1 1 S h hP hS (lv_sub hl [0, 1] rfl)
set_option maxRecDepth 100000 in
set_option maxHeartbeats 4000000 in
theorem c_X12_oneTold (l : Launch) (a1 : Int32) {D : va_G} {ct : Nat → ClassId} {B : Nat} {Hb : Heap} {S : St} {V : Int32 × St} (h : L_X12_oneTold a1 S = some V) : Met l yX12_oneTold (Cond.code yX12_oneTold cX12_oneTold 3 (some .boolean) :: tG) { frames := 2, cells := 0, slots := 0, locals := 45 } (va_Pc [.ref (B + 136), .int a1] (MPK D ct B Hb S)) (qIw D ct B Hb V) 0 0 (AB B) := by
  refine mk_met (by decide +kernel) (Nat.le_of_ble_eq_true rfl) (fun p e s m args below meth c ls C0 hP hl _ => ?_)
  have h := ob_of h
  exact w_X12_oneTold_0 l C0 a1 S h hP va_S.rf (lv_sub hl [0, 1] rfl)
set_option maxRecDepth 100000 in
set_option maxHeartbeats 4000000 in
theorem w_X12_plantTold_58 (l : Launch) {V : Int32 × St} (C0 : XC D ct p s m args meth c cX12_plantTold 3 (some .boolean) RX12) (v1 : Int32) (s0 : Int32) (S : St) {H : Heap} {locs : List Loc} {ls : Array Slot} (h : (b_X12_plantTold_58 v1 s0 S).bind some = some V) (hP : MP D ct B Hb S H) (hS : va_S (AB B) s.heap H locs) (hl : lv_has ls 3 [(0, .ref (B + 136)), (1, .int v1)]) : W p l e { frames := 2, cells := 0, slots := 0, locals := 45 } s m args below meth c H locs 0 0 (MQ below (qIw D ct B Hb V) args s 0 0 (AB B)) (F0 m 58 ls [.int s0]) := by
  obtain ⟨hx, hb, hr, hml, hown, hts, hK, hlocks, hN⟩ := id C0
  unfold b_X12_plantTold_58 at h
  refine lv_istore_n (lv' := [(2, .int s0), (0, .ref (B + 136)), (1, .int v1)]) hx hb dX12_plantTold_58 rfl hl (by decide) rfl (fun ls hl => ?_)
  refine lv_iload_n hx hb dX12_plantTold_59 rfl (lv_at hl 0 rfl) ?_
  refine lv_if_eq (tgt := 105) hx hb dX12_plantTold_60 (by decide) (fun z1 => ?_) (fun z1 => ?_)
  · have h := ob_t h z1
    refine lv_iload_n hx hb dX12_plantTold_105 rfl (lv_at hl 0 rfl) ?_
    obtain ⟨g2, h⟩ := ob_gd h
    exact r_Zw C0 hP hS (bool_n g2) h dX12_plantTold_106
  · have h := ob_f h z1
    refine lv_aload_n hx hb dX12_plantTold_63 rfl (lv_at hl 1 rfl) ?_
    refine lv_aload_n hx hb dX12_plantTold_64 rfl (lv_at hl 1 rfl) ?_
    refine x_get C0 hP (lay_X12 B ct S) rfl inG12 56 (by decide) wd_1197 (fun _ h => h) rfl dX12_plantTold_65 ?_
    refine lv_iload_n hx hb dX12_plantTold_68 rfl (lv_at hl 2 rfl) ?_
    obtain ⟨g3, h⟩ := ob_gd h
    refine x_iald C0 hP ((fun S => lay_176 B ct S) S) g3 dX12_plantTold_69 ?_
    refine lv_aload_n hx hb dX12_plantTold_70 rfl (lv_at hl 1 rfl) ?_
    refine x_get C0 hP (lay_X12 B ct S) rfl inG12 56 (by decide) wd_1197 (fun _ h => h) rfl dX12_plantTold_71 ?_
    refine lv_iload_n hx hb dX12_plantTold_74 rfl (lv_at hl 2 rfl) ?_
    refine lv_iconst (v := 1) hx hb dX12_plantTold_75 (by decide) ?_
    refine lv_iadd hx hb dX12_plantTold_76 ?_
    obtain ⟨g4, h⟩ := ob_gd h
    refine x_iald C0 hP ((fun S => lay_176 B ct S) S) g4 dX12_plantTold_77 ?_
    refine lv_aload_n hx hb dX12_plantTold_78 rfl (lv_at hl 1 rfl) ?_
    refine x_get C0 hP (lay_X12 B ct S) rfl inG12 56 (by decide) wd_1197 (fun _ h => h) rfl dX12_plantTold_79 ?_
    refine lv_iload_n hx hb dX12_plantTold_82 rfl (lv_at hl 2 rfl) ?_
    refine lv_iconst (v := 2) hx hb dX12_plantTold_83 (by decide) ?_
    refine lv_iadd hx hb dX12_plantTold_84 ?_
    obtain ⟨g5, h⟩ := ob_gd h
    refine x_iald C0 hP ((fun S => lay_176 B ct S) S) g5 dX12_plantTold_85 ?_
    refine lv_aload_n hx hb dX12_plantTold_86 rfl (lv_at hl 1 rfl) ?_
    refine x_get C0 hP (lay_X12 B ct S) rfl inG12 56 (by decide) wd_1197 (fun _ h => h) rfl dX12_plantTold_87 ?_
    refine lv_iload_n hx hb dX12_plantTold_90 rfl (lv_at hl 2 rfl) ?_
    refine lv_iconst (v := 3) hx hb dX12_plantTold_91 (by decide) ?_
    refine lv_iadd hx hb dX12_plantTold_92 ?_
    obtain ⟨g6, h⟩ := ob_gd h
    refine x_iald C0 hP ((fun S => lay_176 B ct S) S) g6 dX12_plantTold_93 ?_
    refine lv_aload_n hx hb dX12_plantTold_94 rfl (lv_at hl 1 rfl) ?_
    refine x_get C0 hP (lay_X12 B ct S) rfl inG12 56 (by decide) wd_1197 (fun _ h => h) rfl dX12_plantTold_95 ?_
    refine lv_iload_n hx hb dX12_plantTold_98 rfl (lv_at hl 2 rfl) ?_
    refine lv_iconst (v := 4) hx hb dX12_plantTold_99 (by decide) ?_
    refine lv_iadd hx hb dX12_plantTold_100 ?_
    obtain ⟨g7, h⟩ := ob_gd h
    refine x_iald C0 hP ((fun S => lay_176 B ct S) S) g7 dX12_plantTold_101 ?_
    obtain ⟨r8, hr8, h⟩ := ob_bd h
    refine n_Vw (kV (As := [.int (gi S 176 v1.toNatClampNeg), .int (gi S 176 (v1 + 1).toNatClampNeg), .int (gi S 176 (v1 + 2).toNatClampNeg), .int (gi S 176 (v1 + 3).toNatClampNeg), .int (gi S 176 (v1 + 4).toNatClampNeg)]) C0 (c_X12_plantComes l (gi S 176 v1.toNatClampNeg) (gi S 176 (v1 + 1).toNatClampNeg) (gi S 176 (v1 + 2).toNatClampNeg) (gi S 176 (v1 + 3).toNatClampNeg) (gi S 176 (v1 + 4).toNatClampNeg) hr8) ⟨wd_1436, wd_1433, wd_1435, wp_35, wd_6⟩ kd_X12_plantComes ⟨Nat.le_of_ble_eq_true rfl, Nat.le_of_ble_eq_true rfl⟩ hP (lay_X12 B ct S) rfl rfl hl.1 rfl (Nat.le_of_ble_eq_true rfl) dX12_plantTold_102 ⟨Nat.le_of_ble_eq_true rfl, Nat.le_of_ble_eq_true rfl⟩) hS (fun H locs hP hS => ?_)
    refine lv_iload_n hx hb dX12_plantTold_105 rfl (lv_at hl 0 rfl) ?_
    obtain ⟨g9, h⟩ := ob_gd h
    exact r_Zw C0 hP hS (bool_n g9) h dX12_plantTold_106
set_option maxRecDepth 100000 in
set_option maxHeartbeats 4000000 in
theorem w_X12_plantTold_57 (l : Launch) {V : Int32 × St} (C0 : XC D ct p s m args meth c cX12_plantTold 3 (some .boolean) RX12) (v1 : Int32) (S : St) {H : Heap} {locs : List Loc} {ls : Array Slot} (h : (b_X12_plantTold_57 v1 S).bind some = some V) (hP : MP D ct B Hb S H) (hS : va_S (AB B) s.heap H locs) (hl : lv_has ls 3 [(0, .ref (B + 136)), (1, .int v1)]) : W p l e { frames := 2, cells := 0, slots := 0, locals := 45 } s m args below meth c H locs 0 0 (MQ below (qIw D ct B Hb V) args s 0 0 (AB B)) (F0 m 57 ls []) := by
  obtain ⟨hx, hb, hr, hml, hown, hts, hK, hlocks, hN⟩ := id C0
  unfold b_X12_plantTold_57 at h
  refine lv_iconst (v := 0) hx hb dX12_plantTold_57 (by decide) ?_
  exact w_X12_plantTold_58 l C0 v1 0 S h hP hS (lv_sub hl [0, 1] rfl)
set_option maxRecDepth 100000 in
set_option maxHeartbeats 4000000 in
theorem w_X12_plantTold_0 (l : Launch) {V : Int32 × St} (C0 : XC D ct p s m args meth c cX12_plantTold 3 (some .boolean) RX12) (v1 : Int32) (S : St) {H : Heap} {locs : List Loc} {ls : Array Slot} (h : (b_X12_plantTold_0 v1 S).bind some = some V) (hP : MP D ct B Hb S H) (hS : va_S (AB B) s.heap H locs) (hl : lv_has ls 3 [(0, .ref (B + 136)), (1, .int v1)]) : W p l e { frames := 2, cells := 0, slots := 0, locals := 45 } s m args below meth c H locs 0 0 (MQ below (qIw D ct B Hb V) args s 0 0 (AB B)) (F0 m 0 ls []) := by
  obtain ⟨hx, hb, hr, hml, hown, hts, hK, hlocks, hN⟩ := id C0
  unfold b_X12_plantTold_0 at h
  refine lv_aload_n hx hb dX12_plantTold_0 rfl (lv_at hl 0 rfl) ?_
  refine x_get C0 hP (lay_X12 B ct S) rfl inG12 56 (by decide) wd_1197 (fun _ h => h) rfl dX12_plantTold_1 ?_
  refine lv_iload_n hx hb dX12_plantTold_4 rfl (lv_at hl 1 rfl) ?_
  obtain ⟨g1, h⟩ := ob_gd h
  refine x_iald C0 hP ((fun S => lay_176 B ct S) S) g1 dX12_plantTold_5 ?_
  obtain ⟨r2, hr2, h⟩ := ob_bd h
  refine n_I (kS (As := [.int (gi S 176 v1.toNatClampNeg)]) C0 (c_X12_isCase l (gi S 176 v1.toNatClampNeg) hr2) ⟨wd_1410, wd_1408, wd_1409, wd_6⟩ kd_X12_isCase ⟨Nat.le_of_ble_eq_true rfl, Nat.le_of_ble_eq_true rfl⟩ hP rfl hl.1 rfl (Nat.le_of_ble_eq_true rfl) dX12_plantTold_6 ⟨Nat.le_of_ble_eq_true rfl, Nat.le_of_ble_eq_true rfl⟩) hS (fun H locs hP hS => ?_)
  refine lv_if_eq (tgt := 57) hx hb dX12_plantTold_9 (by decide) (fun z3 => ?_) (fun z3 => ?_)
  · have h := ob_t h z3
    exact w_X12_plantTold_57 l C0 v1 S h hP hS (lv_sub hl [0, 1] rfl)
  · have h := ob_f h z3
    refine lv_aload_n hx hb dX12_plantTold_12 rfl (lv_at hl 0 rfl) ?_
    refine x_get C0 hP (lay_X12 B ct S) rfl inG12 56 (by decide) wd_1197 (fun _ h => h) rfl dX12_plantTold_13 ?_
    refine lv_iload_n hx hb dX12_plantTold_16 rfl (lv_at hl 1 rfl) ?_
    refine lv_iconst (v := 2) hx hb dX12_plantTold_17 (by decide) ?_
    refine lv_iadd hx hb dX12_plantTold_18 ?_
    obtain ⟨g4, h⟩ := ob_gd h
    refine x_iald C0 hP ((fun S => lay_176 B ct S) S) g4 dX12_plantTold_19 ?_
    refine lv_i2l hx hb dX12_plantTold_20 rfl ?_
    refine lv_lconst (v := 1) hx hb dX12_plantTold_21 (by decide) ?_
    refine lv_ldc2 (v := 60) hx hb hown (hts _ wd_1432) dX12_plantTold_22 ?_
    obtain ⟨r5, hr5, h⟩ := ob_bd h
    refine n_I (kS (As := [.long ((gi S 176 (v1 + 2).toNatClampNeg).toInt64), .long 1, .long 60]) C0 (c_X12_in l ((gi S 176 (v1 + 2).toNatClampNeg).toInt64) 1 60 hr5) ⟨wd_1370, wd_1368, wd_1369, wd_6⟩ kd_X12_in ⟨Nat.le_of_ble_eq_true rfl, Nat.le_of_ble_eq_true rfl⟩ hP rfl hl.1 rfl (Nat.le_of_ble_eq_true rfl) dX12_plantTold_25 ⟨Nat.le_of_ble_eq_true rfl, Nat.le_of_ble_eq_true rfl⟩) hS (fun H locs hP hS => ?_)
    refine lv_if_eq (tgt := 57) hx hb dX12_plantTold_28 (by decide) (fun z6 => ?_) (fun z6 => ?_)
    · have h := ob_t h z6
      exact w_X12_plantTold_57 l C0 v1 S h hP hS (lv_sub hl [0, 1] rfl)
    · have h := ob_f h z6
      refine lv_aload_n hx hb dX12_plantTold_31 rfl (lv_at hl 0 rfl) ?_
      refine x_get C0 hP (lay_X12 B ct S) rfl inG12 56 (by decide) wd_1197 (fun _ h => h) rfl dX12_plantTold_32 ?_
      refine lv_iload_n hx hb dX12_plantTold_35 rfl (lv_at hl 1 rfl) ?_
      refine lv_iconst (v := 4) hx hb dX12_plantTold_36 (by decide) ?_
      refine lv_iadd hx hb dX12_plantTold_37 ?_
      obtain ⟨g7, h⟩ := ob_gd h
      refine x_iald C0 hP ((fun S => lay_176 B ct S) S) g7 dX12_plantTold_38 ?_
      obtain ⟨r8, hr8, h⟩ := ob_bd h
      refine n_I (kS (As := [.int (gi S 176 (v1 + 4).toNatClampNeg)]) C0 (c_X12_isHour l (gi S 176 (v1 + 4).toNatClampNeg) hr8) ⟨wd_1414, wd_1412, wd_1413, wd_6⟩ kd_X12_isHour ⟨Nat.le_of_ble_eq_true rfl, Nat.le_of_ble_eq_true rfl⟩ hP rfl hl.1 rfl (Nat.le_of_ble_eq_true rfl) dX12_plantTold_39 ⟨Nat.le_of_ble_eq_true rfl, Nat.le_of_ble_eq_true rfl⟩) hS (fun H locs hP hS => ?_)
      refine lv_if_eq (tgt := 57) hx hb dX12_plantTold_42 (by decide) (fun z9 => ?_) (fun z9 => ?_)
      · have h := ob_t h z9
        exact w_X12_plantTold_57 l C0 v1 S h hP hS (lv_sub hl [0, 1] rfl)
      · have h := ob_f h z9
        refine lv_aload_n hx hb dX12_plantTold_45 rfl (lv_at hl 0 rfl) ?_
        refine x_get C0 hP (lay_X12 B ct S) rfl inG12 9 (by decide) wd_1150 (fun _ h => h) rfl dX12_plantTold_46 ?_
        refine lv_iconst (v := 3) hx hb dX12_plantTold_49 (by decide) ?_
        refine lv_icmp_ge (tgt := 57) hx hb dX12_plantTold_50 (by decide) (fun z10 => ?_) (fun z10 => ?_)
        · have h := ob_t h z10
          exact w_X12_plantTold_57 l C0 v1 S h hP hS (lv_sub hl [0, 1] rfl)
        · have h := ob_f h z10
          refine lv_iconst (v := 1) hx hb dX12_plantTold_53 (by decide) ?_
          refine lv_goto (tgt := 58) hx hb dX12_plantTold_54 (by decide) ?_
          exact w_X12_plantTold_58 l C0 v1 1 S h hP hS (lv_sub hl [0, 1] rfl)
set_option maxRecDepth 100000 in
set_option maxHeartbeats 4000000 in
theorem c_X12_plantTold (l : Launch) (a1 : Int32) {D : va_G} {ct : Nat → ClassId} {B : Nat} {Hb : Heap} {S : St} {V : Int32 × St} (h : L_X12_plantTold a1 S = some V) : Met l yX12_plantTold (Cond.code yX12_plantTold cX12_plantTold 3 (some .boolean) :: tG) { frames := 2, cells := 0, slots := 0, locals := 45 } (va_Pc [.ref (B + 136), .int a1] (MPK D ct B Hb S)) (qIw D ct B Hb V) 0 0 (AB B) := by
  refine mk_met (by decide +kernel) (Nat.le_of_ble_eq_true rfl) (fun p e s m args below meth c ls C0 hP hl _ => ?_)
  have h := ob_of h
  exact w_X12_plantTold_0 l C0 a1 S h hP va_S.rf (lv_sub hl [0, 1] rfl)
set_option maxRecDepth 100000 in
set_option maxHeartbeats 4000000 in
theorem w_X12_comesTold_216 (l : Launch) {V : Int32 × St} (C0 : XC D ct p s m args meth c cX12_comesTold 5 (some .boolean) RX12) (v3 : Int32) (S : St) {H : Heap} {locs : List Loc} {ls : Array Slot} (h : (b_X12_comesTold_216 v3 S).bind some = some V) (hP : MP D ct B Hb S H) (hS : va_S (AB B) s.heap H locs) (hl : lv_has ls 5 [(0, .ref (B + 136)), (3, .int v3)]) : W p l e { frames := 3, cells := 0, slots := 0, locals := 69 } s m args below meth c H locs 0 0 (MQ below (qIw D ct B Hb V) args s 0 0 (AB B)) (F0 m 216 ls []) := by
  obtain ⟨hx, hb, hr, hml, hown, hts, hK, hlocks, hN⟩ := id C0
  unfold b_X12_comesTold_216 at h
  refine lv_aload_n hx hb dX12_comesTold_216 rfl (lv_at hl 0 rfl) ?_
  refine lv_iload_n hx hb dX12_comesTold_217 rfl (lv_at hl 1 rfl) ?_
  obtain ⟨S1, eS1, h⟩ := ob_nm h
  refine x_put (S' := si S 136 8 v3) (FS := (fs12 B)) C0 hP hS (fun S => lay_X12 B ct S) rfl inG12 tyX12 tyX12_ok nmX12 8 (by decide) wd_1149 rfl rfl (fun a ha => lay_local (gi_si_n _ _ _ ha) rfl rfl rfl) (put_12_8 B _ _) rfl rfl (Nat.le_of_ble_eq_true rfl) dX12_comesTold_218 (fun H locs hP hS => ?_)
  rw [← eS1] at hP
  refine lv_iload_n hx hb dX12_comesTold_221 rfl (lv_at hl 1 rfl) ?_
  refine lv_if_le (tgt := 229) hx hb dX12_comesTold_222 (by decide) (fun z2 => ?_) (fun z2 => ?_)
  · have h := ob_t h z2
    refine lv_iconst (v := 0) hx hb dX12_comesTold_229 (by decide) ?_
    exact r_Zw C0 hP hS bool_0 h dX12_comesTold_230
  · have h := ob_f h z2
    refine lv_iconst (v := 1) hx hb dX12_comesTold_225 (by decide) ?_
    refine lv_goto (tgt := 230) hx hb dX12_comesTold_226 (by decide) ?_
    exact r_Zw C0 hP hS bool_1 h dX12_comesTold_230
set_option maxRecDepth 100000 in
set_option maxHeartbeats 4000000 in
theorem w_X12_comesTold_170 (l : Launch) {V : Int32 × St} (C0 : XC D ct p s m args meth c cX12_comesTold 5 (some .boolean) RX12) (v2 : Int32) (v3 : Int32) (s0 : Int32) (S : St) {H : Heap} {locs : List Loc} {ls : Array Slot} (h : (b_X12_comesTold_170 v2 v3 s0 S).bind some = some V) (hP : MP D ct B Hb S H) (hS : va_S (AB B) s.heap H locs) (hl : lv_has ls 5 [(0, .ref (B + 136)), (2, .int v2), (3, .int v3)]) : W p l e { frames := 3, cells := 0, slots := 0, locals := 69 } s m args below meth c H locs 0 0 (MQ below (qIw D ct B Hb V) args s 0 0 (AB B)) (F0 m 170 ls [.int s0]) := by
  obtain ⟨hx, hb, hr, hml, hown, hts, hK, hlocks, hN⟩ := id C0
  unfold b_X12_comesTold_170 at h
  refine lv_istore (lv' := [(4, .int s0), (0, .ref (B + 136)), (2, .int v2), (3, .int v3)]) hx hb dX12_comesTold_170 hl (by decide) rfl (fun ls hl => ?_)
  refine lv_iload hx hb dX12_comesTold_172 (lv_at hl 0 rfl) ?_
  refine lv_if_eq (tgt := 190) hx hb dX12_comesTold_174 (by decide) (fun z1 => ?_) (fun z1 => ?_)
  · have h := ob_t h z1
    refine lv_iload hx hb dX12_comesTold_190 (lv_at hl 0 rfl) ?_
    obtain ⟨g2, h⟩ := ob_gd h
    exact r_Zw C0 hP hS (bool_n g2) h dX12_comesTold_192
  · have h := ob_f h z1
    refine lv_aload_n hx hb dX12_comesTold_177 rfl (lv_at hl 1 rfl) ?_
    refine lv_iload_n hx hb dX12_comesTold_178 rfl (lv_at hl 3 rfl) ?_
    refine lv_aload_n hx hb dX12_comesTold_179 rfl (lv_at hl 1 rfl) ?_
    refine x_get C0 hP (lay_X12 B ct S) rfl inG12 56 (by decide) wd_1197 (fun _ h => h) rfl dX12_comesTold_180 ?_
    refine lv_iload_n hx hb dX12_comesTold_183 rfl (lv_at hl 2 rfl) ?_
    refine lv_iconst (v := 1) hx hb dX12_comesTold_184 (by decide) ?_
    refine lv_iadd hx hb dX12_comesTold_185 ?_
    obtain ⟨g3, h⟩ := ob_gd h
    refine x_iald C0 hP ((fun S => lay_176 B ct S) S) g3 dX12_comesTold_186 ?_
    obtain ⟨r4, hr4, h⟩ := ob_bd h
    refine n_Vw (kV (As := [.int v3, .int (gi S 176 (v2 + 1).toNatClampNeg)]) C0 (c_X12_turnKin l v3 (gi S 176 (v2 + 1).toNatClampNeg) hr4) ⟨wd_1427, wd_1424, wd_1426, wp_33, wd_6⟩ kd_X12_turnKin ⟨Nat.le_of_ble_eq_true rfl, Nat.le_of_ble_eq_true rfl⟩ hP (lay_X12 B ct S) rfl rfl hl.1 rfl (Nat.le_of_ble_eq_true rfl) dX12_comesTold_187 ⟨Nat.le_of_ble_eq_true rfl, Nat.le_of_ble_eq_true rfl⟩) hS (fun H locs hP hS => ?_)
    refine lv_iload hx hb dX12_comesTold_190 (lv_at hl 0 rfl) ?_
    obtain ⟨g5, h⟩ := ob_gd h
    exact r_Zw C0 hP hS (bool_n g5) h dX12_comesTold_192
set_option maxRecDepth 100000 in
set_option maxHeartbeats 4000000 in
theorem w_X12_comesTold_169 (l : Launch) {V : Int32 × St} (C0 : XC D ct p s m args meth c cX12_comesTold 5 (some .boolean) RX12) (v2 : Int32) (v3 : Int32) (S : St) {H : Heap} {locs : List Loc} {ls : Array Slot} (h : (b_X12_comesTold_169 v2 v3 S).bind some = some V) (hP : MP D ct B Hb S H) (hS : va_S (AB B) s.heap H locs) (hl : lv_has ls 5 [(0, .ref (B + 136)), (2, .int v2), (3, .int v3)]) : W p l e { frames := 3, cells := 0, slots := 0, locals := 69 } s m args below meth c H locs 0 0 (MQ below (qIw D ct B Hb V) args s 0 0 (AB B)) (F0 m 169 ls []) := by
  obtain ⟨hx, hb, hr, hml, hown, hts, hK, hlocks, hN⟩ := id C0
  unfold b_X12_comesTold_169 at h
  refine lv_iconst (v := 0) hx hb dX12_comesTold_169 (by decide) ?_
  exact w_X12_comesTold_170 l C0 v2 v3 0 S h hP hS (lv_sub hl [0, 1, 2] rfl)
set_option maxRecDepth 100000 in
set_option maxHeartbeats 4000000 in
theorem w_X12_comesTold_0 (l : Launch) {V : Int32 × St} (C0 : XC D ct p s m args meth c cX12_comesTold 5 (some .boolean) RX12) (v1 : Int32) (S : St) {H : Heap} {locs : List Loc} {ls : Array Slot} (h : (b_X12_comesTold_0 v1 S).bind some = some V) (hP : MP D ct B Hb S H) (hS : va_S (AB B) s.heap H locs) (hl : lv_has ls 5 [(0, .ref (B + 136)), (1, .int v1)]) : W p l e { frames := 3, cells := 0, slots := 0, locals := 69 } s m args below meth c H locs 0 0 (MQ below (qIw D ct B Hb V) args s 0 0 (AB B)) (F0 m 0 ls []) := by
  obtain ⟨hx, hb, hr, hml, hown, hts, hK, hlocks, hN⟩ := id C0
  unfold b_X12_comesTold_0 at h
  refine lv_bipush (v := 7) hx hb dX12_comesTold_0 (by decide) ?_
  refine lv_iload_n hx hb dX12_comesTold_2 rfl (lv_at hl 1 rfl) ?_
  refine lv_imul hx hb dX12_comesTold_3 ?_
  refine lv_istore_n (lv' := [(2, .int (7 * v1)), (0, .ref (B + 136)), (1, .int v1)]) hx hb dX12_comesTold_4 rfl hl (by decide) rfl (fun ls hl => ?_)
  refine lv_aload_n hx hb dX12_comesTold_5 rfl (lv_at hl 1 rfl) ?_
  refine x_get C0 hP (lay_X12 B ct S) rfl inG12 56 (by decide) wd_1197 (fun _ h => h) rfl dX12_comesTold_6 ?_
  refine lv_iload_n hx hb dX12_comesTold_9 rfl (lv_at hl 0 rfl) ?_
  obtain ⟨g1, h⟩ := ob_gd h
  refine x_iald C0 hP ((fun S => lay_176 B ct S) S) g1 dX12_comesTold_10 ?_
  refine lv_istore_n (lv' := [(3, .int (gi S 176 (7 * v1).toNatClampNeg)), (2, .int (7 * v1)), (0, .ref (B + 136)), (1, .int v1)]) hx hb dX12_comesTold_11 rfl hl (by decide) rfl (fun ls hl => ?_)
  refine lv_iconst (v := 1) hx hb dX12_comesTold_12 (by decide) ?_
  refine lv_istore (lv' := [(4, .int 1), (3, .int (gi S 176 (7 * v1).toNatClampNeg)), (2, .int (7 * v1)), (0, .ref (B + 136)), (1, .int v1)]) hx hb dX12_comesTold_13 hl (by decide) rfl (fun ls hl => ?_)
  refine lv_aload_n hx hb dX12_comesTold_15 rfl (lv_at hl 3 rfl) ?_
  refine x_get C0 hP (lay_X12 B ct S) rfl inG12 55 (by decide) wd_1196 (fun _ h => h) rfl dX12_comesTold_16 ?_
  refine lv_iload_n hx hb dX12_comesTold_19 rfl (lv_at hl 4 rfl) ?_
  obtain ⟨g2, h⟩ := ob_gd h
  refine x_iald C0 hP ((fun S => lay_175 B ct S) S) g2 dX12_comesTold_20 ?_
  rcases Decidable.em ((gi S 175 v1.toNatClampNeg : Int32) = 100) with z3 | z3
  · have h := ob_t h z3
    refine lv_tableIn (x := gi S 175 v1.toNatClampNeg) (off := 188) (tgt := 209) hx hb dX12_comesTold_21 (by rw [z3]; decide) (by rw [z3]; decide) (by rw [z3]; decide) (by decide) ?_
    refine lv_aload_n hx hb dX12_comesTold_209 rfl (lv_at hl 3 rfl) ?_
    refine lv_iload_n hx hb dX12_comesTold_210 rfl (lv_at hl 1 rfl) ?_
    obtain ⟨S4, eS4, h⟩ := ob_nm h
    refine x_put (S' := si S 136 7 (gi S 176 (7 * v1).toNatClampNeg)) (FS := (fs12 B)) C0 hP hS (fun S => lay_X12 B ct S) rfl inG12 tyX12 tyX12_ok nmX12 7 (by decide) wd_1148 rfl rfl (fun a ha => lay_local (gi_si_n _ _ _ ha) rfl rfl rfl) (put_12_7 B _ _) rfl rfl (Nat.le_of_ble_eq_true rfl) dX12_comesTold_211 (fun H locs hP hS => ?_)
    rw [← eS4] at hP
    refine lv_iconst (v := 1) hx hb dX12_comesTold_214 (by decide) ?_
    exact r_Zw C0 hP hS bool_1 h dX12_comesTold_215
  · have h := ob_f h z3
    rcases Decidable.em ((gi S 175 v1.toNatClampNeg : Int32) = 101) with z5 | z5
    · have h := ob_t h z5
      refine lv_tableIn (x := gi S 175 v1.toNatClampNeg) (off := 195) (tgt := 216) hx hb dX12_comesTold_21 (by rw [z5]; decide) (by rw [z5]; decide) (by rw [z5]; decide) (by decide) ?_
      exact w_X12_comesTold_216 l C0 (gi S 176 (7 * v1).toNatClampNeg) S h hP hS (lv_sub hl [3, 1] rfl)
    · have h := ob_f h z5
      rcases Decidable.em ((gi S 175 v1.toNatClampNeg : Int32) = 102) with z6 | z6
      · have h := ob_t h z6
        refine lv_tableIn (x := gi S 175 v1.toNatClampNeg) (off := 83) (tgt := 104) hx hb dX12_comesTold_21 (by rw [z6]; decide) (by rw [z6]; decide) (by rw [z6]; decide) (by decide) ?_
        refine lv_aload_n hx hb dX12_comesTold_104 rfl (lv_at hl 3 rfl) ?_
        refine lv_iload_n hx hb dX12_comesTold_105 rfl (lv_at hl 1 rfl) ?_
        refine lv_aload_n hx hb dX12_comesTold_106 rfl (lv_at hl 3 rfl) ?_
        refine x_get C0 hP (lay_X12 B ct S) rfl inG12 56 (by decide) wd_1197 (fun _ h => h) rfl dX12_comesTold_107 ?_
        refine lv_iload_n hx hb dX12_comesTold_110 rfl (lv_at hl 2 rfl) ?_
        refine lv_iconst (v := 1) hx hb dX12_comesTold_111 (by decide) ?_
        refine lv_iadd hx hb dX12_comesTold_112 ?_
        obtain ⟨g7, h⟩ := ob_gd h
        refine x_iald C0 hP ((fun S => lay_176 B ct S) S) g7 dX12_comesTold_113 ?_
        refine lv_aload_n hx hb dX12_comesTold_114 rfl (lv_at hl 3 rfl) ?_
        refine x_get C0 hP (lay_X12 B ct S) rfl inG12 56 (by decide) wd_1197 (fun _ h => h) rfl dX12_comesTold_115 ?_
        refine lv_iload_n hx hb dX12_comesTold_118 rfl (lv_at hl 2 rfl) ?_
        refine lv_iconst (v := 2) hx hb dX12_comesTold_119 (by decide) ?_
        refine lv_iadd hx hb dX12_comesTold_120 ?_
        obtain ⟨g8, h⟩ := ob_gd h
        refine x_iald C0 hP ((fun S => lay_176 B ct S) S) g8 dX12_comesTold_121 ?_
        obtain ⟨r9, hr9, h⟩ := ob_bd h
        refine n_Iw (kV (As := [.int (gi S 176 (7 * v1).toNatClampNeg), .int (gi S 176 ((7 * v1) + 1).toNatClampNeg), .int (gi S 176 ((7 * v1) + 2).toNatClampNeg)]) C0 (c_X12_factComes l (gi S 176 (7 * v1).toNatClampNeg) (gi S 176 ((7 * v1) + 1).toNatClampNeg) (gi S 176 ((7 * v1) + 2).toNatClampNeg) hr9) ⟨wd_1407, wd_1404, wd_1406, wp_30, wd_6⟩ kd_X12_factComes ⟨Nat.le_of_ble_eq_true rfl, Nat.le_of_ble_eq_true rfl⟩ hP (lay_X12 B ct S) rfl rfl hl.1 rfl (Nat.le_of_ble_eq_true rfl) dX12_comesTold_122 ⟨Nat.le_of_ble_eq_true rfl, Nat.le_of_ble_eq_true rfl⟩) hS (fun H locs hP hS => ?_)
        obtain ⟨g10, h⟩ := ob_gd h
        exact r_Zw C0 hP hS (bool_n g10) h dX12_comesTold_125
      · have h := ob_f h z6
        rcases Decidable.em ((gi S 175 v1.toNatClampNeg : Int32) = 103) with z11 | z11
        · have h := ob_t h z11
          refine lv_tableIn (x := gi S 175 v1.toNatClampNeg) (off := 195) (tgt := 216) hx hb dX12_comesTold_21 (by rw [z11]; decide) (by rw [z11]; decide) (by rw [z11]; decide) (by decide) ?_
          exact w_X12_comesTold_216 l C0 (gi S 176 (7 * v1).toNatClampNeg) S h hP hS (lv_sub hl [3, 1] rfl)
        · have h := ob_f h z11
          rcases Decidable.em ((gi S 175 v1.toNatClampNeg : Int32) = 104) with z12 | z12
          · have h := ob_t h z12
            refine lv_tableIn (x := gi S 175 v1.toNatClampNeg) (off := 195) (tgt := 216) hx hb dX12_comesTold_21 (by rw [z12]; decide) (by rw [z12]; decide) (by rw [z12]; decide) (by decide) ?_
            exact w_X12_comesTold_216 l C0 (gi S 176 (7 * v1).toNatClampNeg) S h hP hS (lv_sub hl [3, 1] rfl)
          · have h := ob_f h z12
            rcases Decidable.em ((gi S 175 v1.toNatClampNeg : Int32) = 105) with z13 | z13
            · have h := ob_t h z13
              refine lv_tableIn (x := gi S 175 v1.toNatClampNeg) (off := 195) (tgt := 216) hx hb dX12_comesTold_21 (by rw [z13]; decide) (by rw [z13]; decide) (by rw [z13]; decide) (by decide) ?_
              exact w_X12_comesTold_216 l C0 (gi S 176 (7 * v1).toNatClampNeg) S h hP hS (lv_sub hl [3, 1] rfl)
            · have h := ob_f h z13
              rcases Decidable.em ((gi S 175 v1.toNatClampNeg : Int32) = 106) with z14 | z14
              · have h := ob_t h z14
                refine lv_tableIn (x := gi S 175 v1.toNatClampNeg) (off := 195) (tgt := 216) hx hb dX12_comesTold_21 (by rw [z14]; decide) (by rw [z14]; decide) (by rw [z14]; decide) (by decide) ?_
                exact w_X12_comesTold_216 l C0 (gi S 176 (7 * v1).toNatClampNeg) S h hP hS (lv_sub hl [3, 1] rfl)
              · have h := ob_f h z14
                rcases Decidable.em ((gi S 175 v1.toNatClampNeg : Int32) = 107) with z15 | z15
                · have h := ob_t h z15
                  refine lv_tableIn (x := gi S 175 v1.toNatClampNeg) (off := 111) (tgt := 132) hx hb dX12_comesTold_21 (by rw [z15]; decide) (by rw [z15]; decide) (by rw [z15]; decide) (by decide) ?_
                  refine lv_iload_n hx hb dX12_comesTold_132 rfl (lv_at hl 1 rfl) ?_
                  obtain ⟨r16, hr16, h⟩ := ob_bd h
                  refine n_I (kS (As := [.int (gi S 176 (7 * v1).toNatClampNeg)]) C0 (c_X12_isCase l (gi S 176 (7 * v1).toNatClampNeg) hr16) ⟨wd_1410, wd_1408, wd_1409, wd_6⟩ kd_X12_isCase ⟨Nat.le_of_ble_eq_true rfl, Nat.le_of_ble_eq_true rfl⟩ hP rfl hl.1 rfl (Nat.le_of_ble_eq_true rfl) dX12_comesTold_133 ⟨Nat.le_of_ble_eq_true rfl, Nat.le_of_ble_eq_true rfl⟩) hS (fun H locs hP hS => ?_)
                  refine lv_if_eq (tgt := 169) hx hb dX12_comesTold_136 (by decide) (fun z17 => ?_) (fun z17 => ?_)
                  · have h := ob_t h z17
                    exact w_X12_comesTold_169 l C0 (7 * v1) (gi S 176 (7 * v1).toNatClampNeg) S h hP hS (lv_sub hl [3, 2, 1] rfl)
                  · have h := ob_f h z17
                    refine lv_aload_n hx hb dX12_comesTold_139 rfl (lv_at hl 3 rfl) ?_
                    refine x_get C0 hP (lay_X12 B ct S) rfl inG12 56 (by decide) wd_1197 (fun _ h => h) rfl dX12_comesTold_140 ?_
                    refine lv_iload_n hx hb dX12_comesTold_143 rfl (lv_at hl 2 rfl) ?_
                    refine lv_iconst (v := 1) hx hb dX12_comesTold_144 (by decide) ?_
                    refine lv_iadd hx hb dX12_comesTold_145 ?_
                    obtain ⟨g18, h⟩ := ob_gd h
                    refine x_iald C0 hP ((fun S => lay_176 B ct S) S) g18 dX12_comesTold_146 ?_
                    obtain ⟨r19, hr19, h⟩ := ob_bd h
                    refine n_I (kS (As := [.int (gi S 176 ((7 * v1) + 1).toNatClampNeg)]) C0 (c_X12_isCase l (gi S 176 ((7 * v1) + 1).toNatClampNeg) hr19) ⟨wd_1410, wd_1408, wd_1409, wd_6⟩ kd_X12_isCase ⟨Nat.le_of_ble_eq_true rfl, Nat.le_of_ble_eq_true rfl⟩ hP rfl hl.1 rfl (Nat.le_of_ble_eq_true rfl) dX12_comesTold_147 ⟨Nat.le_of_ble_eq_true rfl, Nat.le_of_ble_eq_true rfl⟩) hS (fun H locs hP hS => ?_)
                    refine lv_if_eq (tgt := 169) hx hb dX12_comesTold_150 (by decide) (fun z20 => ?_) (fun z20 => ?_)
                    · have h := ob_t h z20
                      exact w_X12_comesTold_169 l C0 (7 * v1) (gi S 176 (7 * v1).toNatClampNeg) S h hP hS (lv_sub hl [3, 2, 1] rfl)
                    · have h := ob_f h z20
                      refine lv_iload_n hx hb dX12_comesTold_153 rfl (lv_at hl 1 rfl) ?_
                      refine lv_aload_n hx hb dX12_comesTold_154 rfl (lv_at hl 3 rfl) ?_
                      refine x_get C0 hP (lay_X12 B ct S) rfl inG12 56 (by decide) wd_1197 (fun _ h => h) rfl dX12_comesTold_155 ?_
                      refine lv_iload_n hx hb dX12_comesTold_158 rfl (lv_at hl 2 rfl) ?_
                      refine lv_iconst (v := 1) hx hb dX12_comesTold_159 (by decide) ?_
                      refine lv_iadd hx hb dX12_comesTold_160 ?_
                      obtain ⟨g21, h⟩ := ob_gd h
                      refine x_iald C0 hP ((fun S => lay_176 B ct S) S) g21 dX12_comesTold_161 ?_
                      refine lv_icmp_eq (tgt := 169) hx hb dX12_comesTold_162 (by decide) (fun z22 => ?_) (fun z22 => ?_)
                      · have h := ob_t h z22
                        exact w_X12_comesTold_169 l C0 (7 * v1) (gi S 176 (7 * v1).toNatClampNeg) S h hP hS (lv_sub hl [3, 2, 1] rfl)
                      · have h := ob_f h z22
                        refine lv_iconst (v := 1) hx hb dX12_comesTold_165 (by decide) ?_
                        refine lv_goto (tgt := 170) hx hb dX12_comesTold_166 (by decide) ?_
                        exact w_X12_comesTold_170 l C0 (7 * v1) (gi S 176 (7 * v1).toNatClampNeg) 1 S h hP hS (lv_sub hl [3, 2, 1] rfl)
                · have h := ob_f h z15
                  rcases Decidable.em ((gi S 175 v1.toNatClampNeg : Int32) = 108) with z23 | z23
                  · have h := ob_t h z23
                    refine lv_tableIn (x := gi S 175 v1.toNatClampNeg) (off := 195) (tgt := 216) hx hb dX12_comesTold_21 (by rw [z23]; decide) (by rw [z23]; decide) (by rw [z23]; decide) (by decide) ?_
                    exact w_X12_comesTold_216 l C0 (gi S 176 (7 * v1).toNatClampNeg) S h hP hS (lv_sub hl [3, 1] rfl)
                  · have h := ob_f h z23
                    rcases Decidable.em ((gi S 175 v1.toNatClampNeg : Int32) = 109) with z24 | z24
                    · have h := ob_t h z24
                      refine lv_tableIn (x := gi S 175 v1.toNatClampNeg) (off := 195) (tgt := 216) hx hb dX12_comesTold_21 (by rw [z24]; decide) (by rw [z24]; decide) (by rw [z24]; decide) (by decide) ?_
                      exact w_X12_comesTold_216 l C0 (gi S 176 (7 * v1).toNatClampNeg) S h hP hS (lv_sub hl [3, 1] rfl)
                    · have h := ob_f h z24
                      rcases Decidable.em ((gi S 175 v1.toNatClampNeg : Int32) = 110) with z25 | z25
                      · have h := ob_t h z25
                        refine lv_tableIn (x := gi S 175 v1.toNatClampNeg) (off := 195) (tgt := 216) hx hb dX12_comesTold_21 (by rw [z25]; decide) (by rw [z25]; decide) (by rw [z25]; decide) (by decide) ?_
                        exact w_X12_comesTold_216 l C0 (gi S 176 (7 * v1).toNatClampNeg) S h hP hS (lv_sub hl [3, 1] rfl)
                      · have h := ob_f h z25
                        rcases Decidable.em ((gi S 175 v1.toNatClampNeg : Int32) = 111) with z26 | z26
                        · have h := ob_t h z26
                          refine lv_tableIn (x := gi S 175 v1.toNatClampNeg) (off := 178) (tgt := 199) hx hb dX12_comesTold_21 (by rw [z26]; decide) (by rw [z26]; decide) (by rw [z26]; decide) (by decide) ?_
                          refine lv_aload_n hx hb dX12_comesTold_199 rfl (lv_at hl 3 rfl) ?_
                          refine lv_iload_n hx hb dX12_comesTold_200 rfl (lv_at hl 1 rfl) ?_
                          obtain ⟨S27, eS27, h⟩ := ob_nm h
                          refine x_put (S' := si S 136 6 (gi S 176 (7 * v1).toNatClampNeg)) (FS := (fs12 B)) C0 hP hS (fun S => lay_X12 B ct S) rfl inG12 tyX12 tyX12_ok nmX12 6 (by decide) wd_1147 rfl rfl (fun a ha => lay_local (gi_si_n _ _ _ ha) rfl rfl rfl) (put_12_6 B _ _) rfl rfl (Nat.le_of_ble_eq_true rfl) dX12_comesTold_201 (fun H locs hP hS => ?_)
                          rw [← eS27] at hP
                          refine lv_iload_n hx hb dX12_comesTold_204 rfl (lv_at hl 1 rfl) ?_
                          obtain ⟨r28, hr28, h⟩ := ob_bd h
                          refine n_I (kS (As := [.int (gi S 176 (7 * v1).toNatClampNeg)]) C0 (c_X12_isHour l (gi S 176 (7 * v1).toNatClampNeg) hr28) ⟨wd_1414, wd_1412, wd_1413, wd_6⟩ kd_X12_isHour ⟨Nat.le_of_ble_eq_true rfl, Nat.le_of_ble_eq_true rfl⟩ hP rfl hl.1 rfl (Nat.le_of_ble_eq_true rfl) dX12_comesTold_205 ⟨Nat.le_of_ble_eq_true rfl, Nat.le_of_ble_eq_true rfl⟩) hS (fun H locs hP hS => ?_)
                          obtain ⟨g29, h⟩ := ob_gd h
                          exact r_Zw C0 hP hS (bool_n g29) h dX12_comesTold_208
                        · have h := ob_f h z26
                          rcases Decidable.em ((gi S 175 v1.toNatClampNeg : Int32) = 112) with z30 | z30
                          · have h := ob_t h z30
                            refine lv_tableIn (x := gi S 175 v1.toNatClampNeg) (off := 105) (tgt := 126) hx hb dX12_comesTold_21 (by rw [z30]; decide) (by rw [z30]; decide) (by rw [z30]; decide) (by decide) ?_
                            refine lv_aload_n hx hb dX12_comesTold_126 rfl (lv_at hl 3 rfl) ?_
                            refine lv_iload_n hx hb dX12_comesTold_127 rfl (lv_at hl 2 rfl) ?_
                            obtain ⟨r31, hr31, h⟩ := ob_bd h
                            refine n_Iw (kV (As := [.int (7 * v1)]) C0 (c_X12_oneTold l (7 * v1) hr31) ⟨wd_1419, wd_1416, wd_1418, wp_31, wd_6⟩ kd_X12_oneTold ⟨Nat.le_of_ble_eq_true rfl, Nat.le_of_ble_eq_true rfl⟩ hP (lay_X12 B ct S) rfl rfl hl.1 rfl (Nat.le_of_ble_eq_true rfl) dX12_comesTold_128 ⟨Nat.le_of_ble_eq_true rfl, Nat.le_of_ble_eq_true rfl⟩) hS (fun H locs hP hS => ?_)
                            obtain ⟨g32, h⟩ := ob_gd h
                            exact r_Zw C0 hP hS (bool_n g32) h dX12_comesTold_131
                          · have h := ob_f h z30
                            rcases Decidable.em ((gi S 175 v1.toNatClampNeg : Int32) = 113) with z33 | z33
                            · have h := ob_t h z33
                              refine lv_tableIn (x := gi S 175 v1.toNatClampNeg) (off := 195) (tgt := 216) hx hb dX12_comesTold_21 (by rw [z33]; decide) (by rw [z33]; decide) (by rw [z33]; decide) (by decide) ?_
                              exact w_X12_comesTold_216 l C0 (gi S 176 (7 * v1).toNatClampNeg) S h hP hS (lv_sub hl [3, 1] rfl)
                            · have h := ob_f h z33
                              rcases Decidable.em ((gi S 175 v1.toNatClampNeg : Int32) = 114) with z34 | z34
                              · have h := ob_t h z34
                                refine lv_tableIn (x := gi S 175 v1.toNatClampNeg) (off := 195) (tgt := 216) hx hb dX12_comesTold_21 (by rw [z34]; decide) (by rw [z34]; decide) (by rw [z34]; decide) (by decide) ?_
                                exact w_X12_comesTold_216 l C0 (gi S 176 (7 * v1).toNatClampNeg) S h hP hS (lv_sub hl [3, 1] rfl)
                              · have h := ob_f h z34
                                rcases Decidable.em ((gi S 175 v1.toNatClampNeg : Int32) = 115) with z35 | z35
                                · have h := ob_t h z35
                                  refine lv_tableIn (x := gi S 175 v1.toNatClampNeg) (off := 195) (tgt := 216) hx hb dX12_comesTold_21 (by rw [z35]; decide) (by rw [z35]; decide) (by rw [z35]; decide) (by decide) ?_
                                  exact w_X12_comesTold_216 l C0 (gi S 176 (7 * v1).toNatClampNeg) S h hP hS (lv_sub hl [3, 1] rfl)
                                · have h := ob_f h z35
                                  rcases Decidable.em ((gi S 175 v1.toNatClampNeg : Int32) = 116) with z36 | z36
                                  · have h := ob_t h z36
                                    refine lv_tableIn (x := gi S 175 v1.toNatClampNeg) (off := 172) (tgt := 193) hx hb dX12_comesTold_21 (by rw [z36]; decide) (by rw [z36]; decide) (by rw [z36]; decide) (by decide) ?_
                                    refine lv_aload_n hx hb dX12_comesTold_193 rfl (lv_at hl 3 rfl) ?_
                                    refine lv_iload_n hx hb dX12_comesTold_194 rfl (lv_at hl 2 rfl) ?_
                                    obtain ⟨r37, hr37, h⟩ := ob_bd h
                                    refine n_Iw (kV (As := [.int (7 * v1)]) C0 (c_X12_plantTold l (7 * v1) hr37) ⟨wd_1431, wd_1428, wd_1430, wp_34, wd_6⟩ kd_X12_plantTold ⟨Nat.le_of_ble_eq_true rfl, Nat.le_of_ble_eq_true rfl⟩ hP (lay_X12 B ct S) rfl rfl hl.1 rfl (Nat.le_of_ble_eq_true rfl) dX12_comesTold_195 ⟨Nat.le_of_ble_eq_true rfl, Nat.le_of_ble_eq_true rfl⟩) hS (fun H locs hP hS => ?_)
                                    obtain ⟨g38, h⟩ := ob_gd h
                                    exact r_Zw C0 hP hS (bool_n g38) h dX12_comesTold_198
                                  · have h := ob_f h z36
                                    refine lv_tableOut (x := gi S 175 v1.toNatClampNeg) (tgt := 216) hx hb dX12_comesTold_21 (sw_100_17 z3 z5 z6 z11 z12 z13 z14 z15 z23 z24 z25 z26 z30 z33 z34 z35 z36) (by decide) ?_
                                    exact w_X12_comesTold_216 l C0 (gi S 176 (7 * v1).toNatClampNeg) S h hP hS (lv_sub hl [3, 1] rfl)
set_option maxRecDepth 100000 in
set_option maxHeartbeats 4000000 in
theorem c_X12_comesTold (l : Launch) (a1 : Int32) {D : va_G} {ct : Nat → ClassId} {B : Nat} {Hb : Heap} {S : St} {V : Int32 × St} (h : L_X12_comesTold a1 S = some V) : Met l yX12_comesTold (Cond.code yX12_comesTold cX12_comesTold 5 (some .boolean) :: tG) { frames := 3, cells := 0, slots := 0, locals := 69 } (va_Pc [.ref (B + 136), .int a1] (MPK D ct B Hb S)) (qIw D ct B Hb V) 0 0 (AB B) := by
  refine mk_met (by decide +kernel) (Nat.le_of_ble_eq_true rfl) (fun p e s m args below meth c ls C0 hP hl _ => ?_)
  have h := ob_of h
  exact w_X12_comesTold_0 l C0 a1 S h hP va_S.rf (lv_sub hl [0, 1] rfl)
set_option maxRecDepth 100000 in
set_option maxHeartbeats 4000000 in
theorem w_X12_wrongRow_0 (l : Launch) {V : Int32} (C0 : XC D ct p s m args meth c cX12_wrongRow 2 (some .int) RX12) (v1 : Int32) (S : St) {H : Heap} {locs : List Loc} {ls : Array Slot} (h : (b_X12_wrongRow_0 v1 S).bind some = some V) (hP : MP D ct B Hb S H) (hS : va_S (AB B) s.heap H locs) (hl : lv_has ls 2 [(0, .ref (B + 136)), (1, .int v1)]) : W p l e { frames := 1, cells := 0, slots := 0, locals := 25 } s m args below meth c H locs 0 0 (MQ below (qI D ct B Hb S V) args s 0 0 (AB B)) (F0 m 0 ls []) := by
  obtain ⟨hx, hb, hr, hml, hown, hts, hK, hlocks, hN⟩ := id C0
  unfold b_X12_wrongRow_0 at h
  refine lv_iload_n hx hb dX12_wrongRow_0 rfl (lv_at hl 1 rfl) ?_
  refine lv_i2l hx hb dX12_wrongRow_1 rfl ?_
  refine lv_lconst (v := 0) hx hb dX12_wrongRow_2 (by decide) ?_
  refine lv_ldc2 (v := 7) hx hb hown (hts _ wd_1367) dX12_wrongRow_3 ?_
  obtain ⟨r1, hr1, h⟩ := ob_bd h
  refine n_I (kS (As := [.long v1.toInt64, .long 0, .long 7]) C0 (c_X12_in l v1.toInt64 0 7 hr1) ⟨wd_1370, wd_1368, wd_1369, wd_6⟩ kd_X12_in ⟨Nat.le_of_ble_eq_true rfl, Nat.le_of_ble_eq_true rfl⟩ hP rfl hl.1 rfl (Nat.le_of_ble_eq_true rfl) dX12_wrongRow_6 ⟨Nat.le_of_ble_eq_true rfl, Nat.le_of_ble_eq_true rfl⟩) hS (fun H locs hP hS => ?_)
  refine lv_if_ne (tgt := 16) hx hb dX12_wrongRow_9 (by decide) (fun z2 => ?_) (fun z2 => ?_)
  · have h := ob_f h z2
    refine lv_aload_n hx hb dX12_wrongRow_16 rfl (lv_at hl 0 rfl) ?_
    refine x_get C0 hP (lay_X12 B ct S) rfl inG12 22 (by decide) wd_1163 (fun _ h => h) rfl dX12_wrongRow_17 ?_
    refine lv_iload_n hx hb dX12_wrongRow_20 rfl (lv_at hl 1 rfl) ?_
    obtain ⟨g3, h⟩ := ob_gd h
    refine x_iald C0 hP ((fun S => lay_153 B ct S) S) g3 dX12_wrongRow_21 ?_
    refine lv_if_ne (tgt := 30) hx hb dX12_wrongRow_22 (by decide) (fun z4 => ?_) (fun z4 => ?_)
    · have h := ob_f h z4
      refine lv_aload_n hx hb dX12_wrongRow_30 rfl (lv_at hl 0 rfl) ?_
      refine x_get C0 hP (lay_X12 B ct S) rfl inG12 22 (by decide) wd_1163 (fun _ h => h) rfl dX12_wrongRow_31 ?_
      refine lv_iload_n hx hb dX12_wrongRow_34 rfl (lv_at hl 1 rfl) ?_
      obtain ⟨g5, h⟩ := ob_gd h
      refine x_iald C0 hP ((fun S => lay_153 B ct S) S) g5 dX12_wrongRow_35 ?_
      refine lv_iconst (v := 2) hx hb dX12_wrongRow_36 (by decide) ?_
      refine lv_icmp_eq (tgt := 45) hx hb dX12_wrongRow_37 (by decide) (fun z6 => ?_) (fun z6 => ?_)
      · have h := ob_t h z6
        refine lv_iconst (v := 0) hx hb dX12_wrongRow_45 (by decide) ?_
        exact r_I C0 hP hS h dX12_wrongRow_46
      · have h := ob_f h z6
        refine lv_bipush (v := (-12)) hx hb dX12_wrongRow_40 (by decide) ?_
        refine lv_goto (tgt := 46) hx hb dX12_wrongRow_42 (by decide) ?_
        exact r_I C0 hP hS h dX12_wrongRow_46
    · have h := ob_t h z4
      refine lv_bipush (v := (-11)) hx hb dX12_wrongRow_25 (by decide) ?_
      refine lv_goto (tgt := 46) hx hb dX12_wrongRow_27 (by decide) ?_
      exact r_I C0 hP hS h dX12_wrongRow_46
  · have h := ob_t h z2
    refine lv_iconst (v := (-1)) hx hb dX12_wrongRow_12 (by decide) ?_
    refine lv_goto (tgt := 46) hx hb dX12_wrongRow_13 (by decide) ?_
    exact r_I C0 hP hS h dX12_wrongRow_46
set_option maxRecDepth 100000 in
set_option maxHeartbeats 4000000 in
theorem c_X12_wrongRow (l : Launch) (a1 : Int32) {D : va_G} {ct : Nat → ClassId} {B : Nat} {Hb : Heap} {S : St} {V : Int32} (h : L_X12_wrongRow a1 S = some V) : Met l yX12_wrongRow (Cond.code yX12_wrongRow cX12_wrongRow 2 (some .int) :: tG) { frames := 1, cells := 0, slots := 0, locals := 25 } (va_Pc [.ref (B + 136), .int a1] (MPK D ct B Hb S)) (qI D ct B Hb S V) 0 0 (AB B) := by
  refine mk_met (by decide +kernel) (Nat.le_of_ble_eq_true rfl) (fun p e s m args below meth c ls C0 hP hl _ => ?_)
  have h := ob_of h
  exact w_X12_wrongRow_0 l C0 a1 S h hP va_S.rf (lv_sub hl [0, 1] rfl)
set_option maxRecDepth 100000 in
set_option maxHeartbeats 4000000 in
theorem w_X12_town_113 (l : Launch) {V : Int32 × St} (C0 : XC D ct p s m args meth c cX12_town 4 (some .int) RX12) (n0 : Nat) (ih0 : ∀ (v3 : Int32) (S : St) (H : Heap) (locs : List Loc) (ls : Array Slot), (lp n0 (l_X12_town_113) (v3, S)).bind some = some V → MP D ct B Hb S H → va_S (AB B) s.heap H locs → lv_has ls 4 [(0, .ref (B + 136)), (3, .int v3)] → W p l e { frames := 4, cells := 0, slots := 0, locals := 93 } s m args below meth c H locs 0 0 (MQ below (qIw D ct B Hb V) args s 0 0 (AB B)) (F0 m 113 ls [])) (v3 : Int32) (S : St) {H : Heap} {locs : List Loc} {ls : Array Slot} (h : (b_X12_town_113 v3 S).bind (lpF n0 (l_X12_town_113) some) = some V) (hP : MP D ct B Hb S H) (hS : va_S (AB B) s.heap H locs) (hl : lv_has ls 4 [(0, .ref (B + 136)), (3, .int v3)]) : W p l e { frames := 4, cells := 0, slots := 0, locals := 93 } s m args below meth c H locs 0 0 (MQ below (qIw D ct B Hb V) args s 0 0 (AB B)) (F0 m 113 ls []) := by
  obtain ⟨hx, hb, hr, hml, hown, hts, hK, hlocks, hN⟩ := id C0
  unfold b_X12_town_113 at h
  refine lv_iload_n hx hb dX12_town_113 rfl (lv_at hl 1 rfl) ?_
  refine lv_aload_n hx hb dX12_town_114 rfl (lv_at hl 0 rfl) ?_
  refine x_get C0 hP (lay_X12 B ct S) rfl inG12 53 (by decide) wd_1194 (fun _ h => h) rfl dX12_town_115 ?_
  refine lv_icmp_ge (tgt := 150) hx hb dX12_town_118 (by decide) (fun z1 => ?_) (fun z1 => ?_)
  · have h := ob_t h z1
    refine lv_aload_n hx hb dX12_town_150 rfl (lv_at hl 0 rfl) ?_
    refine x_get C0 hP (lay_X12 B ct S) rfl inG12 53 (by decide) wd_1194 (fun _ h => h) rfl dX12_town_151 ?_
    exact r_Iw C0 hP hS h dX12_town_154
  · have h := ob_f h z1
    refine lv_aload_n hx hb dX12_town_121 rfl (lv_at hl 0 rfl) ?_
    refine lv_iload_n hx hb dX12_town_122 rfl (lv_at hl 1 rfl) ?_
    obtain ⟨r2, hr2, h⟩ := ob_bd h
    refine n_Iw (kV (As := [.int v3]) C0 (c_X12_comesTold l v3 hr2) ⟨wd_1403, wd_1400, wd_1402, wp_29, wd_6⟩ kd_X12_comesTold ⟨Nat.le_of_ble_eq_true rfl, Nat.le_of_ble_eq_true rfl⟩ hP (lay_X12 B ct S) rfl rfl hl.1 rfl (Nat.le_of_ble_eq_true rfl) dX12_town_123 ⟨Nat.le_of_ble_eq_true rfl, Nat.le_of_ble_eq_true rfl⟩) hS (fun H locs hP hS => ?_)
    refine lv_if_ne (tgt := 144) hx hb dX12_town_126 (by decide) (fun z3 => ?_) (fun z3 => ?_)
    · have h := ob_f h z3
      refine lv_iinc (v := v3 + 1) (lv' := [(3, .int (v3 + 1)), (0, .ref (B + 136))]) hx hb dX12_town_144 hl (k := 1) rfl rfl (by decide) rfl (fun ls hl => ?_)
      refine lv_goto (tgt := 113) hx hb dX12_town_147 (by decide) ?_
      exact ih0 (v3 + 1) r2.2 _ _ _ h hP hS (lv_sub hl [1, 0] rfl)
    · have h := ob_t h z3
      refine lv_aload_n hx hb dX12_town_129 rfl (lv_at hl 0 rfl) ?_
      obtain ⟨r4, hr4, h⟩ := ob_bd h
      refine n_Vw (kV (As := []) C0 (c_X12_close l hr4) ⟨wd_1440, wd_1437, wd_1439, wp_36, wd_6⟩ kd_X12_close ⟨Nat.le_of_ble_eq_true rfl, Nat.le_of_ble_eq_true rfl⟩ hP (lay_X12 B ct r2.2) rfl rfl hl.1 rfl (Nat.le_of_ble_eq_true rfl) dX12_town_130 ⟨Nat.le_of_ble_eq_true rfl, Nat.le_of_ble_eq_true rfl⟩) hS (fun H locs hP hS => ?_)
      refine lv_sipush (v := (-2000)) hx hb dX12_town_133 (by decide) ?_
      refine lv_aload_n hx hb dX12_town_136 rfl (lv_at hl 0 rfl) ?_
      refine x_get C0 hP (lay_X12 B ct r4) rfl inG12 54 (by decide) wd_1195 (fun _ h => h) rfl dX12_town_137 ?_
      refine lv_iload_n hx hb dX12_town_140 rfl (lv_at hl 1 rfl) ?_
      obtain ⟨g5, h⟩ := ob_gd h
      refine x_iald C0 hP ((fun S => lay_174 B ct S) r4) g5 dX12_town_141 ?_
      refine lv_isub hx hb dX12_town_142 ?_
      exact r_Iw C0 hP hS h dX12_town_143
set_option maxRecDepth 100000 in
set_option maxHeartbeats 4000000 in
theorem wl_X12_town_113 (l : Launch) {V : Int32 × St} (C0 : XC D ct p s m args meth c cX12_town 4 (some .int) RX12)  : ∀ (n0 : Nat) (v3 : Int32) (S : St) {H : Heap} {locs : List Loc} {ls : Array Slot}, (lp n0 (l_X12_town_113) (v3, S)).bind some = some V → MP D ct B Hb S H → va_S (AB B) s.heap H locs → lv_has ls 4 [(0, .ref (B + 136)), (3, .int v3)] → W p l e { frames := 4, cells := 0, slots := 0, locals := 93 } s m args below meth c H locs 0 0 (MQ below (qIw D ct B Hb V) args s 0 0 (AB B)) (F0 m 113 ls []) := by
  intro n0
  induction n0 with
  | zero =>
    intro v3 S H locs ls h hP hS hl
    exact (lp_0 h).elim
  | succ n0 ih0 =>
    intro v3 S H locs ls h hP hS hl
    have h := lp_s h
    exact w_X12_town_113 l C0 n0 (fun v3 S H locs ls h hP hS hl => ih0 v3 S h hP hS hl) v3 S h hP hS hl
set_option maxRecDepth 100000 in
set_option maxHeartbeats 4000000 in
theorem w_X12_town_91 (l : Launch) {V : Int32 × St} (C0 : XC D ct p s m args meth c cX12_town 4 (some .int) RX12) (S : St) {H : Heap} {locs : List Loc} {ls : Array Slot} (h : (b_X12_town_91 S).bind some = some V) (hP : MP D ct B Hb S H) (hS : va_S (AB B) s.heap H locs) (hl : lv_has ls 4 [(0, .ref (B + 136))]) : W p l e { frames := 4, cells := 0, slots := 0, locals := 93 } s m args below meth c H locs 0 0 (MQ below (qIw D ct B Hb V) args s 0 0 (AB B)) (F0 m 91 ls []) := by
  obtain ⟨hx, hb, hr, hml, hown, hts, hK, hlocks, hN⟩ := id C0
  unfold b_X12_town_91 at h
  refine lv_aload_n hx hb dX12_town_91 rfl (lv_at hl 0 rfl) ?_
  refine x_get C0 hP (lay_X12 B ct S) rfl inG12 52 (by decide) wd_1193 (fun _ h => h) rfl dX12_town_92 ?_
  refine lv_if_eq (tgt := 107) hx hb dX12_town_95 (by decide) (fun z1 => ?_) (fun z1 => ?_)
  · have h := ob_t h z1
    refine lv_aload_n hx hb dX12_town_107 rfl (lv_at hl 0 rfl) ?_
    obtain ⟨r2, hr2, h⟩ := ob_bd h
    refine n_Vw (kV (As := []) C0 (c_X12_open l hr2) ⟨wd_1399, wd_1396, wd_1398, wp_28, wd_6⟩ kd_X12_open ⟨Nat.le_of_ble_eq_true rfl, Nat.le_of_ble_eq_true rfl⟩ hP (lay_X12 B ct S) rfl rfl hl.1 rfl (Nat.le_of_ble_eq_true rfl) dX12_town_108 ⟨Nat.le_of_ble_eq_true rfl, Nat.le_of_ble_eq_true rfl⟩) hS (fun H locs hP hS => ?_)
    refine lv_iconst (v := 0) hx hb dX12_town_111 (by decide) ?_
    refine lv_istore_n (lv' := [(3, .int 0), (0, .ref (B + 136))]) hx hb dX12_town_112 rfl hl (by decide) rfl (fun ls hl => ?_)
    exact wl_X12_town_113 l C0 1000 0 r2 h hP hS (lv_sub hl [1, 0] rfl)
  · have h := ob_f h z1
    refine lv_sipush (v := (-1000)) hx hb dX12_town_98 (by decide) ?_
    refine lv_aload_n hx hb dX12_town_101 rfl (lv_at hl 0 rfl) ?_
    refine x_get C0 hP (lay_X12 B ct S) rfl inG12 51 (by decide) wd_1192 (fun _ h => h) rfl dX12_town_102 ?_
    refine lv_isub hx hb dX12_town_105 ?_
    exact r_Iw C0 hP hS h dX12_town_106
set_option maxRecDepth 100000 in
set_option maxHeartbeats 4000000 in
theorem w_X12_town_84 (l : Launch) {V : Int32 × St} (C0 : XC D ct p s m args meth c cX12_town 4 (some .int) RX12) (n0 : Nat) (ih0 : ∀ (v1 : Int32) (S : St) (H : Heap) (locs : List Loc) (ls : Array Slot), (lp n0 (l_X12_town_57) (v1, S)).bind some = some V → MP D ct B Hb S H → va_S (AB B) s.heap H locs → lv_has ls 4 [(0, .ref (B + 136)), (1, .int v1)] → W p l e { frames := 4, cells := 0, slots := 0, locals := 93 } s m args below meth c H locs 0 0 (MQ below (qIw D ct B Hb V) args s 0 0 (AB B)) (F0 m 57 ls [])) (v1 : Int32) (S : St) {H : Heap} {locs : List Loc} {ls : Array Slot} (h : (b_X12_town_84 v1 S).bind (lpF n0 (l_X12_town_57) some) = some V) (hP : MP D ct B Hb S H) (hS : va_S (AB B) s.heap H locs) (hl : lv_has ls 4 [(0, .ref (B + 136)), (1, .int v1)]) : W p l e { frames := 4, cells := 0, slots := 0, locals := 93 } s m args below meth c H locs 0 0 (MQ below (qIw D ct B Hb V) args s 0 0 (AB B)) (F0 m 84 ls []) := by
  obtain ⟨hx, hb, hr, hml, hown, hts, hK, hlocks, hN⟩ := id C0
  unfold b_X12_town_84 at h
  refine lv_aload_n hx hb dX12_town_84 rfl (lv_at hl 0 rfl) ?_
  obtain ⟨r1, hr1, h⟩ := ob_bd h
  refine n_Vw (kV (As := []) C0 (c_X12_readStatement l hr1) ⟨wd_1374, wd_1371, wd_1373, wp_23, wd_6⟩ kd_X12_readStatement ⟨Nat.le_of_ble_eq_true rfl, Nat.le_of_ble_eq_true rfl⟩ hP (lay_X12 B ct S) rfl rfl hl.1 rfl (Nat.le_of_ble_eq_true rfl) dX12_town_85 ⟨Nat.le_of_ble_eq_true rfl, Nat.le_of_ble_eq_true rfl⟩) hS (fun H locs hP hS => ?_)
  refine lv_goto (tgt := 57) hx hb dX12_town_88 (by decide) ?_
  exact ih0 v1 r1 _ _ _ h hP hS (lv_sub hl [0, 1] rfl)
set_option maxRecDepth 100000 in
set_option maxHeartbeats 4000000 in
theorem w_X12_town_57 (l : Launch) {V : Int32 × St} (C0 : XC D ct p s m args meth c cX12_town 4 (some .int) RX12) (n0 : Nat) (ih0 : ∀ (v1 : Int32) (S : St) (H : Heap) (locs : List Loc) (ls : Array Slot), (lp n0 (l_X12_town_57) (v1, S)).bind some = some V → MP D ct B Hb S H → va_S (AB B) s.heap H locs → lv_has ls 4 [(0, .ref (B + 136)), (1, .int v1)] → W p l e { frames := 4, cells := 0, slots := 0, locals := 93 } s m args below meth c H locs 0 0 (MQ below (qIw D ct B Hb V) args s 0 0 (AB B)) (F0 m 57 ls [])) (v1 : Int32) (S : St) {H : Heap} {locs : List Loc} {ls : Array Slot} (h : (b_X12_town_57 v1 S).bind (lpF n0 (l_X12_town_57) some) = some V) (hP : MP D ct B Hb S H) (hS : va_S (AB B) s.heap H locs) (hl : lv_has ls 4 [(0, .ref (B + 136)), (1, .int v1)]) : W p l e { frames := 4, cells := 0, slots := 0, locals := 93 } s m args below meth c H locs 0 0 (MQ below (qIw D ct B Hb V) args s 0 0 (AB B)) (F0 m 57 ls []) := by
  obtain ⟨hx, hb, hr, hml, hown, hts, hK, hlocks, hN⟩ := id C0
  unfold b_X12_town_57 at h
  refine lv_aload_n hx hb dX12_town_57 rfl (lv_at hl 0 rfl) ?_
  refine x_get C0 hP (lay_X12 B ct S) rfl inG12 52 (by decide) wd_1193 (fun _ h => h) rfl dX12_town_58 ?_
  refine lv_if_ne (tgt := 91) hx hb dX12_town_61 (by decide) (fun z1 => ?_) (fun z1 => ?_)
  · have h := ob_f h z1
    have h := ob_mp h
    exact w_X12_town_91 l C0 S h hP hS (lv_sub hl [0] rfl)
  · have h := ob_t h z1
    refine lv_aload_n hx hb dX12_town_64 rfl (lv_at hl 0 rfl) ?_
    refine x_get C0 hP (lay_X12 B ct S) rfl inG12 53 (by decide) wd_1194 (fun _ h => h) rfl dX12_town_65 ?_
    refine lv_if_eq (tgt := 84) hx hb dX12_town_68 (by decide) (fun z2 => ?_) (fun z2 => ?_)
    · have h := ob_t h z2
      exact w_X12_town_84 l C0 n0 ih0 v1 S h hP hS (lv_sub hl [0, 1] rfl)
    · have h := ob_f h z2
      refine lv_aload_n hx hb dX12_town_71 rfl (lv_at hl 0 rfl) ?_
      refine x_get C0 hP (lay_X12 B ct S) rfl inG12 51 (by decide) wd_1192 (fun _ h => h) rfl dX12_town_72 ?_
      refine lv_aload_n hx hb dX12_town_75 rfl (lv_at hl 0 rfl) ?_
      refine x_get C0 hP (lay_X12 B ct S) rfl inG12 26 (by decide) wd_1167 (fun _ h => h) rfl dX12_town_76 ?_
      refine lv_iload_n hx hb dX12_town_79 rfl (lv_at hl 1 rfl) ?_
      obtain ⟨g3, h⟩ := ob_gd h
      refine x_iald C0 hP ((fun S => lay_157 B ct S) S) g3 dX12_town_80 ?_
      refine lv_icmp_ge (tgt := 91) hx hb dX12_town_81 (by decide) (fun z4 => ?_) (fun z4 => ?_)
      · have h := ob_t h z4
        have h := ob_mp h
        exact w_X12_town_91 l C0 S h hP hS (lv_sub hl [0] rfl)
      · have h := ob_f h z4
        exact w_X12_town_84 l C0 n0 ih0 v1 S h hP hS (lv_sub hl [0, 1] rfl)
set_option maxRecDepth 100000 in
set_option maxHeartbeats 4000000 in
theorem wl_X12_town_57 (l : Launch) {V : Int32 × St} (C0 : XC D ct p s m args meth c cX12_town 4 (some .int) RX12)  : ∀ (n0 : Nat) (v1 : Int32) (S : St) {H : Heap} {locs : List Loc} {ls : Array Slot}, (lp n0 (l_X12_town_57) (v1, S)).bind some = some V → MP D ct B Hb S H → va_S (AB B) s.heap H locs → lv_has ls 4 [(0, .ref (B + 136)), (1, .int v1)] → W p l e { frames := 4, cells := 0, slots := 0, locals := 93 } s m args below meth c H locs 0 0 (MQ below (qIw D ct B Hb V) args s 0 0 (AB B)) (F0 m 57 ls []) := by
  intro n0
  induction n0 with
  | zero =>
    intro v1 S H locs ls h hP hS hl
    exact (lp_0 h).elim
  | succ n0 ih0 =>
    intro v1 S H locs ls h hP hS hl
    have h := lp_s h
    exact w_X12_town_57 l C0 n0 (fun v1 S H locs ls h hP hS hl => ih0 v1 S h hP hS hl) v1 S h hP hS hl
set_option maxRecDepth 100000 in
set_option maxHeartbeats 4000000 in
theorem w_X12_town_30 (l : Launch) {V : Int32 × St} (C0 : XC D ct p s m args meth c cX12_town 4 (some .int) RX12) (v1 : Int32) (s0 : Int32) (S : St) {H : Heap} {locs : List Loc} {ls : Array Slot} (h : (b_X12_town_30 v1 s0 S).bind some = some V) (hP : MP D ct B Hb S H) (hS : va_S (AB B) s.heap H locs) (hl : lv_has ls 4 [(0, .ref (B + 136)), (1, .int v1)]) : W p l e { frames := 4, cells := 0, slots := 0, locals := 93 } s m args below meth c H locs 0 0 (MQ below (qIw D ct B Hb V) args s 0 0 (AB B)) (F0 m 30 ls [.int s0]) := by
  obtain ⟨hx, hb, hr, hml, hown, hts, hK, hlocks, hN⟩ := id C0
  unfold b_X12_town_30 at h
  refine lv_istore_n (lv' := [(2, .int s0), (0, .ref (B + 136)), (1, .int v1)]) hx hb dX12_town_30 rfl hl (by decide) rfl (fun ls hl => ?_)
  refine lv_iload_n hx hb dX12_town_31 rfl (lv_at hl 0 rfl) ?_
  refine lv_if_ge (tgt := 37) hx hb dX12_town_32 (by decide) (fun z1 => ?_) (fun z1 => ?_)
  · have h := ob_t h z1
    refine lv_aload_n hx hb dX12_town_37 rfl (lv_at hl 1 rfl) ?_
    refine lv_iload_n hx hb dX12_town_38 rfl (lv_at hl 2 rfl) ?_
    obtain ⟨S2, eS2, h⟩ := ob_nm h
    refine x_put (S' := si S 136 50 v1) (FS := (fs12 B)) C0 hP hS (fun S => lay_X12 B ct S) rfl inG12 tyX12 tyX12_ok nmX12 50 (by decide) wd_1191 rfl rfl (fun a ha => lay_local (gi_si_n _ _ _ ha) rfl rfl rfl) (put_12_50 B _ _) rfl rfl (Nat.le_of_ble_eq_true rfl) dX12_town_39 (fun H locs hP hS => ?_)
    rw [← eS2] at hP
    refine lv_aload_n hx hb dX12_town_42 rfl (lv_at hl 1 rfl) ?_
    refine lv_iconst (v := 0) hx hb dX12_town_43 (by decide) ?_
    obtain ⟨S3, eS3, h⟩ := ob_nm h
    refine x_put (S' := si S2 136 51 0) (FS := (fs12 B)) C0 hP hS (fun S => lay_X12 B ct S) rfl inG12 tyX12 tyX12_ok nmX12 51 (by decide) wd_1192 rfl rfl (fun a ha => lay_local (gi_si_n _ _ _ ha) rfl rfl rfl) (put_12_51 B _ _) rfl rfl (Nat.le_of_ble_eq_true rfl) dX12_town_44 (fun H locs hP hS => ?_)
    rw [← eS3] at hP
    refine lv_aload_n hx hb dX12_town_47 rfl (lv_at hl 1 rfl) ?_
    refine lv_iconst (v := 0) hx hb dX12_town_48 (by decide) ?_
    obtain ⟨S4, eS4, h⟩ := ob_nm h
    refine x_put (S' := si S3 136 52 0) (FS := (fs12 B)) C0 hP hS (fun S => lay_X12 B ct S) rfl inG12 tyX12 tyX12_ok nmX12 52 (by decide) wd_1193 rfl rfl (fun a ha => lay_local (gi_si_n _ _ _ ha) rfl rfl rfl) (put_12_52 B _ _) bool_0 rfl (Nat.le_of_ble_eq_true rfl) dX12_town_49 (fun H locs hP hS => ?_)
    rw [← eS4] at hP
    refine lv_aload_n hx hb dX12_town_52 rfl (lv_at hl 1 rfl) ?_
    refine lv_iconst (v := 0) hx hb dX12_town_53 (by decide) ?_
    obtain ⟨S5, eS5, h⟩ := ob_nm h
    refine x_put (S' := si S4 136 53 0) (FS := (fs12 B)) C0 hP hS (fun S => lay_X12 B ct S) rfl inG12 tyX12 tyX12_ok nmX12 53 (by decide) wd_1194 rfl rfl (fun a ha => lay_local (gi_si_n _ _ _ ha) rfl rfl rfl) (put_12_53 B _ _) rfl rfl (Nat.le_of_ble_eq_true rfl) dX12_town_54 (fun H locs hP hS => ?_)
    rw [← eS5] at hP
    exact wl_X12_town_57 l C0 1000 v1 S5 h hP hS (lv_sub hl [1, 2] rfl)
  · have h := ob_f h z1
    refine lv_iload_n hx hb dX12_town_35 rfl (lv_at hl 0 rfl) ?_
    exact r_Iw C0 hP hS h dX12_town_36
set_option maxRecDepth 100000 in
set_option maxHeartbeats 4000000 in
theorem w_X12_town_29 (l : Launch) {V : Int32 × St} (C0 : XC D ct p s m args meth c cX12_town 4 (some .int) RX12) (v1 : Int32) (v2 : Int32) (S : St) {H : Heap} {locs : List Loc} {ls : Array Slot} (h : (b_X12_town_29 v1 v2 S).bind some = some V) (hP : MP D ct B Hb S H) (hS : va_S (AB B) s.heap H locs) (hl : lv_has ls 4 [(0, .ref (B + 136)), (1, .int v1), (2, .int v2)]) : W p l e { frames := 4, cells := 0, slots := 0, locals := 93 } s m args below meth c H locs 0 0 (MQ below (qIw D ct B Hb V) args s 0 0 (AB B)) (F0 m 29 ls []) := by
  obtain ⟨hx, hb, hr, hml, hown, hts, hK, hlocks, hN⟩ := id C0
  unfold b_X12_town_29 at h
  refine lv_iload_n hx hb dX12_town_29 rfl (lv_at hl 2 rfl) ?_
  exact w_X12_town_30 l C0 v1 v2 S h hP hS (lv_sub hl [0, 1] rfl)
set_option maxRecDepth 100000 in
set_option maxHeartbeats 4000000 in
theorem w_X12_town_0 (l : Launch) {V : Int32 × St} (C0 : XC D ct p s m args meth c cX12_town 4 (some .int) RX12) (v1 : Int32) (S : St) {H : Heap} {locs : List Loc} {ls : Array Slot} (h : (b_X12_town_0 v1 S).bind some = some V) (hP : MP D ct B Hb S H) (hS : va_S (AB B) s.heap H locs) (hl : lv_has ls 4 [(0, .ref (B + 136)), (1, .int v1)]) : W p l e { frames := 4, cells := 0, slots := 0, locals := 93 } s m args below meth c H locs 0 0 (MQ below (qIw D ct B Hb V) args s 0 0 (AB B)) (F0 m 0 ls []) := by
  obtain ⟨hx, hb, hr, hml, hown, hts, hK, hlocks, hN⟩ := id C0
  unfold b_X12_town_0 at h
  refine lv_aload_n hx hb dX12_town_0 rfl (lv_at hl 0 rfl) ?_
  refine lv_iconst (v := 0) hx hb dX12_town_1 (by decide) ?_
  obtain ⟨S1, eS1, h⟩ := ob_nm h
  refine x_put (S' := si S 136 28 0) (FS := (fs12 B)) C0 hP hS (fun S => lay_X12 B ct S) rfl inG12 tyX12 tyX12_ok nmX12 28 (by decide) wd_1169 rfl rfl (fun a ha => lay_local (gi_si_n _ _ _ ha) rfl rfl rfl) (put_12_28 B _ _) rfl rfl (Nat.le_of_ble_eq_true rfl) dX12_town_2 (fun H locs hP hS => ?_)
  rw [← eS1] at hP
  refine lv_aload_n hx hb dX12_town_5 rfl (lv_at hl 0 rfl) ?_
  refine lv_iload_n hx hb dX12_town_6 rfl (lv_at hl 1 rfl) ?_
  obtain ⟨r2, hr2, h⟩ := ob_bd h
  refine n_I (kV (As := [.int v1]) C0 (c_X12_wrongRow l v1 hr2) ⟨wd_1366, wd_1363, wd_1365, wp_22, wd_6⟩ kd_X12_wrongRow ⟨Nat.le_of_ble_eq_true rfl, Nat.le_of_ble_eq_true rfl⟩ hP (lay_X12 B ct S1) rfl rfl hl.1 rfl (Nat.le_of_ble_eq_true rfl) dX12_town_7 ⟨Nat.le_of_ble_eq_true rfl, Nat.le_of_ble_eq_true rfl⟩) hS (fun H locs hP hS => ?_)
  refine lv_istore_n (lv' := [(2, .int r2), (0, .ref (B + 136)), (1, .int v1)]) hx hb dX12_town_10 rfl hl (by decide) rfl (fun ls hl => ?_)
  refine lv_iload_n hx hb dX12_town_11 rfl (lv_at hl 0 rfl) ?_
  refine lv_if_ne (tgt := 29) hx hb dX12_town_12 (by decide) (fun z3 => ?_) (fun z3 => ?_)
  · have h := ob_f h z3
    exact w_X12_town_29 l C0 v1 r2 S1 h hP hS (lv_sub hl [1, 2, 0] rfl)
  · have h := ob_t h z3
    refine lv_aload_n hx hb dX12_town_15 rfl (lv_at hl 1 rfl) ?_
    refine x_get C0 hP (lay_X12 B ct S1) rfl inG12 25 (by decide) wd_1166 (fun _ h => h) rfl dX12_town_16 ?_
    refine lv_iload_n hx hb dX12_town_19 rfl (lv_at hl 2 rfl) ?_
    obtain ⟨g4, h⟩ := ob_gd h
    refine x_iald C0 hP ((fun S => lay_156 B ct S) S1) g4 dX12_town_20 ?_
    refine lv_if_eq (tgt := 29) hx hb dX12_town_21 (by decide) (fun z5 => ?_) (fun z5 => ?_)
    · have h := ob_t h z5
      exact w_X12_town_29 l C0 v1 r2 S1 h hP hS (lv_sub hl [1, 2, 0] rfl)
    · have h := ob_f h z5
      refine lv_bipush (v := (-12)) hx hb dX12_town_24 (by decide) ?_
      refine lv_goto (tgt := 30) hx hb dX12_town_26 (by decide) ?_
      exact w_X12_town_30 l C0 v1 ((-12)) S1 h hP hS (lv_sub hl [1, 2] rfl)
set_option maxRecDepth 100000 in
set_option maxHeartbeats 4000000 in
theorem c_X12_town (l : Launch) (a1 : Int32) {D : va_G} {ct : Nat → ClassId} {B : Nat} {Hb : Heap} {S : St} {V : Int32 × St} (h : L_X12_town a1 S = some V) : Met l yX12_town (Cond.code yX12_town cX12_town 4 (some .int) :: tG) { frames := 4, cells := 0, slots := 0, locals := 93 } (va_Pc [.ref (B + 136), .int a1] (MPK D ct B Hb S)) (qIw D ct B Hb V) 0 0 (AB B) := by
  refine mk_met (by decide +kernel) (Nat.le_of_ble_eq_true rfl) (fun p e s m args below meth c ls C0 hP hl _ => ?_)
  have h := ob_of h
  exact w_X12_town_0 l C0 a1 S h hP va_S.rf (lv_sub hl [0, 1] rfl)
set_option maxRecDepth 100000 in
set_option maxHeartbeats 4000000 in
theorem w_X12_person_0 (l : Launch) {V : Int32 × St} (C0 : XC D ct p s m args meth c cX12_person 3 (some .int) RX12) (v1 : Int32) (v2 : Int32) (S : St) {H : Heap} {locs : List Loc} {ls : Array Slot} (h : (b_X12_person_0 v1 v2 S).bind some = some V) (hP : MP D ct B Hb S H) (hS : va_S (AB B) s.heap H locs) (hl : lv_has ls 3 [(0, .ref (B + 136)), (1, .int v1), (2, .int v2)]) : W p l e { frames := 2, cells := 0, slots := 0, locals := 46 } s m args below meth c H locs 0 0 (MQ below (qIw D ct B Hb V) args s 0 0 (AB B)) (F0 m 0 ls []) := by
  obtain ⟨hx, hb, hr, hml, hown, hts, hK, hlocks, hN⟩ := id C0
  unfold b_X12_person_0 at h
  refine lv_aload_n hx hb dX12_person_0 rfl (lv_at hl 0 rfl) ?_
  refine lv_iconst (v := 0) hx hb dX12_person_1 (by decide) ?_
  obtain ⟨S1, eS1, h⟩ := ob_nm h
  refine x_put (S' := si S 136 28 0) (FS := (fs12 B)) C0 hP hS (fun S => lay_X12 B ct S) rfl inG12 tyX12 tyX12_ok nmX12 28 (by decide) wd_1169 rfl rfl (fun a ha => lay_local (gi_si_n _ _ _ ha) rfl rfl rfl) (put_12_28 B _ _) rfl rfl (Nat.le_of_ble_eq_true rfl) dX12_person_2 (fun H locs hP hS => ?_)
  rw [← eS1] at hP
  refine lv_aload_n hx hb dX12_person_5 rfl (lv_at hl 0 rfl) ?_
  refine lv_iload_n hx hb dX12_person_6 rfl (lv_at hl 1 rfl) ?_
  obtain ⟨r2, hr2, h⟩ := ob_bd h
  refine n_I (kV (As := [.int v1]) C0 (c_X12_isOne l v1 hr2) ⟨wd_1448, wd_1445, wd_1447, wp_37, wd_6⟩ kd_X12_isOne ⟨Nat.le_of_ble_eq_true rfl, Nat.le_of_ble_eq_true rfl⟩ hP (lay_X12 B ct S1) rfl rfl hl.1 rfl (Nat.le_of_ble_eq_true rfl) dX12_person_7 ⟨Nat.le_of_ble_eq_true rfl, Nat.le_of_ble_eq_true rfl⟩) hS (fun H locs hP hS => ?_)
  refine lv_if_ne (tgt := 15) hx hb dX12_person_10 (by decide) (fun z3 => ?_) (fun z3 => ?_)
  · have h := ob_f h z3
    refine lv_iload_n hx hb dX12_person_15 rfl (lv_at hl 2 rfl) ?_
    rcases Decidable.em ((v2 : Int32) = 0) with z4 | z4
    · have h := ob_t h z4
      refine lv_tableIn (x := v2) (off := 44) (tgt := 60) hx hb dX12_person_16 (by rw [z4]; decide) (by rw [z4]; decide) (by rw [z4]; decide) (by decide) ?_
      refine lv_aload_n hx hb dX12_person_60 rfl (lv_at hl 0 rfl) ?_
      refine x_get C0 hP (lay_X12 B ct S1) rfl inG12 16 (by decide) wd_1157 (fun _ h => h) rfl dX12_person_61 ?_
      refine lv_iload_n hx hb dX12_person_64 rfl (lv_at hl 1 rfl) ?_
      obtain ⟨g5, h⟩ := ob_gd h
      refine x_iald C0 hP ((fun S => lay_147 B ct S) S1) g5 dX12_person_65 ?_
      exact r_Iw C0 hP hS h dX12_person_66
    · have h := ob_f h z4
      rcases Decidable.em ((v2 : Int32) = 1) with z6 | z6
      · have h := ob_t h z6
        refine lv_tableIn (x := v2) (off := 51) (tgt := 67) hx hb dX12_person_16 (by rw [z6]; decide) (by rw [z6]; decide) (by rw [z6]; decide) (by decide) ?_
        refine lv_aload_n hx hb dX12_person_67 rfl (lv_at hl 0 rfl) ?_
        refine x_get C0 hP (lay_X12 B ct S1) rfl inG12 17 (by decide) wd_1158 (fun _ h => h) rfl dX12_person_68 ?_
        refine lv_iload_n hx hb dX12_person_71 rfl (lv_at hl 1 rfl) ?_
        obtain ⟨g7, h⟩ := ob_gd h
        refine x_iald C0 hP ((fun S => lay_148 B ct S) S1) g7 dX12_person_72 ?_
        exact r_Iw C0 hP hS h dX12_person_73
      · have h := ob_f h z6
        rcases Decidable.em ((v2 : Int32) = 2) with z8 | z8
        · have h := ob_t h z8
          refine lv_tableIn (x := v2) (off := 58) (tgt := 74) hx hb dX12_person_16 (by rw [z8]; decide) (by rw [z8]; decide) (by rw [z8]; decide) (by decide) ?_
          refine lv_aload_n hx hb dX12_person_74 rfl (lv_at hl 0 rfl) ?_
          refine x_get C0 hP (lay_X12 B ct S1) rfl inG12 18 (by decide) wd_1159 (fun _ h => h) rfl dX12_person_75 ?_
          refine lv_iload_n hx hb dX12_person_78 rfl (lv_at hl 1 rfl) ?_
          obtain ⟨g9, h⟩ := ob_gd h
          refine x_iald C0 hP ((fun S => lay_149 B ct S) S1) g9 dX12_person_79 ?_
          exact r_Iw C0 hP hS h dX12_person_80
        · have h := ob_f h z8
          rcases Decidable.em ((v2 : Int32) = 3) with z10 | z10
          · have h := ob_t h z10
            refine lv_tableIn (x := v2) (off := 65) (tgt := 81) hx hb dX12_person_16 (by rw [z10]; decide) (by rw [z10]; decide) (by rw [z10]; decide) (by decide) ?_
            refine lv_aload_n hx hb dX12_person_81 rfl (lv_at hl 0 rfl) ?_
            refine x_get C0 hP (lay_X12 B ct S1) rfl inG12 19 (by decide) wd_1160 (fun _ h => h) rfl dX12_person_82 ?_
            refine lv_iload_n hx hb dX12_person_85 rfl (lv_at hl 1 rfl) ?_
            obtain ⟨g11, h⟩ := ob_gd h
            refine x_iald C0 hP ((fun S => lay_150 B ct S) S1) g11 dX12_person_86 ?_
            exact r_Iw C0 hP hS h dX12_person_87
          · have h := ob_f h z10
            rcases Decidable.em ((v2 : Int32) = 4) with z12 | z12
            · have h := ob_t h z12
              refine lv_tableIn (x := v2) (off := 72) (tgt := 88) hx hb dX12_person_16 (by rw [z12]; decide) (by rw [z12]; decide) (by rw [z12]; decide) (by decide) ?_
              refine lv_aload_n hx hb dX12_person_88 rfl (lv_at hl 0 rfl) ?_
              refine lv_iload_n hx hb dX12_person_89 rfl (lv_at hl 1 rfl) ?_
              obtain ⟨r13, hr13, h⟩ := ob_bd h
              refine n_I (kV (As := [.int v1]) C0 (c_X12_dueOf l v1 hr13) ⟨wd_1452, wd_1449, wd_1451, wp_38, wd_6⟩ kd_X12_dueOf ⟨Nat.le_of_ble_eq_true rfl, Nat.le_of_ble_eq_true rfl⟩ hP (lay_X12 B ct S1) rfl rfl hl.1 rfl (Nat.le_of_ble_eq_true rfl) dX12_person_90 ⟨Nat.le_of_ble_eq_true rfl, Nat.le_of_ble_eq_true rfl⟩) hS (fun H locs hP hS => ?_)
              exact r_Iw C0 hP hS h dX12_person_93
            · have h := ob_f h z12
              rcases Decidable.em ((v2 : Int32) = 5) with z14 | z14
              · have h := ob_t h z14
                refine lv_tableIn (x := v2) (off := 78) (tgt := 94) hx hb dX12_person_16 (by rw [z14]; decide) (by rw [z14]; decide) (by rw [z14]; decide) (by decide) ?_
                refine lv_aload_n hx hb dX12_person_94 rfl (lv_at hl 0 rfl) ?_
                refine x_get C0 hP (lay_X12 B ct S1) rfl inG12 21 (by decide) wd_1162 (fun _ h => h) rfl dX12_person_95 ?_
                refine lv_iload_n hx hb dX12_person_98 rfl (lv_at hl 1 rfl) ?_
                obtain ⟨g15, h⟩ := ob_gd h
                refine x_iald C0 hP ((fun S => lay_152 B ct S) S1) g15 dX12_person_99 ?_
                exact r_Iw C0 hP hS h dX12_person_100
              · have h := ob_f h z14
                rcases Decidable.em ((v2 : Int32) = 6) with z16 | z16
                · have h := ob_t h z16
                  refine lv_tableIn (x := v2) (off := 85) (tgt := 101) hx hb dX12_person_16 (by rw [z16]; decide) (by rw [z16]; decide) (by rw [z16]; decide) (by decide) ?_
                  refine lv_aload_n hx hb dX12_person_101 rfl (lv_at hl 0 rfl) ?_
                  refine x_get C0 hP (lay_X12 B ct S1) rfl inG12 20 (by decide) wd_1161 (fun _ h => h) rfl dX12_person_102 ?_
                  refine lv_iload_n hx hb dX12_person_105 rfl (lv_at hl 1 rfl) ?_
                  obtain ⟨g17, h⟩ := ob_gd h
                  refine x_iald C0 hP ((fun S => lay_151 B ct S) S1) g17 dX12_person_106 ?_
                  refine lv_bipush (v := 9) hx hb dX12_person_107 (by decide) ?_
                  refine lv_iadd hx hb dX12_person_109 ?_
                  exact r_Iw C0 hP hS h dX12_person_110
                · have h := ob_f h z16
                  refine lv_tableOut (x := v2) (tgt := 111) hx hb dX12_person_16 (sw_0_7 z4 z6 z8 z10 z12 z14 z16) (by decide) ?_
                  refine lv_iconst (v := (-1)) hx hb dX12_person_111 (by decide) ?_
                  exact r_Iw C0 hP hS h dX12_person_112
  · have h := ob_t h z3
    refine lv_iconst (v := (-1)) hx hb dX12_person_13 (by decide) ?_
    exact r_Iw C0 hP hS h dX12_person_14
set_option maxRecDepth 100000 in
set_option maxHeartbeats 4000000 in
theorem c_X12_person (l : Launch) (a1 : Int32) (a2 : Int32) {D : va_G} {ct : Nat → ClassId} {B : Nat} {Hb : Heap} {S : St} {V : Int32 × St} (h : L_X12_person a1 a2 S = some V) : Met l yX12_person (Cond.code yX12_person cX12_person 3 (some .int) :: tG) { frames := 2, cells := 0, slots := 0, locals := 46 } (va_Pc [.ref (B + 136), .int a1, .int a2] (MPK D ct B Hb S)) (qIw D ct B Hb V) 0 0 (AB B) := by
  refine mk_met (by decide +kernel) (Nat.le_of_ble_eq_true rfl) (fun p e s m args below meth c ls C0 hP hl _ => ?_)
  have h := ob_of h
  exact w_X12_person_0 l C0 a1 a2 S h hP va_S.rf (lv_sub hl [0, 1, 2] rfl)
set_option maxRecDepth 100000 in
set_option maxHeartbeats 4000000 in
theorem w_X12_weighs_51 (l : Launch) {V : Int32 × St} (C0 : XC D ct p s m args meth c cX12_weighs 4 (some .int) RX12) (S : St) {H : Heap} {locs : List Loc} {ls : Array Slot} (h : (b_X12_weighs_51 S).bind some = some V) (hP : MP D ct B Hb S H) (hS : va_S (AB B) s.heap H locs) (hl : lv_has ls 4 []) : W p l e { frames := 2, cells := 0, slots := 0, locals := 46 } s m args below meth c H locs 0 0 (MQ below (qIw D ct B Hb V) args s 0 0 (AB B)) (F0 m 51 ls []) := by
  obtain ⟨hx, hb, hr, hml, hown, hts, hK, hlocks, hN⟩ := id C0
  unfold b_X12_weighs_51 at h
  refine lv_ldcw (v := (-1000000001)) hx hb hown (hts _ wd_1465) dX12_weighs_51 ?_
  exact r_Iw C0 hP hS h dX12_weighs_54
set_option maxRecDepth 100000 in
set_option maxHeartbeats 4000000 in
theorem w_X12_weighs_0 (l : Launch) {V : Int32 × St} (C0 : XC D ct p s m args meth c cX12_weighs 4 (some .int) RX12) (v1 : Int32) (v2 : Int32) (v3 : Int32) (S : St) {H : Heap} {locs : List Loc} {ls : Array Slot} (h : (b_X12_weighs_0 v1 v2 v3 S).bind some = some V) (hP : MP D ct B Hb S H) (hS : va_S (AB B) s.heap H locs) (hl : lv_has ls 4 [(0, .ref (B + 136)), (1, .int v1), (2, .int v2), (3, .int v3)]) : W p l e { frames := 2, cells := 0, slots := 0, locals := 46 } s m args below meth c H locs 0 0 (MQ below (qIw D ct B Hb V) args s 0 0 (AB B)) (F0 m 0 ls []) := by
  obtain ⟨hx, hb, hr, hml, hown, hts, hK, hlocks, hN⟩ := id C0
  unfold b_X12_weighs_0 at h
  refine lv_aload_n hx hb dX12_weighs_0 rfl (lv_at hl 0 rfl) ?_
  refine lv_iconst (v := 0) hx hb dX12_weighs_1 (by decide) ?_
  obtain ⟨S1, eS1, h⟩ := ob_nm h
  refine x_put (S' := si S 136 28 0) (FS := (fs12 B)) C0 hP hS (fun S => lay_X12 B ct S) rfl inG12 tyX12 tyX12_ok nmX12 28 (by decide) wd_1169 rfl rfl (fun a ha => lay_local (gi_si_n _ _ _ ha) rfl rfl rfl) (put_12_28 B _ _) rfl rfl (Nat.le_of_ble_eq_true rfl) dX12_weighs_2 (fun H locs hP hS => ?_)
  rw [← eS1] at hP
  refine lv_aload_n hx hb dX12_weighs_5 rfl (lv_at hl 0 rfl) ?_
  refine lv_iload_n hx hb dX12_weighs_6 rfl (lv_at hl 1 rfl) ?_
  obtain ⟨r2, hr2, h⟩ := ob_bd h
  refine n_I (kV (As := [.int v1]) C0 (c_X12_isOne l v1 hr2) ⟨wd_1448, wd_1445, wd_1447, wp_37, wd_6⟩ kd_X12_isOne ⟨Nat.le_of_ble_eq_true rfl, Nat.le_of_ble_eq_true rfl⟩ hP (lay_X12 B ct S1) rfl rfl hl.1 rfl (Nat.le_of_ble_eq_true rfl) dX12_weighs_7 ⟨Nat.le_of_ble_eq_true rfl, Nat.le_of_ble_eq_true rfl⟩) hS (fun H locs hP hS => ?_)
  refine lv_if_eq (tgt := 51) hx hb dX12_weighs_10 (by decide) (fun z3 => ?_) (fun z3 => ?_)
  · have h := ob_t h z3
    exact w_X12_weighs_51 l C0 S1 h hP hS (lv_sub hl [] rfl)
  · have h := ob_f h z3
    refine lv_iload_n hx hb dX12_weighs_13 rfl (lv_at hl 2 rfl) ?_
    refine lv_i2l hx hb dX12_weighs_14 rfl ?_
    refine lv_ldc2 (v := (-9)) hx hb hown (hts _ wd_1457) dX12_weighs_15 ?_
    refine lv_ldc2 (v := 9) hx hb hown (hts _ wd_1458) dX12_weighs_18 ?_
    obtain ⟨r4, hr4, h⟩ := ob_bd h
    refine n_I (kS (As := [.long v2.toInt64, .long ((-9)), .long 9]) C0 (c_X12_in l v2.toInt64 ((-9)) 9 hr4) ⟨wd_1370, wd_1368, wd_1369, wd_6⟩ kd_X12_in ⟨Nat.le_of_ble_eq_true rfl, Nat.le_of_ble_eq_true rfl⟩ hP rfl hl.1 rfl (Nat.le_of_ble_eq_true rfl) dX12_weighs_21 ⟨Nat.le_of_ble_eq_true rfl, Nat.le_of_ble_eq_true rfl⟩) hS (fun H locs hP hS => ?_)
    refine lv_if_eq (tgt := 51) hx hb dX12_weighs_24 (by decide) (fun z5 => ?_) (fun z5 => ?_)
    · have h := ob_t h z5
      exact w_X12_weighs_51 l C0 S1 h hP hS (lv_sub hl [] rfl)
    · have h := ob_f h z5
      refine lv_iload_n hx hb dX12_weighs_27 rfl (lv_at hl 3 rfl) ?_
      refine lv_i2l hx hb dX12_weighs_28 rfl ?_
      refine lv_ldc2 (v := (-99)) hx hb hown (hts _ wd_1459) dX12_weighs_29 ?_
      refine lv_ldc2 (v := 99) hx hb hown (hts _ wd_1460) dX12_weighs_32 ?_
      obtain ⟨r6, hr6, h⟩ := ob_bd h
      refine n_I (kS (As := [.long v3.toInt64, .long ((-99)), .long 99]) C0 (c_X12_in l v3.toInt64 ((-99)) 99 hr6) ⟨wd_1370, wd_1368, wd_1369, wd_6⟩ kd_X12_in ⟨Nat.le_of_ble_eq_true rfl, Nat.le_of_ble_eq_true rfl⟩ hP rfl hl.1 rfl (Nat.le_of_ble_eq_true rfl) dX12_weighs_35 ⟨Nat.le_of_ble_eq_true rfl, Nat.le_of_ble_eq_true rfl⟩) hS (fun H locs hP hS => ?_)
      refine lv_if_eq (tgt := 51) hx hb dX12_weighs_38 (by decide) (fun z7 => ?_) (fun z7 => ?_)
      · have h := ob_t h z7
        exact w_X12_weighs_51 l C0 S1 h hP hS (lv_sub hl [] rfl)
      · have h := ob_f h z7
        refine lv_aload_n hx hb dX12_weighs_41 rfl (lv_at hl 0 rfl) ?_
        refine lv_iload_n hx hb dX12_weighs_42 rfl (lv_at hl 1 rfl) ?_
        refine lv_iload_n hx hb dX12_weighs_43 rfl (lv_at hl 2 rfl) ?_
        refine lv_iload_n hx hb dX12_weighs_44 rfl (lv_at hl 3 rfl) ?_
        obtain ⟨r8, hr8, h⟩ := ob_bd h
        refine n_I (kV (As := [.int v1, .int v2, .int v3]) C0 (c_X12_sumOf l v1 v2 v3 hr8) ⟨wd_1464, wd_1461, wd_1463, wp_39, wd_6⟩ kd_X12_sumOf ⟨Nat.le_of_ble_eq_true rfl, Nat.le_of_ble_eq_true rfl⟩ hP (lay_X12 B ct S1) rfl rfl hl.1 rfl (Nat.le_of_ble_eq_true rfl) dX12_weighs_45 ⟨Nat.le_of_ble_eq_true rfl, Nat.le_of_ble_eq_true rfl⟩) hS (fun H locs hP hS => ?_)
        refine lv_goto (tgt := 54) hx hb dX12_weighs_48 (by decide) ?_
        exact r_Iw C0 hP hS h dX12_weighs_54
set_option maxRecDepth 100000 in
set_option maxHeartbeats 4000000 in
theorem c_X12_weighs (l : Launch) (a1 : Int32) (a2 : Int32) (a3 : Int32) {D : va_G} {ct : Nat → ClassId} {B : Nat} {Hb : Heap} {S : St} {V : Int32 × St} (h : L_X12_weighs a1 a2 a3 S = some V) : Met l yX12_weighs (Cond.code yX12_weighs cX12_weighs 4 (some .int) :: tG) { frames := 2, cells := 0, slots := 0, locals := 46 } (va_Pc [.ref (B + 136), .int a1, .int a2, .int a3] (MPK D ct B Hb S)) (qIw D ct B Hb V) 0 0 (AB B) := by
  refine mk_met (by decide +kernel) (Nat.le_of_ble_eq_true rfl) (fun p e s m args below meth c ls C0 hP hl _ => ?_)
  have h := ob_of h
  exact w_X12_weighs_0 l C0 a1 a2 a3 S h hP va_S.rf (lv_sub hl [0, 1, 2, 3] rfl)
set_option maxRecDepth 100000 in
set_option maxHeartbeats 4000000 in
theorem w_X12_strength_36 (l : Launch) {V : Int32 × St} (C0 : XC D ct p s m args meth c cX12_strength 3 (some .int) RX12) (S : St) {H : Heap} {locs : List Loc} {ls : Array Slot} (h : (b_X12_strength_36 S).bind some = some V) (hP : MP D ct B Hb S H) (hS : va_S (AB B) s.heap H locs) (hl : lv_has ls 3 []) : W p l e { frames := 2, cells := 0, slots := 0, locals := 46 } s m args below meth c H locs 0 0 (MQ below (qIw D ct B Hb V) args s 0 0 (AB B)) (F0 m 36 ls []) := by
  obtain ⟨hx, hb, hr, hml, hown, hts, hK, hlocks, hN⟩ := id C0
  unfold b_X12_strength_36 at h
  refine lv_iconst (v := (-1)) hx hb dX12_strength_36 (by decide) ?_
  exact r_Iw C0 hP hS h dX12_strength_37
set_option maxRecDepth 100000 in
set_option maxHeartbeats 4000000 in
theorem w_X12_strength_0 (l : Launch) {V : Int32 × St} (C0 : XC D ct p s m args meth c cX12_strength 3 (some .int) RX12) (v1 : Int32) (v2 : Int32) (S : St) {H : Heap} {locs : List Loc} {ls : Array Slot} (h : (b_X12_strength_0 v1 v2 S).bind some = some V) (hP : MP D ct B Hb S H) (hS : va_S (AB B) s.heap H locs) (hl : lv_has ls 3 [(0, .ref (B + 136)), (1, .int v1), (2, .int v2)]) : W p l e { frames := 2, cells := 0, slots := 0, locals := 46 } s m args below meth c H locs 0 0 (MQ below (qIw D ct B Hb V) args s 0 0 (AB B)) (F0 m 0 ls []) := by
  obtain ⟨hx, hb, hr, hml, hown, hts, hK, hlocks, hN⟩ := id C0
  unfold b_X12_strength_0 at h
  refine lv_aload_n hx hb dX12_strength_0 rfl (lv_at hl 0 rfl) ?_
  refine lv_iconst (v := 0) hx hb dX12_strength_1 (by decide) ?_
  obtain ⟨S1, eS1, h⟩ := ob_nm h
  refine x_put (S' := si S 136 28 0) (FS := (fs12 B)) C0 hP hS (fun S => lay_X12 B ct S) rfl inG12 tyX12 tyX12_ok nmX12 28 (by decide) wd_1169 rfl rfl (fun a ha => lay_local (gi_si_n _ _ _ ha) rfl rfl rfl) (put_12_28 B _ _) rfl rfl (Nat.le_of_ble_eq_true rfl) dX12_strength_2 (fun H locs hP hS => ?_)
  rw [← eS1] at hP
  refine lv_aload_n hx hb dX12_strength_5 rfl (lv_at hl 0 rfl) ?_
  refine lv_iload_n hx hb dX12_strength_6 rfl (lv_at hl 1 rfl) ?_
  obtain ⟨r2, hr2, h⟩ := ob_bd h
  refine n_I (kV (As := [.int v1]) C0 (c_X12_isOne l v1 hr2) ⟨wd_1448, wd_1445, wd_1447, wp_37, wd_6⟩ kd_X12_isOne ⟨Nat.le_of_ble_eq_true rfl, Nat.le_of_ble_eq_true rfl⟩ hP (lay_X12 B ct S1) rfl rfl hl.1 rfl (Nat.le_of_ble_eq_true rfl) dX12_strength_7 ⟨Nat.le_of_ble_eq_true rfl, Nat.le_of_ble_eq_true rfl⟩) hS (fun H locs hP hS => ?_)
  refine lv_if_eq (tgt := 36) hx hb dX12_strength_10 (by decide) (fun z3 => ?_) (fun z3 => ?_)
  · have h := ob_t h z3
    exact w_X12_strength_36 l C0 S1 h hP hS (lv_sub hl [] rfl)
  · have h := ob_f h z3
    refine lv_iload_n hx hb dX12_strength_13 rfl (lv_at hl 2 rfl) ?_
    refine lv_i2l hx hb dX12_strength_14 rfl ?_
    refine lv_ldc2 (v := (-999)) hx hb hown (hts _ wd_1470) dX12_strength_15 ?_
    refine lv_ldc2 (v := 999) hx hb hown (hts _ wd_1471) dX12_strength_18 ?_
    obtain ⟨r4, hr4, h⟩ := ob_bd h
    refine n_I (kS (As := [.long v2.toInt64, .long ((-999)), .long 999]) C0 (c_X12_in l v2.toInt64 ((-999)) 999 hr4) ⟨wd_1370, wd_1368, wd_1369, wd_6⟩ kd_X12_in ⟨Nat.le_of_ble_eq_true rfl, Nat.le_of_ble_eq_true rfl⟩ hP rfl hl.1 rfl (Nat.le_of_ble_eq_true rfl) dX12_strength_21 ⟨Nat.le_of_ble_eq_true rfl, Nat.le_of_ble_eq_true rfl⟩) hS (fun H locs hP hS => ?_)
    refine lv_if_eq (tgt := 36) hx hb dX12_strength_24 (by decide) (fun z5 => ?_) (fun z5 => ?_)
    · have h := ob_t h z5
      exact w_X12_strength_36 l C0 S1 h hP hS (lv_sub hl [] rfl)
    · have h := ob_f h z5
      refine lv_aload_n hx hb dX12_strength_27 rfl (lv_at hl 0 rfl) ?_
      refine lv_iload_n hx hb dX12_strength_28 rfl (lv_at hl 1 rfl) ?_
      refine lv_iload_n hx hb dX12_strength_29 rfl (lv_at hl 2 rfl) ?_
      obtain ⟨r6, hr6, h⟩ := ob_bd h
      refine n_I (kV (As := [.int v1, .int v2]) C0 (c_X12_strengthOf l v1 v2 hr6) ⟨wd_1475, wd_1472, wd_1474, wp_40, wd_6⟩ kd_X12_strengthOf ⟨Nat.le_of_ble_eq_true rfl, Nat.le_of_ble_eq_true rfl⟩ hP (lay_X12 B ct S1) rfl rfl hl.1 rfl (Nat.le_of_ble_eq_true rfl) dX12_strength_30 ⟨Nat.le_of_ble_eq_true rfl, Nat.le_of_ble_eq_true rfl⟩) hS (fun H locs hP hS => ?_)
      refine lv_goto (tgt := 37) hx hb dX12_strength_33 (by decide) ?_
      exact r_Iw C0 hP hS h dX12_strength_37
set_option maxRecDepth 100000 in
set_option maxHeartbeats 4000000 in
theorem c_X12_strength (l : Launch) (a1 : Int32) (a2 : Int32) {D : va_G} {ct : Nat → ClassId} {B : Nat} {Hb : Heap} {S : St} {V : Int32 × St} (h : L_X12_strength a1 a2 S = some V) : Met l yX12_strength (Cond.code yX12_strength cX12_strength 3 (some .int) :: tG) { frames := 2, cells := 0, slots := 0, locals := 46 } (va_Pc [.ref (B + 136), .int a1, .int a2] (MPK D ct B Hb S)) (qIw D ct B Hb V) 0 0 (AB B) := by
  refine mk_met (by decide +kernel) (Nat.le_of_ble_eq_true rfl) (fun p e s m args below meth c ls C0 hP hl _ => ?_)
  have h := ob_of h
  exact w_X12_strength_0 l C0 a1 a2 S h hP va_S.rf (lv_sub hl [0, 1, 2] rfl)
end WALKS
