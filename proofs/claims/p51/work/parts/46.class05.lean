theorem dX11_likely_0 : decode cX11_likely 0 = .ok (.aload_n 0, 1) := by decide +kernel
theorem dX11_likely_1 : decode cX11_likely 1 = .ok (.iload_n 1, 1) := by decide +kernel
theorem dX11_likely_2 : decode cX11_likely 2 = .ok (.invokevirtual 81, 3) := by decide +kernel
theorem dX11_likely_5 : decode cX11_likely 5 = .ok (.ifCond .ne 12, 3) := by decide +kernel
theorem dX11_likely_8 : decode cX11_likely 8 = .ok (.iload_n 2, 1) := by decide +kernel
theorem dX11_likely_9 : decode cX11_likely 9 = .ok (.iconst 0, 1) := by decide +kernel
theorem dX11_likely_10 : decode cX11_likely 10 = .ok (.iconst 1, 1) := by decide +kernel
theorem dX11_likely_11 : decode cX11_likely 11 = .ok (.invokestatic 110, 3) := by decide +kernel
theorem dX11_likely_14 : decode cX11_likely 14 = .ok (.ifCond .eq 7, 3) := by decide +kernel
theorem dX11_likely_17 : decode cX11_likely 17 = .ok (.ldc2_w 199, 3) := by decide +kernel
theorem dX11_likely_20 : decode cX11_likely 20 = .ok (.lreturn, 1) := by decide +kernel
theorem dX11_likely_21 : decode cX11_likely 21 = .ok (.aload_n 0, 1) := by decide +kernel
theorem dX11_likely_22 : decode cX11_likely 22 = .ok (.iconst 1, 1) := by decide +kernel
theorem dX11_likely_23 : decode cX11_likely 23 = .ok (.iload_n 1, 1) := by decide +kernel
theorem dX11_likely_24 : decode cX11_likely 24 = .ok (.ishl, 1) := by decide +kernel
theorem dX11_likely_25 : decode cX11_likely 25 = .ok (.iload_n 2, 1) := by decide +kernel
theorem dX11_likely_26 : decode cX11_likely 26 = .ok (.invokevirtual 201, 3) := by decide +kernel
theorem dX11_likely_29 : decode cX11_likely 29 = .ok (.lreturn, 1) := by decide +kernel
theorem dX11_everybody_0 : decode cX11_everybody 0 = .ok (.iconst 1, 1) := by decide +kernel
theorem dX11_everybody_1 : decode cX11_everybody 1 = .ok (.aload_n 0, 1) := by decide +kernel
theorem dX11_everybody_2 : decode cX11_everybody 2 = .ok (.getfield 12, 3) := by decide +kernel
theorem dX11_everybody_5 : decode cX11_everybody 5 = .ok (.getfield 185, 3) := by decide +kernel
theorem dX11_everybody_8 : decode cX11_everybody 8 = .ok (.ishl, 1) := by decide +kernel
theorem dX11_everybody_9 : decode cX11_everybody 9 = .ok (.iconst 1, 1) := by decide +kernel
theorem dX11_everybody_10 : decode cX11_everybody 10 = .ok (.isub, 1) := by decide +kernel
theorem dX11_everybody_11 : decode cX11_everybody 11 = .ok (.ireturn, 1) := by decide +kernel
theorem dX11_mean_0 : decode cX11_mean 0 = .ok (.iload_n 1, 1) := by decide +kernel
theorem dX11_mean_1 : decode cX11_mean 1 = .ok (.iconst 0, 1) := by decide +kernel
theorem dX11_mean_2 : decode cX11_mean 2 = .ok (.iconst 1, 1) := by decide +kernel
theorem dX11_mean_3 : decode cX11_mean 3 = .ok (.invokestatic 110, 3) := by decide +kernel
theorem dX11_mean_6 : decode cX11_mean 6 = .ok (.ifCond .eq 7, 3) := by decide +kernel
theorem dX11_mean_9 : decode cX11_mean 9 = .ok (.ldc2_w 199, 3) := by decide +kernel
theorem dX11_mean_12 : decode cX11_mean 12 = .ok (.lreturn, 1) := by decide +kernel
theorem dX11_mean_13 : decode cX11_mean 13 = .ok (.aload_n 0, 1) := by decide +kernel
theorem dX11_mean_14 : decode cX11_mean 14 = .ok (.aload_n 0, 1) := by decide +kernel
theorem dX11_mean_15 : decode cX11_mean 15 = .ok (.invokevirtual 205, 3) := by decide +kernel
theorem dX11_mean_18 : decode cX11_mean 18 = .ok (.iload_n 1, 1) := by decide +kernel
theorem dX11_mean_19 : decode cX11_mean 19 = .ok (.invokevirtual 201, 3) := by decide +kernel
theorem dX11_mean_22 : decode cX11_mean 22 = .ok (.lreturn, 1) := by decide +kernel
theorem dX11_turn_0 : decode cX11_turn 0 = .ok (.iload_n 1, 1) := by decide +kernel
theorem dX11_turn_1 : decode cX11_turn 1 = .ok (.iconst 0, 1) := by decide +kernel
theorem dX11_turn_2 : decode cX11_turn 2 = .ok (.aload_n 0, 1) := by decide +kernel
theorem dX11_turn_3 : decode cX11_turn 3 = .ok (.invokevirtual 205, 3) := by decide +kernel
theorem dX11_turn_6 : decode cX11_turn 6 = .ok (.invokestatic 110, 3) := by decide +kernel
theorem dX11_turn_9 : decode cX11_turn 9 = .ok (.ifCond .ne 12, 3) := by decide +kernel
theorem dX11_turn_12 : decode cX11_turn 12 = .ok (.iload_n 2, 1) := by decide +kernel
theorem dX11_turn_13 : decode cX11_turn 13 = .ok (.iconst 0, 1) := by decide +kernel
theorem dX11_turn_14 : decode cX11_turn 14 = .ok (.iconst 1, 1) := by decide +kernel
theorem dX11_turn_15 : decode cX11_turn 15 = .ok (.invokestatic 110, 3) := by decide +kernel
theorem dX11_turn_18 : decode cX11_turn 18 = .ok (.ifCond .eq 5, 3) := by decide +kernel
theorem dX11_turn_21 : decode cX11_turn 21 = .ok (.iconst (-1), 1) := by decide +kernel
theorem dX11_turn_22 : decode cX11_turn 22 = .ok (.ireturn, 1) := by decide +kernel
theorem dX11_turn_23 : decode cX11_turn 23 = .ok (.aload_n 0, 1) := by decide +kernel
theorem dX11_turn_24 : decode cX11_turn 24 = .ok (.getfield 31, 3) := by decide +kernel
theorem dX11_turn_27 : decode cX11_turn 27 = .ok (.aload_n 0, 1) := by decide +kernel
theorem dX11_turn_28 : decode cX11_turn 28 = .ok (.getfield 12, 3) := by decide +kernel
theorem dX11_turn_31 : decode cX11_turn 31 = .ok (.iconst (-1), 1) := by decide +kernel
theorem dX11_turn_32 : decode cX11_turn 32 = .ok (.invokevirtual 166, 3) := by decide +kernel
theorem dX11_turn_35 : decode cX11_turn 35 = .ok (.aload_n 0, 1) := by decide +kernel
theorem dX11_turn_36 : decode cX11_turn 36 = .ok (.getfield 31, 3) := by decide +kernel
theorem dX11_turn_39 : decode cX11_turn 39 = .ok (.invokevirtual 209, 3) := by decide +kernel
theorem dX11_turn_42 : decode cX11_turn 42 = .ok (.iload_n 1, 1) := by decide +kernel
theorem dX11_turn_43 : decode cX11_turn 43 = .ok (.iand, 1) := by decide +kernel
theorem dX11_turn_44 : decode cX11_turn 44 = .ok (.iload_n 1, 1) := by decide +kernel
theorem dX11_turn_45 : decode cX11_turn 45 = .ok (.if_icmp .ne 14, 3) := by decide +kernel
theorem dX11_turn_48 : decode cX11_turn 48 = .ok (.iload_n 2, 1) := by decide +kernel
theorem dX11_turn_49 : decode cX11_turn 49 = .ok (.ifCond .ne 7, 3) := by decide +kernel
theorem dX11_turn_52 : decode cX11_turn 52 = .ok (.iconst 0, 1) := by decide +kernel
theorem dX11_turn_53 : decode cX11_turn 53 = .ok (.goto 5, 3) := by decide +kernel
theorem dX11_turn_56 : decode cX11_turn 56 = .ok (.bipush (-4), 2) := by decide +kernel
theorem dX11_turn_58 : decode cX11_turn 58 = .ok (.ireturn, 1) := by decide +kernel
theorem dX11_turn_59 : decode cX11_turn 59 = .ok (.aload_n 0, 1) := by decide +kernel
theorem dX11_turn_60 : decode cX11_turn 60 = .ok (.getfield 16, 3) := by decide +kernel
theorem dX11_turn_63 : decode cX11_turn 63 = .ok (.aload_n 0, 1) := by decide +kernel
theorem dX11_turn_64 : decode cX11_turn 64 = .ok (.getfield 12, 3) := by decide +kernel
theorem dX11_turn_67 : decode cX11_turn 67 = .ok (.invokevirtual 74, 3) := by decide +kernel
theorem dX11_turn_70 : decode cX11_turn 70 = .ok (.aload_n 0, 1) := by decide +kernel
theorem dX11_turn_71 : decode cX11_turn 71 = .ok (.getfield 16, 3) := by decide +kernel
theorem dX11_turn_74 : decode cX11_turn 74 = .ok (.iconst 0, 1) := by decide +kernel
theorem dX11_turn_75 : decode cX11_turn 75 = .ok (.iconst 1, 1) := by decide +kernel
theorem dX11_turn_76 : decode cX11_turn 76 = .ok (.iconst 1, 1) := by decide +kernel
theorem dX11_turn_77 : decode cX11_turn 77 = .ok (.iconst 0, 1) := by decide +kernel
theorem dX11_turn_78 : decode cX11_turn 78 = .ok (.iconst 0, 1) := by decide +kernel
theorem dX11_turn_79 : decode cX11_turn 79 = .ok (.invokevirtual 212, 3) := by decide +kernel
theorem dX11_turn_82 : decode cX11_turn 82 = .ok (.istore_n 3, 1) := by decide +kernel
theorem dX11_turn_83 : decode cX11_turn 83 = .ok (.iload_n 3, 1) := by decide +kernel
theorem dX11_turn_84 : decode cX11_turn 84 = .ok (.ifCond .ge 6, 3) := by decide +kernel
theorem dX11_turn_87 : decode cX11_turn 87 = .ok (.bipush (-4), 2) := by decide +kernel
theorem dX11_turn_89 : decode cX11_turn 89 = .ok (.ireturn, 1) := by decide +kernel
theorem dX11_turn_90 : decode cX11_turn 90 = .ok (.iconst 1, 1) := by decide +kernel
theorem dX11_turn_91 : decode cX11_turn 91 = .ok (.istore 4, 2) := by decide +kernel
theorem dX11_turn_93 : decode cX11_turn 93 = .ok (.iload 4, 2) := by decide +kernel
theorem dX11_turn_95 : decode cX11_turn 95 = .ok (.bipush 60, 2) := by decide +kernel
theorem dX11_turn_97 : decode cX11_turn 97 = .ok (.if_icmp .gt 83, 3) := by decide +kernel
theorem dX11_turn_100 : decode cX11_turn 100 = .ok (.aload_n 0, 1) := by decide +kernel
theorem dX11_turn_101 : decode cX11_turn 101 = .ok (.getfield 16, 3) := by decide +kernel
theorem dX11_turn_104 : decode cX11_turn 104 = .ok (.getfield 216, 3) := by decide +kernel
theorem dX11_turn_107 : decode cX11_turn 107 = .ok (.iload_n 3, 1) := by decide +kernel
theorem dX11_turn_108 : decode cX11_turn 108 = .ok (.iload 4, 2) := by decide +kernel
theorem dX11_turn_110 : decode cX11_turn 110 = .ok (.iastore, 1) := by decide +kernel
theorem dX11_turn_111 : decode cX11_turn 111 = .ok (.iconst 0, 1) := by decide +kernel
theorem dX11_turn_112 : decode cX11_turn 112 = .ok (.istore 5, 2) := by decide +kernel
theorem dX11_turn_114 : decode cX11_turn 114 = .ok (.iload 5, 2) := by decide +kernel
theorem dX11_turn_116 : decode cX11_turn 116 = .ok (.iconst 4, 1) := by decide +kernel
theorem dX11_turn_117 : decode cX11_turn 117 = .ok (.if_icmp .ge 57, 3) := by decide +kernel
theorem dX11_turn_120 : decode cX11_turn 120 = .ok (.aload_n 0, 1) := by decide +kernel
theorem dX11_turn_121 : decode cX11_turn 121 = .ok (.getfield 16, 3) := by decide +kernel
theorem dX11_turn_124 : decode cX11_turn 124 = .ok (.getfield 219, 3) := by decide +kernel
theorem dX11_turn_127 : decode cX11_turn 127 = .ok (.iload_n 3, 1) := by decide +kernel
theorem dX11_turn_128 : decode cX11_turn 128 = .ok (.iload 5, 2) := by decide +kernel
theorem dX11_turn_130 : decode cX11_turn 130 = .ok (.iastore, 1) := by decide +kernel
theorem dX11_turn_131 : decode cX11_turn 131 = .ok (.aload_n 0, 1) := by decide +kernel
theorem dX11_turn_132 : decode cX11_turn 132 = .ok (.getfield 31, 3) := by decide +kernel
theorem dX11_turn_135 : decode cX11_turn 135 = .ok (.aload_n 0, 1) := by decide +kernel
theorem dX11_turn_136 : decode cX11_turn 136 = .ok (.getfield 16, 3) := by decide +kernel
theorem dX11_turn_139 : decode cX11_turn 139 = .ok (.iconst (-1), 1) := by decide +kernel
theorem dX11_turn_140 : decode cX11_turn 140 = .ok (.invokevirtual 166, 3) := by decide +kernel
theorem dX11_turn_143 : decode cX11_turn 143 = .ok (.aload_n 0, 1) := by decide +kernel
theorem dX11_turn_144 : decode cX11_turn 144 = .ok (.getfield 31, 3) := by decide +kernel
theorem dX11_turn_147 : decode cX11_turn 147 = .ok (.invokevirtual 209, 3) := by decide +kernel
theorem dX11_turn_150 : decode cX11_turn 150 = .ok (.iload_n 1, 1) := by decide +kernel
theorem dX11_turn_151 : decode cX11_turn 151 = .ok (.iand, 1) := by decide +kernel
theorem dX11_turn_152 : decode cX11_turn 152 = .ok (.iload_n 1, 1) := by decide +kernel
theorem dX11_turn_153 : decode cX11_turn 153 = .ok (.if_icmp .ne 15, 3) := by decide +kernel
theorem dX11_turn_156 : decode cX11_turn 156 = .ok (.iload_n 2, 1) := by decide +kernel
theorem dX11_turn_157 : decode cX11_turn 157 = .ok (.ifCond .ne 8, 3) := by decide +kernel
theorem dX11_turn_160 : decode cX11_turn 160 = .ok (.iload 4, 2) := by decide +kernel
theorem dX11_turn_162 : decode cX11_turn 162 = .ok (.goto 5, 3) := by decide +kernel
theorem dX11_turn_165 : decode cX11_turn 165 = .ok (.iload 5, 2) := by decide +kernel
theorem dX11_turn_167 : decode cX11_turn 167 = .ok (.ireturn, 1) := by decide +kernel
theorem dX11_turn_168 : decode cX11_turn 168 = .ok (.iinc 5 1, 3) := by decide +kernel
theorem dX11_turn_171 : decode cX11_turn 171 = .ok (.goto (-57), 3) := by decide +kernel
theorem dX11_turn_174 : decode cX11_turn 174 = .ok (.iinc 4 1, 3) := by decide +kernel
theorem dX11_turn_177 : decode cX11_turn 177 = .ok (.goto (-84), 3) := by decide +kernel
theorem dX11_turn_180 : decode cX11_turn 180 = .ok (.bipush (-4), 2) := by decide +kernel
theorem dX11_turn_182 : decode cX11_turn 182 = .ok (.ireturn, 1) := by decide +kernel
theorem dX11_whoDiffers_0 : decode cX11_whoDiffers 0 = .ok (.iconst 0, 1) := by decide +kernel
theorem dX11_whoDiffers_1 : decode cX11_whoDiffers 1 = .ok (.istore_n 2, 1) := by decide +kernel
theorem dX11_whoDiffers_2 : decode cX11_whoDiffers 2 = .ok (.iconst 0, 1) := by decide +kernel
theorem dX11_whoDiffers_3 : decode cX11_whoDiffers 3 = .ok (.istore_n 3, 1) := by decide +kernel
theorem dX11_whoDiffers_4 : decode cX11_whoDiffers 4 = .ok (.iload_n 3, 1) := by decide +kernel
theorem dX11_whoDiffers_5 : decode cX11_whoDiffers 5 = .ok (.bipush 8, 2) := by decide +kernel
theorem dX11_whoDiffers_7 : decode cX11_whoDiffers 7 = .ok (.if_icmp .ge 27, 3) := by decide +kernel
theorem dX11_whoDiffers_10 : decode cX11_whoDiffers 10 = .ok (.iload_n 0, 1) := by decide +kernel
theorem dX11_whoDiffers_11 : decode cX11_whoDiffers 11 = .ok (.iload_n 1, 1) := by decide +kernel
theorem dX11_whoDiffers_12 : decode cX11_whoDiffers 12 = .ok (.ixor, 1) := by decide +kernel
theorem dX11_whoDiffers_13 : decode cX11_whoDiffers 13 = .ok (.iconst 2, 1) := by decide +kernel
theorem dX11_whoDiffers_14 : decode cX11_whoDiffers 14 = .ok (.iload_n 3, 1) := by decide +kernel
theorem dX11_whoDiffers_15 : decode cX11_whoDiffers 15 = .ok (.imul, 1) := by decide +kernel
theorem dX11_whoDiffers_16 : decode cX11_whoDiffers 16 = .ok (.ishr, 1) := by decide +kernel
theorem dX11_whoDiffers_17 : decode cX11_whoDiffers 17 = .ok (.iconst 3, 1) := by decide +kernel
theorem dX11_whoDiffers_18 : decode cX11_whoDiffers 18 = .ok (.iand, 1) := by decide +kernel
theorem dX11_whoDiffers_19 : decode cX11_whoDiffers 19 = .ok (.ifCond .eq 9, 3) := by decide +kernel
theorem dX11_whoDiffers_22 : decode cX11_whoDiffers 22 = .ok (.iload_n 2, 1) := by decide +kernel
theorem dX11_whoDiffers_23 : decode cX11_whoDiffers 23 = .ok (.iconst 1, 1) := by decide +kernel
theorem dX11_whoDiffers_24 : decode cX11_whoDiffers 24 = .ok (.iload_n 3, 1) := by decide +kernel
theorem dX11_whoDiffers_25 : decode cX11_whoDiffers 25 = .ok (.ishl, 1) := by decide +kernel
theorem dX11_whoDiffers_26 : decode cX11_whoDiffers 26 = .ok (.ior, 1) := by decide +kernel
theorem dX11_whoDiffers_27 : decode cX11_whoDiffers 27 = .ok (.istore_n 2, 1) := by decide +kernel
theorem dX11_whoDiffers_28 : decode cX11_whoDiffers 28 = .ok (.iinc 3 1, 3) := by decide +kernel
theorem dX11_whoDiffers_31 : decode cX11_whoDiffers 31 = .ok (.goto (-27), 3) := by decide +kernel
theorem dX11_whoDiffers_34 : decode cX11_whoDiffers 34 = .ok (.iload_n 2, 1) := by decide +kernel
theorem dX11_whoDiffers_35 : decode cX11_whoDiffers 35 = .ok (.ireturn, 1) := by decide +kernel
theorem dX11_guard_0 : decode cX11_guard 0 = .ok (.iload_n 1, 1) := by decide +kernel
theorem dX11_guard_1 : decode cX11_guard 1 = .ok (.iconst 0, 1) := by decide +kernel
theorem dX11_guard_2 : decode cX11_guard 2 = .ok (.aload_n 0, 1) := by decide +kernel
theorem dX11_guard_3 : decode cX11_guard 3 = .ok (.invokevirtual 205, 3) := by decide +kernel
theorem dX11_guard_6 : decode cX11_guard 6 = .ok (.invokestatic 110, 3) := by decide +kernel
theorem dX11_guard_9 : decode cX11_guard 9 = .ok (.ifCond .eq 5, 3) := by decide +kernel
theorem dX11_guard_12 : decode cX11_guard 12 = .ok (.iconst (-1), 1) := by decide +kernel
theorem dX11_guard_13 : decode cX11_guard 13 = .ok (.ireturn, 1) := by decide +kernel
theorem dX11_guard_14 : decode cX11_guard 14 = .ok (.aload_n 0, 1) := by decide +kernel
theorem dX11_guard_15 : decode cX11_guard 15 = .ok (.getfield 16, 3) := by decide +kernel
theorem dX11_guard_18 : decode cX11_guard 18 = .ok (.aload_n 0, 1) := by decide +kernel
theorem dX11_guard_19 : decode cX11_guard 19 = .ok (.getfield 12, 3) := by decide +kernel
theorem dX11_guard_22 : decode cX11_guard 22 = .ok (.invokevirtual 74, 3) := by decide +kernel
theorem dX11_guard_25 : decode cX11_guard 25 = .ok (.iconst 0, 1) := by decide +kernel
theorem dX11_guard_26 : decode cX11_guard 26 = .ok (.istore_n 2, 1) := by decide +kernel
theorem dX11_guard_27 : decode cX11_guard 27 = .ok (.iload_n 2, 1) := by decide +kernel
theorem dX11_guard_28 : decode cX11_guard 28 = .ok (.bipush 9, 2) := by decide +kernel
theorem dX11_guard_30 : decode cX11_guard 30 = .ok (.if_icmp .gt 91, 3) := by decide +kernel
theorem dX11_guard_33 : decode cX11_guard 33 = .ok (.aload_n 0, 1) := by decide +kernel
theorem dX11_guard_34 : decode cX11_guard 34 = .ok (.getfield 16, 3) := by decide +kernel
theorem dX11_guard_37 : decode cX11_guard 37 = .ok (.getfield 121, 3) := by decide +kernel
theorem dX11_guard_40 : decode cX11_guard 40 = .ok (.iconst 1, 1) := by decide +kernel
theorem dX11_guard_41 : decode cX11_guard 41 = .ok (.iload_n 2, 1) := by decide +kernel
theorem dX11_guard_42 : decode cX11_guard 42 = .ok (.iastore, 1) := by decide +kernel
theorem dX11_guard_43 : decode cX11_guard 43 = .ok (.aload_n 0, 1) := by decide +kernel
theorem dX11_guard_44 : decode cX11_guard 44 = .ok (.getfield 16, 3) := by decide +kernel
theorem dX11_guard_47 : decode cX11_guard 47 = .ok (.aload_n 0, 1) := by decide +kernel
theorem dX11_guard_48 : decode cX11_guard 48 = .ok (.getfield 12, 3) := by decide +kernel
theorem dX11_guard_51 : decode cX11_guard 51 = .ok (.getfield 222, 3) := by decide +kernel
theorem dX11_guard_54 : decode cX11_guard 54 = .ok (.putfield 222, 3) := by decide +kernel
theorem dX11_guard_57 : decode cX11_guard 57 = .ok (.aload_n 0, 1) := by decide +kernel
theorem dX11_guard_58 : decode cX11_guard 58 = .ok (.getfield 31, 3) := by decide +kernel
theorem dX11_guard_61 : decode cX11_guard 61 = .ok (.aload_n 0, 1) := by decide +kernel
theorem dX11_guard_62 : decode cX11_guard 62 = .ok (.getfield 16, 3) := by decide +kernel
theorem dX11_guard_65 : decode cX11_guard 65 = .ok (.iconst (-1), 1) := by decide +kernel
theorem dX11_guard_66 : decode cX11_guard 66 = .ok (.invokevirtual 166, 3) := by decide +kernel
theorem dX11_guard_69 : decode cX11_guard 69 = .ok (.aload_n 0, 1) := by decide +kernel
theorem dX11_guard_70 : decode cX11_guard 70 = .ok (.getfield 31, 3) := by decide +kernel
theorem dX11_guard_73 : decode cX11_guard 73 = .ok (.invokevirtual 225, 3) := by decide +kernel
theorem dX11_guard_76 : decode cX11_guard 76 = .ok (.istore_n 3, 1) := by decide +kernel
theorem dX11_guard_77 : decode cX11_guard 77 = .ok (.aload_n 0, 1) := by decide +kernel
theorem dX11_guard_78 : decode cX11_guard 78 = .ok (.getfield 16, 3) := by decide +kernel
theorem dX11_guard_81 : decode cX11_guard 81 = .ok (.iconst 0, 1) := by decide +kernel
theorem dX11_guard_82 : decode cX11_guard 82 = .ok (.putfield 222, 3) := by decide +kernel
theorem dX11_guard_85 : decode cX11_guard 85 = .ok (.aload_n 0, 1) := by decide +kernel
theorem dX11_guard_86 : decode cX11_guard 86 = .ok (.getfield 31, 3) := by decide +kernel
theorem dX11_guard_89 : decode cX11_guard 89 = .ok (.aload_n 0, 1) := by decide +kernel
theorem dX11_guard_90 : decode cX11_guard 90 = .ok (.getfield 16, 3) := by decide +kernel
theorem dX11_guard_93 : decode cX11_guard 93 = .ok (.iconst (-1), 1) := by decide +kernel
theorem dX11_guard_94 : decode cX11_guard 94 = .ok (.invokevirtual 166, 3) := by decide +kernel
theorem dX11_guard_97 : decode cX11_guard 97 = .ok (.iload_n 3, 1) := by decide +kernel
theorem dX11_guard_98 : decode cX11_guard 98 = .ok (.aload_n 0, 1) := by decide +kernel
theorem dX11_guard_99 : decode cX11_guard 99 = .ok (.getfield 31, 3) := by decide +kernel
theorem dX11_guard_102 : decode cX11_guard 102 = .ok (.invokevirtual 225, 3) := by decide +kernel
theorem dX11_guard_105 : decode cX11_guard 105 = .ok (.invokestatic 228, 3) := by decide +kernel
theorem dX11_guard_108 : decode cX11_guard 108 = .ok (.iload_n 1, 1) := by decide +kernel
theorem dX11_guard_109 : decode cX11_guard 109 = .ok (.iand, 1) := by decide +kernel
theorem dX11_guard_110 : decode cX11_guard 110 = .ok (.ifCond .ne 5, 3) := by decide +kernel
theorem dX11_guard_113 : decode cX11_guard 113 = .ok (.iload_n 2, 1) := by decide +kernel
theorem dX11_guard_114 : decode cX11_guard 114 = .ok (.ireturn, 1) := by decide +kernel
theorem dX11_guard_115 : decode cX11_guard 115 = .ok (.iinc 2 1, 3) := by decide +kernel
theorem dX11_guard_118 : decode cX11_guard 118 = .ok (.goto (-91), 3) := by decide +kernel
theorem dX11_guard_121 : decode cX11_guard 121 = .ok (.bipush (-4), 2) := by decide +kernel
theorem dX11_guard_123 : decode cX11_guard 123 = .ok (.ireturn, 1) := by decide +kernel
theorem dX11_law_0 : decode cX11_law 0 = .ok (.iload_n 1, 1) := by decide +kernel
theorem dX11_law_1 : decode cX11_law 1 = .ok (.iconst 0, 1) := by decide +kernel
theorem dX11_law_2 : decode cX11_law 2 = .ok (.bipush 9, 2) := by decide +kernel
theorem dX11_law_4 : decode cX11_law 4 = .ok (.invokestatic 110, 3) := by decide +kernel
theorem dX11_law_7 : decode cX11_law 7 = .ok (.ifCond .eq 5, 3) := by decide +kernel
theorem dX11_law_10 : decode cX11_law 10 = .ok (.iconst (-1), 1) := by decide +kernel
theorem dX11_law_11 : decode cX11_law 11 = .ok (.ireturn, 1) := by decide +kernel
theorem dX11_law_12 : decode cX11_law 12 = .ok (.aload_n 0, 1) := by decide +kernel
theorem dX11_law_13 : decode cX11_law 13 = .ok (.getfield 31, 3) := by decide +kernel
theorem dX11_law_16 : decode cX11_law 16 = .ok (.aload_n 0, 1) := by decide +kernel
theorem dX11_law_17 : decode cX11_law 17 = .ok (.getfield 12, 3) := by decide +kernel
theorem dX11_law_20 : decode cX11_law 20 = .ok (.iconst (-1), 1) := by decide +kernel
theorem dX11_law_21 : decode cX11_law 21 = .ok (.invokevirtual 166, 3) := by decide +kernel
theorem dX11_law_24 : decode cX11_law 24 = .ok (.aload_n 0, 1) := by decide +kernel
theorem dX11_law_25 : decode cX11_law 25 = .ok (.getfield 31, 3) := by decide +kernel
theorem dX11_law_28 : decode cX11_law 28 = .ok (.invokevirtual 225, 3) := by decide +kernel
theorem dX11_law_31 : decode cX11_law 31 = .ok (.istore_n 2, 1) := by decide +kernel
theorem dX11_law_32 : decode cX11_law 32 = .ok (.aload_n 0, 1) := by decide +kernel
theorem dX11_law_33 : decode cX11_law 33 = .ok (.getfield 16, 3) := by decide +kernel
theorem dX11_law_36 : decode cX11_law 36 = .ok (.aload_n 0, 1) := by decide +kernel
theorem dX11_law_37 : decode cX11_law 37 = .ok (.getfield 12, 3) := by decide +kernel
theorem dX11_law_40 : decode cX11_law 40 = .ok (.invokevirtual 74, 3) := by decide +kernel
theorem dX11_law_43 : decode cX11_law 43 = .ok (.aload_n 0, 1) := by decide +kernel
theorem dX11_law_44 : decode cX11_law 44 = .ok (.getfield 16, 3) := by decide +kernel
theorem dX11_law_47 : decode cX11_law 47 = .ok (.getfield 121, 3) := by decide +kernel
theorem dX11_law_50 : decode cX11_law 50 = .ok (.iconst 1, 1) := by decide +kernel
theorem dX11_law_51 : decode cX11_law 51 = .ok (.iload_n 1, 1) := by decide +kernel
theorem dX11_law_52 : decode cX11_law 52 = .ok (.iastore, 1) := by decide +kernel
theorem dX11_law_53 : decode cX11_law 53 = .ok (.aload_n 0, 1) := by decide +kernel
theorem dX11_law_54 : decode cX11_law 54 = .ok (.getfield 31, 3) := by decide +kernel
theorem dX11_law_57 : decode cX11_law 57 = .ok (.aload_n 0, 1) := by decide +kernel
theorem dX11_law_58 : decode cX11_law 58 = .ok (.getfield 16, 3) := by decide +kernel
theorem dX11_law_61 : decode cX11_law 61 = .ok (.iconst (-1), 1) := by decide +kernel
theorem dX11_law_62 : decode cX11_law 62 = .ok (.invokevirtual 166, 3) := by decide +kernel
theorem dX11_law_65 : decode cX11_law 65 = .ok (.iload_n 2, 1) := by decide +kernel
theorem dX11_law_66 : decode cX11_law 66 = .ok (.aload_n 0, 1) := by decide +kernel
theorem dX11_law_67 : decode cX11_law 67 = .ok (.getfield 31, 3) := by decide +kernel
theorem dX11_law_70 : decode cX11_law 70 = .ok (.invokevirtual 225, 3) := by decide +kernel
theorem dX11_law_73 : decode cX11_law 73 = .ok (.invokestatic 228, 3) := by decide +kernel
theorem dX11_law_76 : decode cX11_law 76 = .ok (.invokestatic 231, 3) := by decide +kernel
theorem dX11_law_79 : decode cX11_law 79 = .ok (.ireturn, 1) := by decide +kernel
theorem dX11_purse_0 : decode cX11_purse 0 = .ok (.aload_n 0, 1) := by decide +kernel
theorem dX11_purse_1 : decode cX11_purse 1 = .ok (.iload_n 1, 1) := by decide +kernel
theorem dX11_purse_2 : decode cX11_purse 2 = .ok (.invokevirtual 81, 3) := by decide +kernel
theorem dX11_purse_5 : decode cX11_purse 5 = .ok (.ifCond .eq 5, 3) := by decide +kernel
theorem dX11_purse_8 : decode cX11_purse 8 = .ok (.iconst (-1), 1) := by decide +kernel
theorem dX11_purse_9 : decode cX11_purse 9 = .ok (.ireturn, 1) := by decide +kernel
theorem dX11_purse_10 : decode cX11_purse 10 = .ok (.aload_n 0, 1) := by decide +kernel
theorem dX11_purse_11 : decode cX11_purse 11 = .ok (.getfield 16, 3) := by decide +kernel
theorem dX11_purse_14 : decode cX11_purse 14 = .ok (.aload_n 0, 1) := by decide +kernel
theorem dX11_purse_15 : decode cX11_purse 15 = .ok (.getfield 12, 3) := by decide +kernel
theorem dX11_purse_18 : decode cX11_purse 18 = .ok (.invokevirtual 74, 3) := by decide +kernel
theorem dX11_purse_21 : decode cX11_purse 21 = .ok (.aload_n 0, 1) := by decide +kernel
theorem dX11_purse_22 : decode cX11_purse 22 = .ok (.getfield 16, 3) := by decide +kernel
theorem dX11_purse_25 : decode cX11_purse 25 = .ok (.getfield 104, 3) := by decide +kernel
theorem dX11_purse_28 : decode cX11_purse 28 = .ok (.iload_n 1, 1) := by decide +kernel
theorem dX11_purse_29 : decode cX11_purse 29 = .ok (.bipush 99, 2) := by decide +kernel
theorem dX11_purse_31 : decode cX11_purse 31 = .ok (.iastore, 1) := by decide +kernel
theorem dX11_purse_32 : decode cX11_purse 32 = .ok (.aload_n 0, 1) := by decide +kernel
theorem dX11_purse_33 : decode cX11_purse 33 = .ok (.getfield 31, 3) := by decide +kernel
theorem dX11_purse_36 : decode cX11_purse 36 = .ok (.aload_n 0, 1) := by decide +kernel
theorem dX11_purse_37 : decode cX11_purse 37 = .ok (.getfield 16, 3) := by decide +kernel
theorem dX11_purse_40 : decode cX11_purse 40 = .ok (.iconst (-1), 1) := by decide +kernel
theorem dX11_purse_41 : decode cX11_purse 41 = .ok (.invokevirtual 166, 3) := by decide +kernel
theorem dX11_purse_44 : decode cX11_purse 44 = .ok (.aload_n 0, 1) := by decide +kernel
theorem dX11_purse_45 : decode cX11_purse 45 = .ok (.getfield 31, 3) := by decide +kernel
theorem dX11_purse_48 : decode cX11_purse 48 = .ok (.getfield 193, 3) := by decide +kernel
theorem dX11_purse_51 : decode cX11_purse 51 = .ok (.iload_n 1, 1) := by decide +kernel
theorem dX11_purse_52 : decode cX11_purse 52 = .ok (.iaload, 1) := by decide +kernel
theorem dX11_purse_53 : decode cX11_purse 53 = .ok (.istore_n 2, 1) := by decide +kernel
theorem dX11_purse_54 : decode cX11_purse 54 = .ok (.iconst 0, 1) := by decide +kernel
theorem dX11_purse_55 : decode cX11_purse 55 = .ok (.istore_n 3, 1) := by decide +kernel
theorem dX11_purse_56 : decode cX11_purse 56 = .ok (.iload_n 3, 1) := by decide +kernel
theorem dX11_purse_57 : decode cX11_purse 57 = .ok (.bipush 99, 2) := by decide +kernel
theorem dX11_purse_59 : decode cX11_purse 59 = .ok (.if_icmp .ge 46, 3) := by decide +kernel
theorem dX11_purse_62 : decode cX11_purse 62 = .ok (.aload_n 0, 1) := by decide +kernel
theorem dX11_purse_63 : decode cX11_purse 63 = .ok (.getfield 16, 3) := by decide +kernel
theorem dX11_purse_66 : decode cX11_purse 66 = .ok (.getfield 104, 3) := by decide +kernel
theorem dX11_purse_69 : decode cX11_purse 69 = .ok (.iload_n 1, 1) := by decide +kernel
theorem dX11_purse_70 : decode cX11_purse 70 = .ok (.iload_n 3, 1) := by decide +kernel
theorem dX11_purse_71 : decode cX11_purse 71 = .ok (.iastore, 1) := by decide +kernel
theorem dX11_purse_72 : decode cX11_purse 72 = .ok (.aload_n 0, 1) := by decide +kernel
theorem dX11_purse_73 : decode cX11_purse 73 = .ok (.getfield 31, 3) := by decide +kernel
theorem dX11_purse_76 : decode cX11_purse 76 = .ok (.aload_n 0, 1) := by decide +kernel
theorem dX11_purse_77 : decode cX11_purse 77 = .ok (.getfield 16, 3) := by decide +kernel
theorem dX11_purse_80 : decode cX11_purse 80 = .ok (.iconst (-1), 1) := by decide +kernel
theorem dX11_purse_81 : decode cX11_purse 81 = .ok (.invokevirtual 166, 3) := by decide +kernel
theorem dX11_purse_84 : decode cX11_purse 84 = .ok (.aload_n 0, 1) := by decide +kernel
theorem dX11_purse_85 : decode cX11_purse 85 = .ok (.getfield 31, 3) := by decide +kernel
theorem dX11_purse_88 : decode cX11_purse 88 = .ok (.getfield 193, 3) := by decide +kernel
theorem dX11_purse_91 : decode cX11_purse 91 = .ok (.iload_n 1, 1) := by decide +kernel
theorem dX11_purse_92 : decode cX11_purse 92 = .ok (.iaload, 1) := by decide +kernel
theorem dX11_purse_93 : decode cX11_purse 93 = .ok (.iload_n 2, 1) := by decide +kernel
theorem dX11_purse_94 : decode cX11_purse 94 = .ok (.if_icmp .ne 5, 3) := by decide +kernel
theorem dX11_purse_97 : decode cX11_purse 97 = .ok (.iload_n 3, 1) := by decide +kernel
theorem dX11_purse_98 : decode cX11_purse 98 = .ok (.ireturn, 1) := by decide +kernel
theorem dX11_purse_99 : decode cX11_purse 99 = .ok (.iinc 3 1, 3) := by decide +kernel
theorem dX11_purse_102 : decode cX11_purse 102 = .ok (.goto (-46), 3) := by decide +kernel
theorem dX11_purse_105 : decode cX11_purse 105 = .ok (.bipush 99, 2) := by decide +kernel
theorem dX11_purse_107 : decode cX11_purse 107 = .ok (.ireturn, 1) := by decide +kernel
theorem dX11_dayBegunAlike_0 : decode cX11_dayBegunAlike 0 = .ok (.iconst 0, 1) := by decide +kernel
theorem dX11_dayBegunAlike_1 : decode cX11_dayBegunAlike 1 = .ok (.istore_n 2, 1) := by decide +kernel
theorem dX11_dayBegunAlike_2 : decode cX11_dayBegunAlike 2 = .ok (.iload_n 2, 1) := by decide +kernel
theorem dX11_dayBegunAlike_3 : decode cX11_dayBegunAlike 3 = .ok (.iload_n 1, 1) := by decide +kernel
theorem dX11_dayBegunAlike_4 : decode cX11_dayBegunAlike 4 = .ok (.if_icmp .ge 67, 3) := by decide +kernel
theorem dX11_dayBegunAlike_7 : decode cX11_dayBegunAlike 7 = .ok (.iconst 1, 1) := by decide +kernel
theorem dX11_dayBegunAlike_8 : decode cX11_dayBegunAlike 8 = .ok (.istore_n 3, 1) := by decide +kernel
theorem dX11_dayBegunAlike_9 : decode cX11_dayBegunAlike 9 = .ok (.iconst 0, 1) := by decide +kernel
theorem dX11_dayBegunAlike_10 : decode cX11_dayBegunAlike 10 = .ok (.istore 4, 2) := by decide +kernel
theorem dX11_dayBegunAlike_12 : decode cX11_dayBegunAlike 12 = .ok (.iload 4, 2) := by decide +kernel
theorem dX11_dayBegunAlike_14 : decode cX11_dayBegunAlike 14 = .ok (.aload_n 0, 1) := by decide +kernel
theorem dX11_dayBegunAlike_15 : decode cX11_dayBegunAlike 15 = .ok (.getfield 16, 3) := by decide +kernel
theorem dX11_dayBegunAlike_18 : decode cX11_dayBegunAlike 18 = .ok (.getfield 185, 3) := by decide +kernel
theorem dX11_dayBegunAlike_21 : decode cX11_dayBegunAlike 21 = .ok (.if_icmp .ge 38, 3) := by decide +kernel
theorem dX11_dayBegunAlike_24 : decode cX11_dayBegunAlike 24 = .ok (.iload_n 3, 1) := by decide +kernel
theorem dX11_dayBegunAlike_25 : decode cX11_dayBegunAlike 25 = .ok (.aload_n 0, 1) := by decide +kernel
theorem dX11_dayBegunAlike_26 : decode cX11_dayBegunAlike 26 = .ok (.getfield 57, 3) := by decide +kernel
theorem dX11_dayBegunAlike_29 : decode cX11_dayBegunAlike 29 = .ok (.iload_n 2, 1) := by decide +kernel
theorem dX11_dayBegunAlike_30 : decode cX11_dayBegunAlike 30 = .ok (.aaload, 1) := by decide +kernel
theorem dX11_dayBegunAlike_31 : decode cX11_dayBegunAlike 31 = .ok (.iload 4, 2) := by decide +kernel
theorem dX11_dayBegunAlike_33 : decode cX11_dayBegunAlike 33 = .ok (.iaload, 1) := by decide +kernel
theorem dX11_dayBegunAlike_34 : decode cX11_dayBegunAlike 34 = .ok (.aload_n 0, 1) := by decide +kernel
theorem dX11_dayBegunAlike_35 : decode cX11_dayBegunAlike 35 = .ok (.getfield 57, 3) := by decide +kernel
theorem dX11_dayBegunAlike_38 : decode cX11_dayBegunAlike 38 = .ok (.iload_n 1, 1) := by decide +kernel
theorem dX11_dayBegunAlike_39 : decode cX11_dayBegunAlike 39 = .ok (.aaload, 1) := by decide +kernel
theorem dX11_dayBegunAlike_40 : decode cX11_dayBegunAlike 40 = .ok (.iload 4, 2) := by decide +kernel
theorem dX11_dayBegunAlike_42 : decode cX11_dayBegunAlike 42 = .ok (.iaload, 1) := by decide +kernel
theorem dX11_dayBegunAlike_43 : decode cX11_dayBegunAlike 43 = .ok (.if_icmp .ne 7, 3) := by decide +kernel
theorem dX11_dayBegunAlike_46 : decode cX11_dayBegunAlike 46 = .ok (.iconst 1, 1) := by decide +kernel
theorem dX11_dayBegunAlike_47 : decode cX11_dayBegunAlike 47 = .ok (.goto 4, 3) := by decide +kernel
theorem dX11_dayBegunAlike_50 : decode cX11_dayBegunAlike 50 = .ok (.iconst 0, 1) := by decide +kernel
theorem dX11_dayBegunAlike_51 : decode cX11_dayBegunAlike 51 = .ok (.iand, 1) := by decide +kernel
theorem dX11_dayBegunAlike_52 : decode cX11_dayBegunAlike 52 = .ok (.istore_n 3, 1) := by decide +kernel
theorem dX11_dayBegunAlike_53 : decode cX11_dayBegunAlike 53 = .ok (.iinc 4 1, 3) := by decide +kernel
theorem dX11_dayBegunAlike_56 : decode cX11_dayBegunAlike 56 = .ok (.goto (-44), 3) := by decide +kernel
theorem dX11_dayBegunAlike_59 : decode cX11_dayBegunAlike 59 = .ok (.iload_n 3, 1) := by decide +kernel
theorem dX11_dayBegunAlike_60 : decode cX11_dayBegunAlike 60 = .ok (.ifCond .eq 5, 3) := by decide +kernel
theorem dX11_dayBegunAlike_63 : decode cX11_dayBegunAlike 63 = .ok (.iload_n 2, 1) := by decide +kernel
theorem dX11_dayBegunAlike_64 : decode cX11_dayBegunAlike 64 = .ok (.ireturn, 1) := by decide +kernel
theorem dX11_dayBegunAlike_65 : decode cX11_dayBegunAlike 65 = .ok (.iinc 2 1, 3) := by decide +kernel
theorem dX11_dayBegunAlike_68 : decode cX11_dayBegunAlike 68 = .ok (.goto (-66), 3) := by decide +kernel
theorem dX11_dayBegunAlike_71 : decode cX11_dayBegunAlike 71 = .ok (.bipush (-4), 2) := by decide +kernel
theorem dX11_dayBegunAlike_73 : decode cX11_dayBegunAlike 73 = .ok (.ireturn, 1) := by decide +kernel
def b_X11_likely_0 (v1 : Int32) (v2 : Int32) (S : St) : Option (Int64 × St) := (L_X11_isNobody v1 S).bind fun r1 => (if (r1 : Int32) = 0 then (L_X11_isOut v2 0 1 S).bind fun r3 => (if (r3 : Int32) = 0 then (L_X11_expectedYes ((1 : Int32) <<< (v1 &&& 31)) v2 S).bind fun r5 => some (r5.1, r5.2) else some ((-1000000001), S)) else some ((-1000000001), S))
def L_X11_likely (a1 : Int32) (a2 : Int32) (S : St) : Option (Int64 × St) := b_X11_likely_0 a1 a2 S
def b_X11_everybody_0 (S : St) : Option Int32 := some (((1 : Int32) <<< ((gi S 1 0) &&& 31)) - 1)
def L_X11_everybody (S : St) : Option Int32 := b_X11_everybody_0 S
def b_X11_mean_0 (v1 : Int32) (S : St) : Option (Int64 × St) := (L_X11_isOut v1 0 1 S).bind fun r1 => (if (r1 : Int32) = 0 then (L_X11_everybody S).bind fun r3 => (L_X11_expectedYes r3 v1 S).bind fun r4 => some (r4.1, r4.2) else some ((-1000000001), S))
def L_X11_mean (a1 : Int32) (S : St) : Option (Int64 × St) := b_X11_mean_0 a1 S
def b_X11_turn_174 (v1 : Int32) (v2 : Int32) (v3 : Int32) (v4 : Int32) (S : St) : Option ((Int32 × Int32 × Int32 × Int32 × St) ⊕ (Int32 × St)) := some (.inl (v1, v2, v3, (v4 + 1), S))
def b_X11_turn_156 (v2 : Int32) (v4 : Int32) (v5 : Int32) (S : St) : Option (Int32 × St) := (if (v2 : Int32) = 0 then some (v4, S) else some (v5, S))
def b_X11_turn_114 (v1 : Int32) (v2 : Int32) (v3 : Int32) (v4 : Int32) (v5 : Int32) (S : St) : Option ((Int32 × Int32 × Int32 × Int32 × Int32 × St) ⊕ ((Int32 × Int32 × Int32 × Int32 × St) ⊕ (Int32 × St))) := (if (4 : Int32) ≤ v5 then ((b_X11_turn_174 v1 v2 v3 v4 S).map Sum.inr) else gd (inb v3 3) (nm (si S (19 + 11) v3.toNatClampNeg v5) fun S3 => (L_X2_run 19 ((-1)) S3).bind fun r4 => (L_X2_sayYes r4).bind fun r5 => (if (r5 &&& v1 : Int32) = v1 then (((b_X11_turn_156 v2 v4 v5 r4).map Sum.inr).map Sum.inr) else some (.inl (v1, v2, v3, v4, (v5 + 1), r4)))))
def l_X11_turn_114 (x : (Int32 × Int32 × Int32 × Int32 × Int32 × St)) : Option ((Int32 × Int32 × Int32 × Int32 × Int32 × St) ⊕ ((Int32 × Int32 × Int32 × Int32 × St) ⊕ (Int32 × St))) := b_X11_turn_114 x.1 x.2.1 x.2.2.1 x.2.2.2.1 x.2.2.2.2.1 x.2.2.2.2.2
def b_X11_turn_93 (v1 : Int32) (v2 : Int32) (v3 : Int32) (v4 : Int32) (S : St) : Option ((Int32 × Int32 × Int32 × Int32 × St) ⊕ (Int32 × St)) := (if (60 : Int32) < v4 then some (.inr ((-4), S)) else gd (inb v3 3) (nm (si S (19 + 13) v3.toNatClampNeg v4) fun S3 => (lp 1000 (l_X11_turn_114) (v1, v2, v3, v4, 0, S3))))
def l_X11_turn_93 (x : (Int32 × Int32 × Int32 × Int32 × St)) : Option ((Int32 × Int32 × Int32 × Int32 × St) ⊕ (Int32 × St)) := b_X11_turn_93 x.1 x.2.1 x.2.2.1 x.2.2.2.1 x.2.2.2.2
def b_X11_turn_0 (v1 : Int32) (v2 : Int32) (S : St) : Option (Int32 × St) := (L_X11_everybody S).bind fun r1 => (L_X11_isOut v1 0 r1 S).bind fun r2 => (if (r2 : Int32) = 0 then (L_X11_isOut v2 0 1 S).bind fun r4 => (if (r4 : Int32) = 0 then (L_X2_run 1 ((-1)) S).bind fun r6 => (L_X2_sayYes r6).bind fun r7 => (if (r7 &&& v1 : Int32) = v1 then (if (v2 : Int32) = 0 then some (0, r6) else some ((-4), r6)) else (L_X10_become 19 1 r6).bind fun r9 => (L_X10_addPlant 19 0 1 1 0 0 r9).bind fun r10 => (if (0 : Int32) ≤ r10.1 then (lp 1000 (l_X11_turn_93) (v1, v2, r10.1, 1, r10.2)) else some ((-4), r10.2))) else some ((-1), S)) else some ((-1), S))
def L_X11_turn (a1 : Int32) (a2 : Int32) (S : St) : Option (Int32 × St) := b_X11_turn_0 a1 a2 S
def b_X11_whoDiffers_28 (v0 : Int32) (v1 : Int32) (v2 : Int32) (v3 : Int32) (S : St) : Option ((Int32 × Int32 × Int32 × Int32) ⊕ Int32) := some (.inl (v0, v1, v2, (v3 + 1)))
def b_X11_whoDiffers_4 (v0 : Int32) (v1 : Int32) (v2 : Int32) (v3 : Int32) (S : St) : Option ((Int32 × Int32 × Int32 × Int32) ⊕ Int32) := (if (8 : Int32) ≤ v3 then some (.inr v2) else (if (((v0 ^^^ v1) >>> ((2 * v3) &&& 31)) &&& 3 : Int32) = 0 then (b_X11_whoDiffers_28 v0 v1 v2 v3 S) else (b_X11_whoDiffers_28 v0 v1 (v2 ||| ((1 : Int32) <<< (v3 &&& 31))) v3 S)))
def l_X11_whoDiffers_4 (S : St) (x : (Int32 × Int32 × Int32 × Int32)) : Option ((Int32 × Int32 × Int32 × Int32) ⊕ Int32) := b_X11_whoDiffers_4 x.1 x.2.1 x.2.2.1 x.2.2.2 S
def b_X11_whoDiffers_0 (v0 : Int32) (v1 : Int32) (S : St) : Option Int32 := (lp 1000 (l_X11_whoDiffers_4 S) (v0, v1, 0, 0))
def L_X11_whoDiffers (a0 : Int32) (a1 : Int32) (S : St) : Option Int32 := b_X11_whoDiffers_0 a0 a1 S
def b_X11_guard_27 (v1 : Int32) (v2 : Int32) (S : St) : Option ((Int32 × Int32 × St) ⊕ (Int32 × St)) := (if (9 : Int32) < v2 then some (.inr ((-4), S)) else gd (inb 1 3) (nm (si S (19 + 17) (1 : Int32).toNatClampNeg v2) fun S3 => nm (si S3 19 11 (gi S3 1 11)) fun S4 => (L_X2_run 19 ((-1)) S4).bind fun r5 => (L_X2_choices r5).bind fun r6 => nm (si r5 19 11 0) fun S7 => (L_X2_run 19 ((-1)) S7).bind fun r8 => (L_X2_choices r8).bind fun r9 => (L_X11_whoDiffers r6 r9 r8).bind fun r10 => (if (r10 &&& v1 : Int32) = 0 then some (.inr (v2, r8)) else some (.inl (v1, (v2 + 1), r8)))))
def l_X11_guard_27 (x : (Int32 × Int32 × St)) : Option ((Int32 × Int32 × St) ⊕ (Int32 × St)) := b_X11_guard_27 x.1 x.2.1 x.2.2
def b_X11_guard_0 (v1 : Int32) (S : St) : Option (Int32 × St) := (L_X11_everybody S).bind fun r1 => (L_X11_isOut v1 0 r1 S).bind fun r2 => (if (r2 : Int32) = 0 then (L_X10_become 19 1 S).bind fun r4 => (lp 1000 (l_X11_guard_27) (v1, 0, r4)) else some ((-1), S))
def L_X11_guard (a1 : Int32) (S : St) : Option (Int32 × St) := b_X11_guard_0 a1 S
def b_X11_law_0 (v1 : Int32) (S : St) : Option (Int32 × St) := (L_X11_isOut v1 0 9 S).bind fun r1 => (if (r1 : Int32) = 0 then (L_X2_run 1 ((-1)) S).bind fun r3 => (L_X2_choices r3).bind fun r4 => (L_X10_become 19 1 r3).bind fun r5 => gd (inb 1 3) (nm (si r5 (19 + 17) (1 : Int32).toNatClampNeg v1) fun S7 => (L_X2_run 19 ((-1)) S7).bind fun r8 => (L_X2_choices r8).bind fun r9 => (L_X11_whoDiffers r4 r9 r8).bind fun r10 => (L_J6_bitCount_0f7a4 r10 r8).bind fun r11 => some (r11, r8)) else some ((-1), S))
def L_X11_law (a1 : Int32) (S : St) : Option (Int32 × St) := b_X11_law_0 a1 S
def b_X11_purse_56 (v1 : Int32) (v2 : Int32) (v3 : Int32) (S : St) : Option ((Int32 × Int32 × Int32 × St) ⊕ (Int32 × St)) := (if (99 : Int32) ≤ v3 then some (.inr (99, S)) else gd (inb v1 8) (nm (si S (19 + 6) v1.toNatClampNeg v3) fun S3 => (L_X2_run 19 ((-1)) S3).bind fun r4 => gd (inb v1 8) ((if (gi r4 58 v1.toNatClampNeg : Int32) = v2 then some (.inr (v3, r4)) else some (.inl (v1, v2, (v3 + 1), r4))))))
def l_X11_purse_56 (x : (Int32 × Int32 × Int32 × St)) : Option ((Int32 × Int32 × Int32 × St) ⊕ (Int32 × St)) := b_X11_purse_56 x.1 x.2.1 x.2.2.1 x.2.2.2
def b_X11_purse_0 (v1 : Int32) (S : St) : Option (Int32 × St) := (L_X11_isNobody v1 S).bind fun r1 => (if (r1 : Int32) = 0 then (L_X10_become 19 1 S).bind fun r3 => gd (inb v1 8) (nm (si r3 (19 + 6) v1.toNatClampNeg 99) fun S5 => (L_X2_run 19 ((-1)) S5).bind fun r6 => gd (inb v1 8) ((lp 1000 (l_X11_purse_56) (v1, (gi r6 58 v1.toNatClampNeg), 0, r6)))) else some ((-1), S))
def L_X11_purse (a1 : Int32) (S : St) : Option (Int32 × St) := b_X11_purse_0 a1 S
def b_X11_dayBegunAlike_59 (v1 : Int32) (v2 : Int32) (v3 : Int32) (S : St) : Option ((Int32 × Int32) ⊕ Int32) := (if (v3 : Int32) = 0 then some (.inl (v1, (v2 + 1))) else some (.inr v2))
def b_X11_dayBegunAlike_51 (v1 : Int32) (v2 : Int32) (v4 : Int32) (s0 : Int32) (s1 : Int32) (S : St) : Option ((Int32 × Int32 × Int32 × Int32) ⊕ ((Int32 × Int32) ⊕ Int32)) := some (.inl (v1, v2, (s1 &&& s0), (v4 + 1)))
def b_X11_dayBegunAlike_12 (v1 : Int32) (v2 : Int32) (v3 : Int32) (v4 : Int32) (S : St) : Option ((Int32 × Int32 × Int32 × Int32) ⊕ ((Int32 × Int32) ⊕ Int32)) := (if (gi S 19 0 : Int32) ≤ v4 then ((b_X11_dayBegunAlike_59 v1 v2 v3 S).map Sum.inr) else gd (inb v2 41) (gd (inb v4 8) (gd (inb v1 41) (gd (inb v4 8) ((if (gi S (87 + 1 * v2.toNatClampNeg) v4.toNatClampNeg : Int32) = (gi S (87 + 1 * v1.toNatClampNeg) v4.toNatClampNeg) then (b_X11_dayBegunAlike_51 v1 v2 v4 1 v3 S) else (b_X11_dayBegunAlike_51 v1 v2 v4 0 v3 S)))))))
def l_X11_dayBegunAlike_12 (S : St) (x : (Int32 × Int32 × Int32 × Int32)) : Option ((Int32 × Int32 × Int32 × Int32) ⊕ ((Int32 × Int32) ⊕ Int32)) := b_X11_dayBegunAlike_12 x.1 x.2.1 x.2.2.1 x.2.2.2 S
def b_X11_dayBegunAlike_2 (v1 : Int32) (v2 : Int32) (S : St) : Option ((Int32 × Int32) ⊕ Int32) := (if (v1 : Int32) ≤ v2 then some (.inr ((-4))) else (lp 1000 (l_X11_dayBegunAlike_12 S) (v1, v2, 1, 0)))
def l_X11_dayBegunAlike_2 (S : St) (x : (Int32 × Int32)) : Option ((Int32 × Int32) ⊕ Int32) := b_X11_dayBegunAlike_2 x.1 x.2 S
def b_X11_dayBegunAlike_0 (v1 : Int32) (S : St) : Option Int32 := (lp 1000 (l_X11_dayBegunAlike_2 S) (v1, 0))
def L_X11_dayBegunAlike (a1 : Int32) (S : St) : Option Int32 := b_X11_dayBegunAlike_0 a1 S
section WALKS
variable {p : Program} {e : Env} {s : State} {m : MethodId} {args : Array Value} {below : List Frame} {meth : Method} {c : Code} {D : va_G} {ct : Nat → ClassId} {B : Nat} {Hb : Heap}
set_option maxRecDepth 100000 in
set_option maxHeartbeats 4000000 in
theorem w_X11_likely_0 (l : Launch) {V : Int64 × St} (C0 : XC D ct p s m args meth c cX11_likely 3 (some .long) RX11) (v1 : Int32) (v2 : Int32) (S : St) {H : Heap} {locs : List Loc} {ls : Array Slot} (h : (b_X11_likely_0 v1 v2 S).bind some = some V) (hP : MP D ct B Hb S H) (hS : va_S (AB B) s.heap H locs) (hl : lv_has ls 3 [(0, .ref (B + 0)), (1, .int v1), (2, .int v2)]) : W p l e { frames := 6, cells := 0, slots := 0, locals := 146 } s m args below meth c H locs 0 0 (MQ below (qLw D ct B Hb V) args s 0 0 (AB B)) (F0 m 0 ls []) := by
  obtain ⟨hx, hb, hr, hml, hown, hts, hK, hlocks, hN⟩ := id C0
  unfold b_X11_likely_0 at h
  refine lv_aload_n hx hb dX11_likely_0 rfl (lv_at hl 0 rfl) ?_
  refine lv_iload_n hx hb dX11_likely_1 rfl (lv_at hl 1 rfl) ?_
  obtain ⟨r1, hr1, h⟩ := ob_bd h
  refine n_I (kV (As := [.int v1]) C0 (c_X11_isNobody l v1 hr1) ⟨wd_620, wd_617, wd_619, wp_6, wd_1⟩ kd_X11_isNobody ⟨Nat.le_of_ble_eq_true rfl, Nat.le_of_ble_eq_true rfl⟩ hP (lay_X11 B ct S) rfl rfl hl.1 rfl (Nat.le_of_ble_eq_true rfl) dX11_likely_2 ⟨Nat.le_of_ble_eq_true rfl, Nat.le_of_ble_eq_true rfl⟩) hS (fun H locs hP hS => ?_)
  refine lv_if_ne (tgt := 17) hx hb dX11_likely_5 (by decide) (fun z2 => ?_) (fun z2 => ?_)
  · have h := ob_f h z2
    refine lv_ldc2 (v := (-1000000001)) hx hb hown (hts _ wd_878) dX11_likely_17 ?_
    exact r_Lw C0 hP hS h dX11_likely_20
  · have h := ob_t h z2
    refine lv_iload_n hx hb dX11_likely_8 rfl (lv_at hl 2 rfl) ?_
    refine lv_iconst (v := 0) hx hb dX11_likely_9 (by decide) ?_
    refine lv_iconst (v := 1) hx hb dX11_likely_10 (by decide) ?_
    obtain ⟨r3, hr3, h⟩ := ob_bd h
    refine n_I (kS (As := [.int v2, .int 0, .int 1]) C0 (c_X11_isOut l v2 0 1 hr3) ⟨wd_338, wd_347, wd_337, wd_1⟩ kd_X11_isOut ⟨Nat.le_of_ble_eq_true rfl, Nat.le_of_ble_eq_true rfl⟩ hP rfl hl.1 rfl (Nat.le_of_ble_eq_true rfl) dX11_likely_11 ⟨Nat.le_of_ble_eq_true rfl, Nat.le_of_ble_eq_true rfl⟩) hS (fun H locs hP hS => ?_)
    refine lv_if_eq (tgt := 21) hx hb dX11_likely_14 (by decide) (fun z4 => ?_) (fun z4 => ?_)
    · have h := ob_t h z4
      refine lv_aload_n hx hb dX11_likely_21 rfl (lv_at hl 0 rfl) ?_
      refine lv_iconst (v := 1) hx hb dX11_likely_22 (by decide) ?_
      refine lv_iload_n hx hb dX11_likely_23 rfl (lv_at hl 1 rfl) ?_
      refine lv_ishl hx hb dX11_likely_24 ?_
      refine lv_iload_n hx hb dX11_likely_25 rfl (lv_at hl 2 rfl) ?_
      obtain ⟨r5, hr5, h⟩ := ob_bd h
      refine n_Lw (kV (As := [.int ((1 : Int32) <<< (v1 &&& 31)), .int v2]) C0 (c_X11_expectedYes l ((1 : Int32) <<< (v1 &&& 31)) v2 hr5) ⟨wd_882, wd_879, wd_881, wp_16, wd_1⟩ kd_X11_expectedYes ⟨Nat.le_of_ble_eq_true rfl, Nat.le_of_ble_eq_true rfl⟩ hP (lay_X11 B ct S) rfl rfl hl.1 rfl (Nat.le_of_ble_eq_true rfl) dX11_likely_26 ⟨Nat.le_of_ble_eq_true rfl, Nat.le_of_ble_eq_true rfl⟩) hS (fun H locs hP hS => ?_)
      exact r_Lw C0 hP hS h dX11_likely_29
    · have h := ob_f h z4
      refine lv_ldc2 (v := (-1000000001)) hx hb hown (hts _ wd_878) dX11_likely_17 ?_
      exact r_Lw C0 hP hS h dX11_likely_20
set_option maxRecDepth 100000 in
set_option maxHeartbeats 4000000 in
theorem c_X11_likely (l : Launch) (a1 : Int32) (a2 : Int32) {D : va_G} {ct : Nat → ClassId} {B : Nat} {Hb : Heap} {S : St} {V : Int64 × St} (h : L_X11_likely a1 a2 S = some V) : Met l yX11_likely (Cond.code yX11_likely cX11_likely 3 (some .long) :: tG) { frames := 6, cells := 0, slots := 0, locals := 146 } (va_Pc [.ref (B + 0), .int a1, .int a2] (MPK D ct B Hb S)) (qLw D ct B Hb V) 0 0 (AB B) := by
  refine mk_met (by decide +kernel) (Nat.le_of_ble_eq_true rfl) (fun p e s m args below meth c ls C0 hP hl _ => ?_)
  have h := ob_of h
  exact w_X11_likely_0 l C0 a1 a2 S h hP va_S.rf (lv_sub hl [0, 1, 2] rfl)
set_option maxRecDepth 100000 in
set_option maxHeartbeats 4000000 in
theorem w_X11_everybody_0 (l : Launch) {V : Int32} (C0 : XC D ct p s m args meth c cX11_everybody 1 (some .int) RX11) (S : St) {H : Heap} {locs : List Loc} {ls : Array Slot} (h : (b_X11_everybody_0 S).bind some = some V) (hP : MP D ct B Hb S H) (hS : va_S (AB B) s.heap H locs) (hl : lv_has ls 1 [(0, .ref (B + 0))]) : W p l e { frames := 0, cells := 0, slots := 0, locals := 0 } s m args below meth c H locs 0 0 (MQ below (qI D ct B Hb S V) args s 0 0 (AB B)) (F0 m 0 ls []) := by
  obtain ⟨hx, hb, hr, hml, hown, hts, hK, hlocks, hN⟩ := id C0
  unfold b_X11_everybody_0 at h
  refine lv_iconst (v := 1) hx hb dX11_everybody_0 (by decide) ?_
  refine lv_aload_n hx hb dX11_everybody_1 rfl (lv_at hl 0 rfl) ?_
  refine x_get C0 hP (lay_X11 B ct S) rfl inG11 0 (by decide) wd_212 (fun _ h => h) rfl dX11_everybody_2 ?_
  refine x_get C0 hP (lay_X10 B ct S (Or.inl rfl)) rfl inG10 0 (by decide) wd_61 (fun _ h => h) rfl dX11_everybody_5 ?_
  refine lv_ishl hx hb dX11_everybody_8 ?_
  refine lv_iconst (v := 1) hx hb dX11_everybody_9 (by decide) ?_
  refine lv_isub hx hb dX11_everybody_10 ?_
  exact r_I C0 hP hS h dX11_everybody_11
set_option maxRecDepth 100000 in
set_option maxHeartbeats 4000000 in
theorem c_X11_everybody (l : Launch) {D : va_G} {ct : Nat → ClassId} {B : Nat} {Hb : Heap} {S : St} {V : Int32} (h : L_X11_everybody S = some V) : Met l yX11_everybody (Cond.code yX11_everybody cX11_everybody 1 (some .int) :: tG) { frames := 0, cells := 0, slots := 0, locals := 0 } (va_Pc [.ref (B + 0)] (MPK D ct B Hb S)) (qI D ct B Hb S V) 0 0 (AB B) := by
  refine mk_met (by decide +kernel) (Nat.le_of_ble_eq_true rfl) (fun p e s m args below meth c ls C0 hP hl _ => ?_)
  have h := ob_of h
  exact w_X11_everybody_0 l C0 S h hP va_S.rf (lv_sub hl [0] rfl)
set_option maxRecDepth 100000 in
set_option maxHeartbeats 4000000 in
theorem w_X11_mean_0 (l : Launch) {V : Int64 × St} (C0 : XC D ct p s m args meth c cX11_mean 2 (some .long) RX11) (v1 : Int32) (S : St) {H : Heap} {locs : List Loc} {ls : Array Slot} (h : (b_X11_mean_0 v1 S).bind some = some V) (hP : MP D ct B Hb S H) (hS : va_S (AB B) s.heap H locs) (hl : lv_has ls 2 [(0, .ref (B + 0)), (1, .int v1)]) : W p l e { frames := 6, cells := 0, slots := 0, locals := 146 } s m args below meth c H locs 0 0 (MQ below (qLw D ct B Hb V) args s 0 0 (AB B)) (F0 m 0 ls []) := by
  obtain ⟨hx, hb, hr, hml, hown, hts, hK, hlocks, hN⟩ := id C0
  unfold b_X11_mean_0 at h
  refine lv_iload_n hx hb dX11_mean_0 rfl (lv_at hl 1 rfl) ?_
  refine lv_iconst (v := 0) hx hb dX11_mean_1 (by decide) ?_
  refine lv_iconst (v := 1) hx hb dX11_mean_2 (by decide) ?_
  obtain ⟨r1, hr1, h⟩ := ob_bd h
  refine n_I (kS (As := [.int v1, .int 0, .int 1]) C0 (c_X11_isOut l v1 0 1 hr1) ⟨wd_338, wd_347, wd_337, wd_1⟩ kd_X11_isOut ⟨Nat.le_of_ble_eq_true rfl, Nat.le_of_ble_eq_true rfl⟩ hP rfl hl.1 rfl (Nat.le_of_ble_eq_true rfl) dX11_mean_3 ⟨Nat.le_of_ble_eq_true rfl, Nat.le_of_ble_eq_true rfl⟩) hS (fun H locs hP hS => ?_)
  refine lv_if_eq (tgt := 13) hx hb dX11_mean_6 (by decide) (fun z2 => ?_) (fun z2 => ?_)
  · have h := ob_t h z2
    refine lv_aload_n hx hb dX11_mean_13 rfl (lv_at hl 0 rfl) ?_
    refine lv_aload_n hx hb dX11_mean_14 rfl (lv_at hl 0 rfl) ?_
    obtain ⟨r3, hr3, h⟩ := ob_bd h
    refine n_I (kV (As := []) C0 (c_X11_everybody l hr3) ⟨wd_910, wd_907, wd_909, wp_18, wd_1⟩ kd_X11_everybody ⟨Nat.le_of_ble_eq_true rfl, Nat.le_of_ble_eq_true rfl⟩ hP (lay_X11 B ct S) rfl rfl hl.1 rfl (Nat.le_of_ble_eq_true rfl) dX11_mean_15 ⟨Nat.le_of_ble_eq_true rfl, Nat.le_of_ble_eq_true rfl⟩) hS (fun H locs hP hS => ?_)
    refine lv_iload_n hx hb dX11_mean_18 rfl (lv_at hl 1 rfl) ?_
    obtain ⟨r4, hr4, h⟩ := ob_bd h
    refine n_Lw (kV (As := [.int r3, .int v1]) C0 (c_X11_expectedYes l r3 v1 hr4) ⟨wd_882, wd_879, wd_881, wp_16, wd_1⟩ kd_X11_expectedYes ⟨Nat.le_of_ble_eq_true rfl, Nat.le_of_ble_eq_true rfl⟩ hP (lay_X11 B ct S) rfl rfl hl.1 rfl (Nat.le_of_ble_eq_true rfl) dX11_mean_19 ⟨Nat.le_of_ble_eq_true rfl, Nat.le_of_ble_eq_true rfl⟩) hS (fun H locs hP hS => ?_)
    exact r_Lw C0 hP hS h dX11_mean_22
  · have h := ob_f h z2
    refine lv_ldc2 (v := (-1000000001)) hx hb hown (hts _ wd_878) dX11_mean_9 ?_
    exact r_Lw C0 hP hS h dX11_mean_12
set_option maxRecDepth 100000 in
set_option maxHeartbeats 4000000 in
theorem c_X11_mean (l : Launch) (a1 : Int32) {D : va_G} {ct : Nat → ClassId} {B : Nat} {Hb : Heap} {S : St} {V : Int64 × St} (h : L_X11_mean a1 S = some V) : Met l yX11_mean (Cond.code yX11_mean cX11_mean 2 (some .long) :: tG) { frames := 6, cells := 0, slots := 0, locals := 146 } (va_Pc [.ref (B + 0), .int a1] (MPK D ct B Hb S)) (qLw D ct B Hb V) 0 0 (AB B) := by
  refine mk_met (by decide +kernel) (Nat.le_of_ble_eq_true rfl) (fun p e s m args below meth c ls C0 hP hl _ => ?_)
  have h := ob_of h
  exact w_X11_mean_0 l C0 a1 S h hP va_S.rf (lv_sub hl [0, 1] rfl)
set_option maxRecDepth 100000 in
set_option maxHeartbeats 4000000 in
theorem w_X11_turn_174 (l : Launch) {V : Int32 × St} (C0 : XC D ct p s m args meth c cX11_turn 6 (some .int) RX11) (n0 : Nat) (ih0 : ∀ (v1 : Int32) (v2 : Int32) (v3 : Int32) (v4 : Int32) (S : St) (H : Heap) (locs : List Loc) (ls : Array Slot), (lp n0 (l_X11_turn_93) (v1, v2, v3, v4, S)).bind some = some V → MP D ct B Hb S H → va_S (AB B) s.heap H locs → lv_has ls 6 [(0, .ref (B + 0)), (1, .int v1), (2, .int v2), (3, .int v3), (4, .int v4)] → W p l e { frames := 5, cells := 0, slots := 0, locals := 117 } s m args below meth c H locs 0 0 (MQ below (qIw D ct B Hb V) args s 0 0 (AB B)) (F0 m 93 ls [])) (v1 : Int32) (v2 : Int32) (v3 : Int32) (v4 : Int32) (S : St) {H : Heap} {locs : List Loc} {ls : Array Slot} (h : (b_X11_turn_174 v1 v2 v3 v4 S).bind (lpF n0 (l_X11_turn_93) some) = some V) (hP : MP D ct B Hb S H) (hS : va_S (AB B) s.heap H locs) (hl : lv_has ls 6 [(0, .ref (B + 0)), (1, .int v1), (2, .int v2), (3, .int v3), (4, .int v4)]) : W p l e { frames := 5, cells := 0, slots := 0, locals := 117 } s m args below meth c H locs 0 0 (MQ below (qIw D ct B Hb V) args s 0 0 (AB B)) (F0 m 174 ls []) := by
  obtain ⟨hx, hb, hr, hml, hown, hts, hK, hlocks, hN⟩ := id C0
  unfold b_X11_turn_174 at h
  refine lv_iinc (v := v4 + 1) (lv' := [(4, .int (v4 + 1)), (0, .ref (B + 0)), (1, .int v1), (2, .int v2), (3, .int v3)]) hx hb dX11_turn_174 hl (k := 4) rfl rfl (by decide) rfl (fun ls hl => ?_)
  refine lv_goto (tgt := 93) hx hb dX11_turn_177 (by decide) ?_
  exact ih0 v1 v2 v3 (v4 + 1) S _ _ _ h hP hS (lv_sub hl [1, 2, 3, 4, 0] rfl)
set_option maxRecDepth 100000 in
set_option maxHeartbeats 4000000 in
theorem w_X11_turn_156 (l : Launch) {V : Int32 × St} (C0 : XC D ct p s m args meth c cX11_turn 6 (some .int) RX11) (v2 : Int32) (v4 : Int32) (v5 : Int32) (S : St) {H : Heap} {locs : List Loc} {ls : Array Slot} (h : (b_X11_turn_156 v2 v4 v5 S).bind some = some V) (hP : MP D ct B Hb S H) (hS : va_S (AB B) s.heap H locs) (hl : lv_has ls 6 [(2, .int v2), (4, .int v4), (5, .int v5)]) : W p l e { frames := 5, cells := 0, slots := 0, locals := 117 } s m args below meth c H locs 0 0 (MQ below (qIw D ct B Hb V) args s 0 0 (AB B)) (F0 m 156 ls []) := by
  obtain ⟨hx, hb, hr, hml, hown, hts, hK, hlocks, hN⟩ := id C0
  unfold b_X11_turn_156 at h
  refine lv_iload_n hx hb dX11_turn_156 rfl (lv_at hl 0 rfl) ?_
  refine lv_if_ne (tgt := 165) hx hb dX11_turn_157 (by decide) (fun z1 => ?_) (fun z1 => ?_)
  · have h := ob_f h z1
    refine lv_iload hx hb dX11_turn_165 (lv_at hl 2 rfl) ?_
    exact r_Iw C0 hP hS h dX11_turn_167
  · have h := ob_t h z1
    refine lv_iload hx hb dX11_turn_160 (lv_at hl 1 rfl) ?_
    refine lv_goto (tgt := 167) hx hb dX11_turn_162 (by decide) ?_
    exact r_Iw C0 hP hS h dX11_turn_167
set_option maxRecDepth 100000 in
set_option maxHeartbeats 4000000 in
theorem w_X11_turn_114 (l : Launch) {V : Int32 × St} (C0 : XC D ct p s m args meth c cX11_turn 6 (some .int) RX11) (n0 : Nat) (ih0 : ∀ (v1 : Int32) (v2 : Int32) (v3 : Int32) (v4 : Int32) (S : St) (H : Heap) (locs : List Loc) (ls : Array Slot), (lp n0 (l_X11_turn_93) (v1, v2, v3, v4, S)).bind some = some V → MP D ct B Hb S H → va_S (AB B) s.heap H locs → lv_has ls 6 [(0, .ref (B + 0)), (1, .int v1), (2, .int v2), (3, .int v3), (4, .int v4)] → W p l e { frames := 5, cells := 0, slots := 0, locals := 117 } s m args below meth c H locs 0 0 (MQ below (qIw D ct B Hb V) args s 0 0 (AB B)) (F0 m 93 ls [])) (n1 : Nat) (ih1 : ∀ (v1 : Int32) (v2 : Int32) (v3 : Int32) (v4 : Int32) (v5 : Int32) (S : St) (H : Heap) (locs : List Loc) (ls : Array Slot), (lp n1 (l_X11_turn_114) (v1, v2, v3, v4, v5, S)).bind (lpF n0 (l_X11_turn_93) some) = some V → MP D ct B Hb S H → va_S (AB B) s.heap H locs → lv_has ls 6 [(0, .ref (B + 0)), (1, .int v1), (2, .int v2), (3, .int v3), (4, .int v4), (5, .int v5)] → W p l e { frames := 5, cells := 0, slots := 0, locals := 117 } s m args below meth c H locs 0 0 (MQ below (qIw D ct B Hb V) args s 0 0 (AB B)) (F0 m 114 ls [])) (v1 : Int32) (v2 : Int32) (v3 : Int32) (v4 : Int32) (v5 : Int32) (S : St) {H : Heap} {locs : List Loc} {ls : Array Slot} (h : (b_X11_turn_114 v1 v2 v3 v4 v5 S).bind (lpF n1 (l_X11_turn_114) (lpF n0 (l_X11_turn_93) some)) = some V) (hP : MP D ct B Hb S H) (hS : va_S (AB B) s.heap H locs) (hl : lv_has ls 6 [(0, .ref (B + 0)), (1, .int v1), (2, .int v2), (3, .int v3), (4, .int v4), (5, .int v5)]) : W p l e { frames := 5, cells := 0, slots := 0, locals := 117 } s m args below meth c H locs 0 0 (MQ below (qIw D ct B Hb V) args s 0 0 (AB B)) (F0 m 114 ls []) := by
  obtain ⟨hx, hb, hr, hml, hown, hts, hK, hlocks, hN⟩ := id C0
  unfold b_X11_turn_114 at h
  refine lv_iload hx hb dX11_turn_114 (lv_at hl 5 rfl) ?_
  refine lv_iconst (v := 4) hx hb dX11_turn_116 (by decide) ?_
  refine lv_icmp_ge (tgt := 174) hx hb dX11_turn_117 (by decide) (fun z1 => ?_) (fun z1 => ?_)
  · have h := ob_t h z1
    have h := ob_mp h
    exact w_X11_turn_174 l C0 n0 ih0 v1 v2 v3 v4 S h hP hS (lv_sub hl [0, 1, 2, 3, 4] rfl)
  · have h := ob_f h z1
    refine lv_aload_n hx hb dX11_turn_120 rfl (lv_at hl 0 rfl) ?_
    refine x_get C0 hP (lay_X11 B ct S) rfl inG11 1 (by decide) wd_213 (fun _ h => h) rfl dX11_turn_121 ?_
    refine x_get C0 hP (lay_X10 B ct S (Or.inr (Or.inl rfl))) rfl inG10 12 (by decide) wd_89 (fun _ h => h) rfl dX11_turn_124 ?_
    refine lv_iload_n hx hb dX11_turn_127 rfl (lv_at hl 3 rfl) ?_
    refine lv_iload hx hb dX11_turn_128 (lv_at hl 5 rfl) ?_
    obtain ⟨g2, h⟩ := ob_gd h
    obtain ⟨S3, eS3, h⟩ := ob_nm h
    refine x_iast C0 hP hS (fun S => lay_t11 B ct S (Or.inr (Or.inl rfl))) g2 dX11_turn_130 (fun H locs hP hS => ?_)
    rw [← eS3] at hP
    refine lv_aload_n hx hb dX11_turn_131 rfl (lv_at hl 0 rfl) ?_
    refine x_get C0 hP (lay_X11 B ct S3) rfl inG11 4 (by decide) wd_216 (fun _ h => h) rfl dX11_turn_132 ?_
    refine lv_aload_n hx hb dX11_turn_135 rfl (lv_at hl 0 rfl) ?_
    refine x_get C0 hP (lay_X11 B ct S3) rfl inG11 1 (by decide) wd_213 (fun _ h => h) rfl dX11_turn_136 ?_
    refine lv_iconst (v := (-1)) hx hb dX11_turn_139 (by decide) ?_
    obtain ⟨r4, hr4, h⟩ := ob_bd h
    refine n_Vw (kV (As := [.ref (B + 19), .int ((-1))]) C0 (c_X2_run l 19 (Or.inr (Or.inl rfl)) ((-1)) hr4) ⟨wd_624, wd_621, wd_622, wd_623, wd_4⟩ kd_X2_run ⟨Nat.le_of_ble_eq_true rfl, Nat.le_of_ble_eq_true rfl⟩ hP (lay_X2 B ct S3) rfl rfl hl.1 rfl (Nat.le_of_ble_eq_true rfl) dX11_turn_140 ⟨Nat.le_of_ble_eq_true rfl, Nat.le_of_ble_eq_true rfl⟩) hS (fun H locs hP hS => ?_)
    refine lv_aload_n hx hb dX11_turn_143 rfl (lv_at hl 0 rfl) ?_
    refine x_get C0 hP (lay_X11 B ct r4) rfl inG11 4 (by decide) wd_216 (fun _ h => h) rfl dX11_turn_144 ?_
    obtain ⟨r5, hr5, h⟩ := ob_bd h
    refine n_I (kV (As := []) C0 (c_X2_sayYes l hr5) ⟨wd_891, wd_888, wd_889, wd_890, wd_4⟩ kd_X2_sayYes ⟨Nat.le_of_ble_eq_true rfl, Nat.le_of_ble_eq_true rfl⟩ hP (lay_X2 B ct r4) rfl rfl hl.1 rfl (Nat.le_of_ble_eq_true rfl) dX11_turn_147 ⟨Nat.le_of_ble_eq_true rfl, Nat.le_of_ble_eq_true rfl⟩) hS (fun H locs hP hS => ?_)
    refine lv_iload_n hx hb dX11_turn_150 rfl (lv_at hl 1 rfl) ?_
    refine lv_iand hx hb dX11_turn_151 ?_
    refine lv_iload_n hx hb dX11_turn_152 rfl (lv_at hl 1 rfl) ?_
    refine lv_icmp_ne (tgt := 168) hx hb dX11_turn_153 (by decide) (fun z6 => ?_) (fun z6 => ?_)
    · have h := ob_f h z6
      refine lv_iinc (v := v5 + 1) (lv' := [(5, .int (v5 + 1)), (0, .ref (B + 0)), (1, .int v1), (2, .int v2), (3, .int v3), (4, .int v4)]) hx hb dX11_turn_168 hl (k := 5) rfl rfl (by decide) rfl (fun ls hl => ?_)
      refine lv_goto (tgt := 114) hx hb dX11_turn_171 (by decide) ?_
      exact ih1 v1 v2 v3 v4 (v5 + 1) r4 _ _ _ h hP hS (lv_sub hl [1, 2, 3, 4, 5, 0] rfl)
    · have h := ob_t h z6
      have h := ob_mp h
      have h := ob_mp h
      exact w_X11_turn_156 l C0 v2 v4 v5 r4 h hP hS (lv_sub hl [2, 4, 5] rfl)
set_option maxRecDepth 100000 in
set_option maxHeartbeats 4000000 in
theorem wl_X11_turn_114 (l : Launch) {V : Int32 × St} (C0 : XC D ct p s m args meth c cX11_turn 6 (some .int) RX11) (n0 : Nat) (ih0 : ∀ (v1 : Int32) (v2 : Int32) (v3 : Int32) (v4 : Int32) (S : St) (H : Heap) (locs : List Loc) (ls : Array Slot), (lp n0 (l_X11_turn_93) (v1, v2, v3, v4, S)).bind some = some V → MP D ct B Hb S H → va_S (AB B) s.heap H locs → lv_has ls 6 [(0, .ref (B + 0)), (1, .int v1), (2, .int v2), (3, .int v3), (4, .int v4)] → W p l e { frames := 5, cells := 0, slots := 0, locals := 117 } s m args below meth c H locs 0 0 (MQ below (qIw D ct B Hb V) args s 0 0 (AB B)) (F0 m 93 ls []))  : ∀ (n1 : Nat) (v1 : Int32) (v2 : Int32) (v3 : Int32) (v4 : Int32) (v5 : Int32) (S : St) {H : Heap} {locs : List Loc} {ls : Array Slot}, (lp n1 (l_X11_turn_114) (v1, v2, v3, v4, v5, S)).bind (lpF n0 (l_X11_turn_93) some) = some V → MP D ct B Hb S H → va_S (AB B) s.heap H locs → lv_has ls 6 [(0, .ref (B + 0)), (1, .int v1), (2, .int v2), (3, .int v3), (4, .int v4), (5, .int v5)] → W p l e { frames := 5, cells := 0, slots := 0, locals := 117 } s m args below meth c H locs 0 0 (MQ below (qIw D ct B Hb V) args s 0 0 (AB B)) (F0 m 114 ls []) := by
  intro n1
  induction n1 with
  | zero =>
    intro v1 v2 v3 v4 v5 S H locs ls h hP hS hl
    exact (lp_0 h).elim
  | succ n1 ih1 =>
    intro v1 v2 v3 v4 v5 S H locs ls h hP hS hl
    have h := lp_s h
    exact w_X11_turn_114 l C0 n0 ih0 n1 (fun v1 v2 v3 v4 v5 S H locs ls h hP hS hl => ih1 v1 v2 v3 v4 v5 S h hP hS hl) v1 v2 v3 v4 v5 S h hP hS hl
set_option maxRecDepth 100000 in
set_option maxHeartbeats 4000000 in
theorem w_X11_turn_93 (l : Launch) {V : Int32 × St} (C0 : XC D ct p s m args meth c cX11_turn 6 (some .int) RX11) (n0 : Nat) (ih0 : ∀ (v1 : Int32) (v2 : Int32) (v3 : Int32) (v4 : Int32) (S : St) (H : Heap) (locs : List Loc) (ls : Array Slot), (lp n0 (l_X11_turn_93) (v1, v2, v3, v4, S)).bind some = some V → MP D ct B Hb S H → va_S (AB B) s.heap H locs → lv_has ls 6 [(0, .ref (B + 0)), (1, .int v1), (2, .int v2), (3, .int v3), (4, .int v4)] → W p l e { frames := 5, cells := 0, slots := 0, locals := 117 } s m args below meth c H locs 0 0 (MQ below (qIw D ct B Hb V) args s 0 0 (AB B)) (F0 m 93 ls [])) (v1 : Int32) (v2 : Int32) (v3 : Int32) (v4 : Int32) (S : St) {H : Heap} {locs : List Loc} {ls : Array Slot} (h : (b_X11_turn_93 v1 v2 v3 v4 S).bind (lpF n0 (l_X11_turn_93) some) = some V) (hP : MP D ct B Hb S H) (hS : va_S (AB B) s.heap H locs) (hl : lv_has ls 6 [(0, .ref (B + 0)), (1, .int v1), (2, .int v2), (3, .int v3), (4, .int v4)]) : W p l e { frames := 5, cells := 0, slots := 0, locals := 117 } s m args below meth c H locs 0 0 (MQ below (qIw D ct B Hb V) args s 0 0 (AB B)) (F0 m 93 ls []) := by
  obtain ⟨hx, hb, hr, hml, hown, hts, hK, hlocks, hN⟩ := id C0
  unfold b_X11_turn_93 at h
  refine lv_iload hx hb dX11_turn_93 (lv_at hl 4 rfl) ?_
  refine lv_bipush (v := 60) hx hb dX11_turn_95 (by decide) ?_
  refine lv_icmp_gt (tgt := 180) hx hb dX11_turn_97 (by decide) (fun z1 => ?_) (fun z1 => ?_)
  · have h := ob_t h z1
    refine lv_bipush (v := (-4)) hx hb dX11_turn_180 (by decide) ?_
    exact r_Iw C0 hP hS h dX11_turn_182
  · have h := ob_f h z1
    refine lv_aload_n hx hb dX11_turn_100 rfl (lv_at hl 0 rfl) ?_
    refine x_get C0 hP (lay_X11 B ct S) rfl inG11 1 (by decide) wd_213 (fun _ h => h) rfl dX11_turn_101 ?_
    refine x_get C0 hP (lay_X10 B ct S (Or.inr (Or.inl rfl))) rfl inG10 14 (by decide) wd_94 (fun _ h => h) rfl dX11_turn_104 ?_
    refine lv_iload_n hx hb dX11_turn_107 rfl (lv_at hl 3 rfl) ?_
    refine lv_iload hx hb dX11_turn_108 (lv_at hl 4 rfl) ?_
    obtain ⟨g2, h⟩ := ob_gd h
    obtain ⟨S3, eS3, h⟩ := ob_nm h
    refine x_iast C0 hP hS (fun S => lay_t13 B ct S (Or.inr (Or.inl rfl))) g2 dX11_turn_110 (fun H locs hP hS => ?_)
    rw [← eS3] at hP
    refine lv_iconst (v := 0) hx hb dX11_turn_111 (by decide) ?_
    refine lv_istore (lv' := [(5, .int 0), (0, .ref (B + 0)), (1, .int v1), (2, .int v2), (3, .int v3), (4, .int v4)]) hx hb dX11_turn_112 hl (by decide) rfl (fun ls hl => ?_)
    exact wl_X11_turn_114 l C0 n0 ih0 1000 v1 v2 v3 v4 0 S3 h hP hS (lv_sub hl [1, 2, 3, 4, 5, 0] rfl)
set_option maxRecDepth 100000 in
set_option maxHeartbeats 4000000 in
theorem wl_X11_turn_93 (l : Launch) {V : Int32 × St} (C0 : XC D ct p s m args meth c cX11_turn 6 (some .int) RX11)  : ∀ (n0 : Nat) (v1 : Int32) (v2 : Int32) (v3 : Int32) (v4 : Int32) (S : St) {H : Heap} {locs : List Loc} {ls : Array Slot}, (lp n0 (l_X11_turn_93) (v1, v2, v3, v4, S)).bind some = some V → MP D ct B Hb S H → va_S (AB B) s.heap H locs → lv_has ls 6 [(0, .ref (B + 0)), (1, .int v1), (2, .int v2), (3, .int v3), (4, .int v4)] → W p l e { frames := 5, cells := 0, slots := 0, locals := 117 } s m args below meth c H locs 0 0 (MQ below (qIw D ct B Hb V) args s 0 0 (AB B)) (F0 m 93 ls []) := by
  intro n0
  induction n0 with
  | zero =>
    intro v1 v2 v3 v4 S H locs ls h hP hS hl
    exact (lp_0 h).elim
  | succ n0 ih0 =>
    intro v1 v2 v3 v4 S H locs ls h hP hS hl
    have h := lp_s h
    exact w_X11_turn_93 l C0 n0 (fun v1 v2 v3 v4 S H locs ls h hP hS hl => ih0 v1 v2 v3 v4 S h hP hS hl) v1 v2 v3 v4 S h hP hS hl
set_option maxRecDepth 100000 in
set_option maxHeartbeats 4000000 in
theorem w_X11_turn_0 (l : Launch) {V : Int32 × St} (C0 : XC D ct p s m args meth c cX11_turn 6 (some .int) RX11) (v1 : Int32) (v2 : Int32) (S : St) {H : Heap} {locs : List Loc} {ls : Array Slot} (h : (b_X11_turn_0 v1 v2 S).bind some = some V) (hP : MP D ct B Hb S H) (hS : va_S (AB B) s.heap H locs) (hl : lv_has ls 6 [(0, .ref (B + 0)), (1, .int v1), (2, .int v2)]) : W p l e { frames := 5, cells := 0, slots := 0, locals := 117 } s m args below meth c H locs 0 0 (MQ below (qIw D ct B Hb V) args s 0 0 (AB B)) (F0 m 0 ls []) := by
  obtain ⟨hx, hb, hr, hml, hown, hts, hK, hlocks, hN⟩ := id C0
  unfold b_X11_turn_0 at h
  refine lv_iload_n hx hb dX11_turn_0 rfl (lv_at hl 1 rfl) ?_
  refine lv_iconst (v := 0) hx hb dX11_turn_1 (by decide) ?_
  refine lv_aload_n hx hb dX11_turn_2 rfl (lv_at hl 0 rfl) ?_
  obtain ⟨r1, hr1, h⟩ := ob_bd h
  refine n_I (kV (As := []) C0 (c_X11_everybody l hr1) ⟨wd_910, wd_907, wd_909, wp_18, wd_1⟩ kd_X11_everybody ⟨Nat.le_of_ble_eq_true rfl, Nat.le_of_ble_eq_true rfl⟩ hP (lay_X11 B ct S) rfl rfl hl.1 rfl (Nat.le_of_ble_eq_true rfl) dX11_turn_3 ⟨Nat.le_of_ble_eq_true rfl, Nat.le_of_ble_eq_true rfl⟩) hS (fun H locs hP hS => ?_)
  obtain ⟨r2, hr2, h⟩ := ob_bd h
  refine n_I (kS (As := [.int v1, .int 0, .int r1]) C0 (c_X11_isOut l v1 0 r1 hr2) ⟨wd_338, wd_347, wd_337, wd_1⟩ kd_X11_isOut ⟨Nat.le_of_ble_eq_true rfl, Nat.le_of_ble_eq_true rfl⟩ hP rfl hl.1 rfl (Nat.le_of_ble_eq_true rfl) dX11_turn_6 ⟨Nat.le_of_ble_eq_true rfl, Nat.le_of_ble_eq_true rfl⟩) hS (fun H locs hP hS => ?_)
  refine lv_if_ne (tgt := 21) hx hb dX11_turn_9 (by decide) (fun z3 => ?_) (fun z3 => ?_)
  · have h := ob_f h z3
    refine lv_iconst (v := (-1)) hx hb dX11_turn_21 (by decide) ?_
    exact r_Iw C0 hP hS h dX11_turn_22
  · have h := ob_t h z3
    refine lv_iload_n hx hb dX11_turn_12 rfl (lv_at hl 2 rfl) ?_
    refine lv_iconst (v := 0) hx hb dX11_turn_13 (by decide) ?_
    refine lv_iconst (v := 1) hx hb dX11_turn_14 (by decide) ?_
    obtain ⟨r4, hr4, h⟩ := ob_bd h
    refine n_I (kS (As := [.int v2, .int 0, .int 1]) C0 (c_X11_isOut l v2 0 1 hr4) ⟨wd_338, wd_347, wd_337, wd_1⟩ kd_X11_isOut ⟨Nat.le_of_ble_eq_true rfl, Nat.le_of_ble_eq_true rfl⟩ hP rfl hl.1 rfl (Nat.le_of_ble_eq_true rfl) dX11_turn_15 ⟨Nat.le_of_ble_eq_true rfl, Nat.le_of_ble_eq_true rfl⟩) hS (fun H locs hP hS => ?_)
    refine lv_if_eq (tgt := 23) hx hb dX11_turn_18 (by decide) (fun z5 => ?_) (fun z5 => ?_)
    · have h := ob_t h z5
      refine lv_aload_n hx hb dX11_turn_23 rfl (lv_at hl 0 rfl) ?_
      refine x_get C0 hP (lay_X11 B ct S) rfl inG11 4 (by decide) wd_216 (fun _ h => h) rfl dX11_turn_24 ?_
      refine lv_aload_n hx hb dX11_turn_27 rfl (lv_at hl 0 rfl) ?_
      refine x_get C0 hP (lay_X11 B ct S) rfl inG11 0 (by decide) wd_212 (fun _ h => h) rfl dX11_turn_28 ?_
      refine lv_iconst (v := (-1)) hx hb dX11_turn_31 (by decide) ?_
      obtain ⟨r6, hr6, h⟩ := ob_bd h
      refine n_Vw (kV (As := [.ref (B + 1), .int ((-1))]) C0 (c_X2_run l 1 (Or.inl rfl) ((-1)) hr6) ⟨wd_624, wd_621, wd_622, wd_623, wd_4⟩ kd_X2_run ⟨Nat.le_of_ble_eq_true rfl, Nat.le_of_ble_eq_true rfl⟩ hP (lay_X2 B ct S) rfl rfl hl.1 rfl (Nat.le_of_ble_eq_true rfl) dX11_turn_32 ⟨Nat.le_of_ble_eq_true rfl, Nat.le_of_ble_eq_true rfl⟩) hS (fun H locs hP hS => ?_)
      refine lv_aload_n hx hb dX11_turn_35 rfl (lv_at hl 0 rfl) ?_
      refine x_get C0 hP (lay_X11 B ct r6) rfl inG11 4 (by decide) wd_216 (fun _ h => h) rfl dX11_turn_36 ?_
      obtain ⟨r7, hr7, h⟩ := ob_bd h
      refine n_I (kV (As := []) C0 (c_X2_sayYes l hr7) ⟨wd_891, wd_888, wd_889, wd_890, wd_4⟩ kd_X2_sayYes ⟨Nat.le_of_ble_eq_true rfl, Nat.le_of_ble_eq_true rfl⟩ hP (lay_X2 B ct r6) rfl rfl hl.1 rfl (Nat.le_of_ble_eq_true rfl) dX11_turn_39 ⟨Nat.le_of_ble_eq_true rfl, Nat.le_of_ble_eq_true rfl⟩) hS (fun H locs hP hS => ?_)
      refine lv_iload_n hx hb dX11_turn_42 rfl (lv_at hl 1 rfl) ?_
      refine lv_iand hx hb dX11_turn_43 ?_
      refine lv_iload_n hx hb dX11_turn_44 rfl (lv_at hl 1 rfl) ?_
      refine lv_icmp_ne (tgt := 59) hx hb dX11_turn_45 (by decide) (fun z8 => ?_) (fun z8 => ?_)
      · have h := ob_f h z8
        refine lv_aload_n hx hb dX11_turn_59 rfl (lv_at hl 0 rfl) ?_
        refine x_get C0 hP (lay_X11 B ct r6) rfl inG11 1 (by decide) wd_213 (fun _ h => h) rfl dX11_turn_60 ?_
        refine lv_aload_n hx hb dX11_turn_63 rfl (lv_at hl 0 rfl) ?_
        refine x_get C0 hP (lay_X11 B ct r6) rfl inG11 0 (by decide) wd_212 (fun _ h => h) rfl dX11_turn_64 ?_
        obtain ⟨r9, hr9, h⟩ := ob_bd h
        refine n_Vw (kV (As := [.ref (B + 1)]) C0 (c_X10_become l 19 1 (Or.inr (Or.inl rfl)) (Or.inl rfl) hr9) ⟨wd_490, wd_487, wd_488, wd_489, wd_2⟩ kd_X10_become ⟨Nat.le_of_ble_eq_true rfl, Nat.le_of_ble_eq_true rfl⟩ hP (lay_X10 B ct r6 (Or.inr (Or.inl rfl))) rfl rfl hl.1 rfl (Nat.le_of_ble_eq_true rfl) dX11_turn_67 ⟨Nat.le_of_ble_eq_true rfl, Nat.le_of_ble_eq_true rfl⟩) hS (fun H locs hP hS => ?_)
        refine lv_aload_n hx hb dX11_turn_70 rfl (lv_at hl 0 rfl) ?_
        refine x_get C0 hP (lay_X11 B ct r9) rfl inG11 1 (by decide) wd_213 (fun _ h => h) rfl dX11_turn_71 ?_
        refine lv_iconst (v := 0) hx hb dX11_turn_74 (by decide) ?_
        refine lv_iconst (v := 1) hx hb dX11_turn_75 (by decide) ?_
        refine lv_iconst (v := 1) hx hb dX11_turn_76 (by decide) ?_
        refine lv_iconst (v := 0) hx hb dX11_turn_77 (by decide) ?_
        refine lv_iconst (v := 0) hx hb dX11_turn_78 (by decide) ?_
        obtain ⟨r10, hr10, h⟩ := ob_bd h
        refine n_Iw (kV (As := [.int 0, .int 1, .int 1, .int 0, .int 0]) C0 (c_X10_addPlant l 19 (Or.inr (Or.inl rfl)) 0 1 1 0 0 hr10) ⟨wd_599, wd_926, wd_597, wd_598, wd_2⟩ kd_X10_addPlant ⟨Nat.le_of_ble_eq_true rfl, Nat.le_of_ble_eq_true rfl⟩ hP (lay_X10 B ct r9 (Or.inr (Or.inl rfl))) rfl rfl hl.1 rfl (Nat.le_of_ble_eq_true rfl) dX11_turn_79 ⟨Nat.le_of_ble_eq_true rfl, Nat.le_of_ble_eq_true rfl⟩) hS (fun H locs hP hS => ?_)
        refine lv_istore_n (lv' := [(3, .int r10.1), (0, .ref (B + 0)), (1, .int v1), (2, .int v2)]) hx hb dX11_turn_82 rfl hl (by decide) rfl (fun ls hl => ?_)
        refine lv_iload_n hx hb dX11_turn_83 rfl (lv_at hl 0 rfl) ?_
        refine lv_if_ge (tgt := 90) hx hb dX11_turn_84 (by decide) (fun z11 => ?_) (fun z11 => ?_)
        · have h := ob_t h z11
          refine lv_iconst (v := 1) hx hb dX11_turn_90 (by decide) ?_
          refine lv_istore (lv' := [(4, .int 1), (3, .int r10.1), (0, .ref (B + 0)), (1, .int v1), (2, .int v2)]) hx hb dX11_turn_91 hl (by decide) rfl (fun ls hl => ?_)
          exact wl_X11_turn_93 l C0 1000 v1 v2 r10.1 1 r10.2 h hP hS (lv_sub hl [2, 3, 4, 1, 0] rfl)
        · have h := ob_f h z11
          refine lv_bipush (v := (-4)) hx hb dX11_turn_87 (by decide) ?_
          exact r_Iw C0 hP hS h dX11_turn_89
      · have h := ob_t h z8
        refine lv_iload_n hx hb dX11_turn_48 rfl (lv_at hl 2 rfl) ?_
        refine lv_if_ne (tgt := 56) hx hb dX11_turn_49 (by decide) (fun z12 => ?_) (fun z12 => ?_)
        · have h := ob_f h z12
          refine lv_bipush (v := (-4)) hx hb dX11_turn_56 (by decide) ?_
          exact r_Iw C0 hP hS h dX11_turn_58
        · have h := ob_t h z12
          refine lv_iconst (v := 0) hx hb dX11_turn_52 (by decide) ?_
          refine lv_goto (tgt := 58) hx hb dX11_turn_53 (by decide) ?_
          exact r_Iw C0 hP hS h dX11_turn_58
    · have h := ob_f h z5
      refine lv_iconst (v := (-1)) hx hb dX11_turn_21 (by decide) ?_
      exact r_Iw C0 hP hS h dX11_turn_22
set_option maxRecDepth 100000 in
set_option maxHeartbeats 4000000 in
theorem c_X11_turn (l : Launch) (a1 : Int32) (a2 : Int32) {D : va_G} {ct : Nat → ClassId} {B : Nat} {Hb : Heap} {S : St} {V : Int32 × St} (h : L_X11_turn a1 a2 S = some V) : Met l yX11_turn (Cond.code yX11_turn cX11_turn 6 (some .int) :: tG) { frames := 5, cells := 0, slots := 0, locals := 117 } (va_Pc [.ref (B + 0), .int a1, .int a2] (MPK D ct B Hb S)) (qIw D ct B Hb V) 0 0 (AB B) := by
  refine mk_met (by decide +kernel) (Nat.le_of_ble_eq_true rfl) (fun p e s m args below meth c ls C0 hP hl _ => ?_)
  have h := ob_of h
  exact w_X11_turn_0 l C0 a1 a2 S h hP va_S.rf (lv_sub hl [0, 1, 2] rfl)
set_option maxRecDepth 100000 in
set_option maxHeartbeats 4000000 in
theorem w_X11_whoDiffers_28 (l : Launch) {V : Int32} (C0 : XC D ct p s m args meth c cX11_whoDiffers 4 (some .int) RX11) (v0 : Int32) (v1 : Int32) (v2 : Int32) (v3 : Int32) (S : St) (n0 : Nat) (ih0 : ∀ (v0 : Int32) (v1 : Int32) (v2 : Int32) (v3 : Int32) (H : Heap) (locs : List Loc) (ls : Array Slot), (lp n0 (l_X11_whoDiffers_4 S) (v0, v1, v2, v3)).bind some = some V → MP D ct B Hb S H → va_S (AB B) s.heap H locs → lv_has ls 4 [(0, .int v0), (1, .int v1), (2, .int v2), (3, .int v3)] → W p l e { frames := 0, cells := 0, slots := 0, locals := 0 } s m args below meth c H locs 0 0 (MQ below (qI D ct B Hb S V) args s 0 0 (AB B)) (F0 m 4 ls [])) {H : Heap} {locs : List Loc} {ls : Array Slot} (h : (b_X11_whoDiffers_28 v0 v1 v2 v3 S).bind (lpF n0 (l_X11_whoDiffers_4 S) some) = some V) (hP : MP D ct B Hb S H) (hS : va_S (AB B) s.heap H locs) (hl : lv_has ls 4 [(0, .int v0), (1, .int v1), (2, .int v2), (3, .int v3)]) : W p l e { frames := 0, cells := 0, slots := 0, locals := 0 } s m args below meth c H locs 0 0 (MQ below (qI D ct B Hb S V) args s 0 0 (AB B)) (F0 m 28 ls []) := by
  obtain ⟨hx, hb, hr, hml, hown, hts, hK, hlocks, hN⟩ := id C0
  unfold b_X11_whoDiffers_28 at h
  refine lv_iinc (v := v3 + 1) (lv' := [(3, .int (v3 + 1)), (0, .int v0), (1, .int v1), (2, .int v2)]) hx hb dX11_whoDiffers_28 hl (k := 3) rfl rfl (by decide) rfl (fun ls hl => ?_)
  refine lv_goto (tgt := 4) hx hb dX11_whoDiffers_31 (by decide) ?_
  exact ih0 v0 v1 v2 (v3 + 1) _ _ _ h hP hS (lv_sub hl [1, 2, 3, 0] rfl)
set_option maxRecDepth 100000 in
set_option maxHeartbeats 4000000 in
theorem w_X11_whoDiffers_4 (l : Launch) {V : Int32} (C0 : XC D ct p s m args meth c cX11_whoDiffers 4 (some .int) RX11) (v0 : Int32) (v1 : Int32) (v2 : Int32) (v3 : Int32) (S : St) (n0 : Nat) (ih0 : ∀ (v0 : Int32) (v1 : Int32) (v2 : Int32) (v3 : Int32) (H : Heap) (locs : List Loc) (ls : Array Slot), (lp n0 (l_X11_whoDiffers_4 S) (v0, v1, v2, v3)).bind some = some V → MP D ct B Hb S H → va_S (AB B) s.heap H locs → lv_has ls 4 [(0, .int v0), (1, .int v1), (2, .int v2), (3, .int v3)] → W p l e { frames := 0, cells := 0, slots := 0, locals := 0 } s m args below meth c H locs 0 0 (MQ below (qI D ct B Hb S V) args s 0 0 (AB B)) (F0 m 4 ls [])) {H : Heap} {locs : List Loc} {ls : Array Slot} (h : (b_X11_whoDiffers_4 v0 v1 v2 v3 S).bind (lpF n0 (l_X11_whoDiffers_4 S) some) = some V) (hP : MP D ct B Hb S H) (hS : va_S (AB B) s.heap H locs) (hl : lv_has ls 4 [(0, .int v0), (1, .int v1), (2, .int v2), (3, .int v3)]) : W p l e { frames := 0, cells := 0, slots := 0, locals := 0 } s m args below meth c H locs 0 0 (MQ below (qI D ct B Hb S V) args s 0 0 (AB B)) (F0 m 4 ls []) := by
  obtain ⟨hx, hb, hr, hml, hown, hts, hK, hlocks, hN⟩ := id C0
  unfold b_X11_whoDiffers_4 at h
  refine lv_iload_n hx hb dX11_whoDiffers_4 rfl (lv_at hl 3 rfl) ?_
  refine lv_bipush (v := 8) hx hb dX11_whoDiffers_5 (by decide) ?_
  refine lv_icmp_ge (tgt := 34) hx hb dX11_whoDiffers_7 (by decide) (fun z1 => ?_) (fun z1 => ?_)
  · have h := ob_t h z1
    refine lv_iload_n hx hb dX11_whoDiffers_34 rfl (lv_at hl 2 rfl) ?_
    exact r_I C0 hP hS h dX11_whoDiffers_35
  · have h := ob_f h z1
    refine lv_iload_n hx hb dX11_whoDiffers_10 rfl (lv_at hl 0 rfl) ?_
    refine lv_iload_n hx hb dX11_whoDiffers_11 rfl (lv_at hl 1 rfl) ?_
    refine lv_ixor hx hb dX11_whoDiffers_12 ?_
    refine lv_iconst (v := 2) hx hb dX11_whoDiffers_13 (by decide) ?_
    refine lv_iload_n hx hb dX11_whoDiffers_14 rfl (lv_at hl 3 rfl) ?_
    refine lv_imul hx hb dX11_whoDiffers_15 ?_
    refine lv_ishr hx hb dX11_whoDiffers_16 ?_
    refine lv_iconst (v := 3) hx hb dX11_whoDiffers_17 (by decide) ?_
    refine lv_iand hx hb dX11_whoDiffers_18 ?_
    refine lv_if_eq (tgt := 28) hx hb dX11_whoDiffers_19 (by decide) (fun z2 => ?_) (fun z2 => ?_)
    · have h := ob_t h z2
      exact w_X11_whoDiffers_28 l C0 v0 v1 v2 v3 S n0 ih0 h hP hS (lv_sub hl [0, 1, 2, 3] rfl)
    · have h := ob_f h z2
      refine lv_iload_n hx hb dX11_whoDiffers_22 rfl (lv_at hl 2 rfl) ?_
      refine lv_iconst (v := 1) hx hb dX11_whoDiffers_23 (by decide) ?_
      refine lv_iload_n hx hb dX11_whoDiffers_24 rfl (lv_at hl 3 rfl) ?_
      refine lv_ishl hx hb dX11_whoDiffers_25 ?_
      refine lv_ior hx hb dX11_whoDiffers_26 ?_
      refine lv_istore_n (lv' := [(2, .int (v2 ||| ((1 : Int32) <<< (v3 &&& 31)))), (0, .int v0), (1, .int v1), (3, .int v3)]) hx hb dX11_whoDiffers_27 rfl hl (by decide) rfl (fun ls hl => ?_)
      exact w_X11_whoDiffers_28 l C0 v0 v1 (v2 ||| ((1 : Int32) <<< (v3 &&& 31))) v3 S n0 ih0 h hP hS (lv_sub hl [1, 2, 0, 3] rfl)
set_option maxRecDepth 100000 in
set_option maxHeartbeats 4000000 in
theorem wl_X11_whoDiffers_4 (l : Launch) {V : Int32} (C0 : XC D ct p s m args meth c cX11_whoDiffers 4 (some .int) RX11) (S : St)  : ∀ (n0 : Nat) (v0 : Int32) (v1 : Int32) (v2 : Int32) (v3 : Int32) {H : Heap} {locs : List Loc} {ls : Array Slot}, (lp n0 (l_X11_whoDiffers_4 S) (v0, v1, v2, v3)).bind some = some V → MP D ct B Hb S H → va_S (AB B) s.heap H locs → lv_has ls 4 [(0, .int v0), (1, .int v1), (2, .int v2), (3, .int v3)] → W p l e { frames := 0, cells := 0, slots := 0, locals := 0 } s m args below meth c H locs 0 0 (MQ below (qI D ct B Hb S V) args s 0 0 (AB B)) (F0 m 4 ls []) := by
  intro n0
  induction n0 with
  | zero =>
    intro v0 v1 v2 v3 H locs ls h hP hS hl
    exact (lp_0 h).elim
  | succ n0 ih0 =>
    intro v0 v1 v2 v3 H locs ls h hP hS hl
    have h := lp_s h
    exact w_X11_whoDiffers_4 l C0 v0 v1 v2 v3 S n0 (fun v0 v1 v2 v3 H locs ls h hP hS hl => ih0 v0 v1 v2 v3 h hP hS hl) h hP hS hl
set_option maxRecDepth 100000 in
set_option maxHeartbeats 4000000 in
theorem w_X11_whoDiffers_0 (l : Launch) {V : Int32} (C0 : XC D ct p s m args meth c cX11_whoDiffers 4 (some .int) RX11) (v0 : Int32) (v1 : Int32) (S : St) {H : Heap} {locs : List Loc} {ls : Array Slot} (h : (b_X11_whoDiffers_0 v0 v1 S).bind some = some V) (hP : MP D ct B Hb S H) (hS : va_S (AB B) s.heap H locs) (hl : lv_has ls 4 [(0, .int v0), (1, .int v1)]) : W p l e { frames := 0, cells := 0, slots := 0, locals := 0 } s m args below meth c H locs 0 0 (MQ below (qI D ct B Hb S V) args s 0 0 (AB B)) (F0 m 0 ls []) := by
  obtain ⟨hx, hb, hr, hml, hown, hts, hK, hlocks, hN⟩ := id C0
  unfold b_X11_whoDiffers_0 at h
  refine lv_iconst (v := 0) hx hb dX11_whoDiffers_0 (by decide) ?_
  refine lv_istore_n (lv' := [(2, .int 0), (0, .int v0), (1, .int v1)]) hx hb dX11_whoDiffers_1 rfl hl (by decide) rfl (fun ls hl => ?_)
  refine lv_iconst (v := 0) hx hb dX11_whoDiffers_2 (by decide) ?_
  refine lv_istore_n (lv' := [(3, .int 0), (2, .int 0), (0, .int v0), (1, .int v1)]) hx hb dX11_whoDiffers_3 rfl hl (by decide) rfl (fun ls hl => ?_)
  exact wl_X11_whoDiffers_4 l C0 S 1000 v0 v1 0 0 h hP hS (lv_sub hl [2, 3, 1, 0] rfl)
set_option maxRecDepth 100000 in
set_option maxHeartbeats 4000000 in
theorem c_X11_whoDiffers (l : Launch) (a0 : Int32) (a1 : Int32) {D : va_G} {ct : Nat → ClassId} {B : Nat} {Hb : Heap} {S : St} {V : Int32} (h : L_X11_whoDiffers a0 a1 S = some V) : Met l yX11_whoDiffers (Cond.code yX11_whoDiffers cX11_whoDiffers 4 (some .int) :: tG) { frames := 0, cells := 0, slots := 0, locals := 0 } (va_Pc [.int a0, .int a1] (MPK D ct B Hb S)) (qI D ct B Hb S V) 0 0 (AB B) := by
  refine mk_met (by decide +kernel) (Nat.le_of_ble_eq_true rfl) (fun p e s m args below meth c ls C0 hP hl _ => ?_)
  have h := ob_of h
  exact w_X11_whoDiffers_0 l C0 a0 a1 S h hP va_S.rf (lv_sub hl [0, 1] rfl)
set_option maxRecDepth 100000 in
set_option maxHeartbeats 4000000 in
theorem w_X11_guard_27 (l : Launch) {V : Int32 × St} (C0 : XC D ct p s m args meth c cX11_guard 4 (some .int) RX11) (n0 : Nat) (ih0 : ∀ (v1 : Int32) (v2 : Int32) (S : St) (H : Heap) (locs : List Loc) (ls : Array Slot), (lp n0 (l_X11_guard_27) (v1, v2, S)).bind some = some V → MP D ct B Hb S H → va_S (AB B) s.heap H locs → lv_has ls 4 [(0, .ref (B + 0)), (1, .int v1), (2, .int v2)] → W p l e { frames := 5, cells := 0, slots := 0, locals := 117 } s m args below meth c H locs 0 0 (MQ below (qIw D ct B Hb V) args s 0 0 (AB B)) (F0 m 27 ls [])) (v1 : Int32) (v2 : Int32) (S : St) {H : Heap} {locs : List Loc} {ls : Array Slot} (h : (b_X11_guard_27 v1 v2 S).bind (lpF n0 (l_X11_guard_27) some) = some V) (hP : MP D ct B Hb S H) (hS : va_S (AB B) s.heap H locs) (hl : lv_has ls 4 [(0, .ref (B + 0)), (1, .int v1), (2, .int v2)]) : W p l e { frames := 5, cells := 0, slots := 0, locals := 117 } s m args below meth c H locs 0 0 (MQ below (qIw D ct B Hb V) args s 0 0 (AB B)) (F0 m 27 ls []) := by
  obtain ⟨hx, hb, hr, hml, hown, hts, hK, hlocks, hN⟩ := id C0
  unfold b_X11_guard_27 at h
  refine lv_iload_n hx hb dX11_guard_27 rfl (lv_at hl 2 rfl) ?_
  refine lv_bipush (v := 9) hx hb dX11_guard_28 (by decide) ?_
  refine lv_icmp_gt (tgt := 121) hx hb dX11_guard_30 (by decide) (fun z1 => ?_) (fun z1 => ?_)
  · have h := ob_t h z1
    refine lv_bipush (v := (-4)) hx hb dX11_guard_121 (by decide) ?_
    exact r_Iw C0 hP hS h dX11_guard_123
  · have h := ob_f h z1
    refine lv_aload_n hx hb dX11_guard_33 rfl (lv_at hl 0 rfl) ?_
    refine x_get C0 hP (lay_X11 B ct S) rfl inG11 1 (by decide) wd_213 (fun _ h => h) rfl dX11_guard_34 ?_
    refine x_get C0 hP (lay_X10 B ct S (Or.inr (Or.inl rfl))) rfl inG10 18 (by decide) wd_102 (fun _ h => h) rfl dX11_guard_37 ?_
    refine lv_iconst (v := 1) hx hb dX11_guard_40 (by decide) ?_
    refine lv_iload_n hx hb dX11_guard_41 rfl (lv_at hl 2 rfl) ?_
    obtain ⟨g2, h⟩ := ob_gd h
    obtain ⟨S3, eS3, h⟩ := ob_nm h
    refine x_iast C0 hP hS (fun S => lay_t17 B ct S (Or.inr (Or.inl rfl))) g2 dX11_guard_42 (fun H locs hP hS => ?_)
    rw [← eS3] at hP
    refine lv_aload_n hx hb dX11_guard_43 rfl (lv_at hl 0 rfl) ?_
    refine x_get C0 hP (lay_X11 B ct S3) rfl inG11 1 (by decide) wd_213 (fun _ h => h) rfl dX11_guard_44 ?_
    refine lv_aload_n hx hb dX11_guard_47 rfl (lv_at hl 0 rfl) ?_
    refine x_get C0 hP (lay_X11 B ct S3) rfl inG11 0 (by decide) wd_212 (fun _ h => h) rfl dX11_guard_48 ?_
    refine x_get C0 hP (lay_X10 B ct S3 (Or.inl rfl)) rfl inG10 11 (by decide) wd_86 (fun _ h => h) rfl dX11_guard_51 ?_
    obtain ⟨S4, eS4, h⟩ := ob_nm h
    refine x_put (S' := si S3 19 11 (gi S3 1 11)) (FS := (fs10 B 19)) C0 hP hS (fun S => lay_X10 B ct S (Or.inr (Or.inl rfl))) rfl inG10 tyX10 tyX10_ok nmX10 11 (by decide) wd_86 rfl rfl (fun a ha => lay_local (gi_si_n _ _ _ ha) rfl rfl rfl) (put_10_11 B 19 _ _) rfl rfl (Nat.le_of_ble_eq_true rfl) dX11_guard_54 (fun H locs hP hS => ?_)
    rw [← eS4] at hP
    refine lv_aload_n hx hb dX11_guard_57 rfl (lv_at hl 0 rfl) ?_
    refine x_get C0 hP (lay_X11 B ct S4) rfl inG11 4 (by decide) wd_216 (fun _ h => h) rfl dX11_guard_58 ?_
    refine lv_aload_n hx hb dX11_guard_61 rfl (lv_at hl 0 rfl) ?_
    refine x_get C0 hP (lay_X11 B ct S4) rfl inG11 1 (by decide) wd_213 (fun _ h => h) rfl dX11_guard_62 ?_
    refine lv_iconst (v := (-1)) hx hb dX11_guard_65 (by decide) ?_
    obtain ⟨r5, hr5, h⟩ := ob_bd h
    refine n_Vw (kV (As := [.ref (B + 19), .int ((-1))]) C0 (c_X2_run l 19 (Or.inr (Or.inl rfl)) ((-1)) hr5) ⟨wd_624, wd_621, wd_622, wd_623, wd_4⟩ kd_X2_run ⟨Nat.le_of_ble_eq_true rfl, Nat.le_of_ble_eq_true rfl⟩ hP (lay_X2 B ct S4) rfl rfl hl.1 rfl (Nat.le_of_ble_eq_true rfl) dX11_guard_66 ⟨Nat.le_of_ble_eq_true rfl, Nat.le_of_ble_eq_true rfl⟩) hS (fun H locs hP hS => ?_)
    refine lv_aload_n hx hb dX11_guard_69 rfl (lv_at hl 0 rfl) ?_
    refine x_get C0 hP (lay_X11 B ct r5) rfl inG11 4 (by decide) wd_216 (fun _ h => h) rfl dX11_guard_70 ?_
    obtain ⟨r6, hr6, h⟩ := ob_bd h
    refine n_I (kV (As := []) C0 (c_X2_choices l hr6) ⟨wd_864, wd_861, wd_862, wd_863, wd_4⟩ kd_X2_choices ⟨Nat.le_of_ble_eq_true rfl, Nat.le_of_ble_eq_true rfl⟩ hP (lay_X2 B ct r5) rfl rfl hl.1 rfl (Nat.le_of_ble_eq_true rfl) dX11_guard_73 ⟨Nat.le_of_ble_eq_true rfl, Nat.le_of_ble_eq_true rfl⟩) hS (fun H locs hP hS => ?_)
    refine lv_istore_n (lv' := [(3, .int r6), (0, .ref (B + 0)), (1, .int v1), (2, .int v2)]) hx hb dX11_guard_76 rfl hl (by decide) rfl (fun ls hl => ?_)
    refine lv_aload_n hx hb dX11_guard_77 rfl (lv_at hl 1 rfl) ?_
    refine x_get C0 hP (lay_X11 B ct r5) rfl inG11 1 (by decide) wd_213 (fun _ h => h) rfl dX11_guard_78 ?_
    refine lv_iconst (v := 0) hx hb dX11_guard_81 (by decide) ?_
    obtain ⟨S7, eS7, h⟩ := ob_nm h
    refine x_put (S' := si r5 19 11 0) (FS := (fs10 B 19)) C0 hP hS (fun S => lay_X10 B ct S (Or.inr (Or.inl rfl))) rfl inG10 tyX10 tyX10_ok nmX10 11 (by decide) wd_86 rfl rfl (fun a ha => lay_local (gi_si_n _ _ _ ha) rfl rfl rfl) (put_10_11 B 19 _ _) rfl rfl (Nat.le_of_ble_eq_true rfl) dX11_guard_82 (fun H locs hP hS => ?_)
    rw [← eS7] at hP
    refine lv_aload_n hx hb dX11_guard_85 rfl (lv_at hl 1 rfl) ?_
    refine x_get C0 hP (lay_X11 B ct S7) rfl inG11 4 (by decide) wd_216 (fun _ h => h) rfl dX11_guard_86 ?_
    refine lv_aload_n hx hb dX11_guard_89 rfl (lv_at hl 1 rfl) ?_
    refine x_get C0 hP (lay_X11 B ct S7) rfl inG11 1 (by decide) wd_213 (fun _ h => h) rfl dX11_guard_90 ?_
    refine lv_iconst (v := (-1)) hx hb dX11_guard_93 (by decide) ?_
    obtain ⟨r8, hr8, h⟩ := ob_bd h
    refine n_Vw (kV (As := [.ref (B + 19), .int ((-1))]) C0 (c_X2_run l 19 (Or.inr (Or.inl rfl)) ((-1)) hr8) ⟨wd_624, wd_621, wd_622, wd_623, wd_4⟩ kd_X2_run ⟨Nat.le_of_ble_eq_true rfl, Nat.le_of_ble_eq_true rfl⟩ hP (lay_X2 B ct S7) rfl rfl hl.1 rfl (Nat.le_of_ble_eq_true rfl) dX11_guard_94 ⟨Nat.le_of_ble_eq_true rfl, Nat.le_of_ble_eq_true rfl⟩) hS (fun H locs hP hS => ?_)
    refine lv_iload_n hx hb dX11_guard_97 rfl (lv_at hl 0 rfl) ?_
    refine lv_aload_n hx hb dX11_guard_98 rfl (lv_at hl 1 rfl) ?_
    refine x_get C0 hP (lay_X11 B ct r8) rfl inG11 4 (by decide) wd_216 (fun _ h => h) rfl dX11_guard_99 ?_
    obtain ⟨r9, hr9, h⟩ := ob_bd h
    refine n_I (kV (As := []) C0 (c_X2_choices l hr9) ⟨wd_864, wd_861, wd_862, wd_863, wd_4⟩ kd_X2_choices ⟨Nat.le_of_ble_eq_true rfl, Nat.le_of_ble_eq_true rfl⟩ hP (lay_X2 B ct r8) rfl rfl hl.1 rfl (Nat.le_of_ble_eq_true rfl) dX11_guard_102 ⟨Nat.le_of_ble_eq_true rfl, Nat.le_of_ble_eq_true rfl⟩) hS (fun H locs hP hS => ?_)
    obtain ⟨r10, hr10, h⟩ := ob_bd h
    refine n_I (kS (As := [.int r6, .int r9]) C0 (c_X11_whoDiffers l r6 r9 hr10) ⟨wd_867, wd_865, wd_866, wd_1⟩ kd_X11_whoDiffers ⟨Nat.le_of_ble_eq_true rfl, Nat.le_of_ble_eq_true rfl⟩ hP rfl hl.1 rfl (Nat.le_of_ble_eq_true rfl) dX11_guard_105 ⟨Nat.le_of_ble_eq_true rfl, Nat.le_of_ble_eq_true rfl⟩) hS (fun H locs hP hS => ?_)
    refine lv_iload_n hx hb dX11_guard_108 rfl (lv_at hl 2 rfl) ?_
    refine lv_iand hx hb dX11_guard_109 ?_
    refine lv_if_ne (tgt := 115) hx hb dX11_guard_110 (by decide) (fun z11 => ?_) (fun z11 => ?_)
    · have h := ob_f h z11
      refine lv_iinc (v := v2 + 1) (lv' := [(2, .int (v2 + 1)), (3, .int r6), (0, .ref (B + 0)), (1, .int v1)]) hx hb dX11_guard_115 hl (k := 3) rfl rfl (by decide) rfl (fun ls hl => ?_)
      refine lv_goto (tgt := 27) hx hb dX11_guard_118 (by decide) ?_
      exact ih0 v1 (v2 + 1) r8 _ _ _ h hP hS (lv_sub hl [2, 3, 0] rfl)
    · have h := ob_t h z11
      refine lv_iload_n hx hb dX11_guard_113 rfl (lv_at hl 3 rfl) ?_
      exact r_Iw C0 hP hS h dX11_guard_114
set_option maxRecDepth 100000 in
set_option maxHeartbeats 4000000 in
theorem wl_X11_guard_27 (l : Launch) {V : Int32 × St} (C0 : XC D ct p s m args meth c cX11_guard 4 (some .int) RX11)  : ∀ (n0 : Nat) (v1 : Int32) (v2 : Int32) (S : St) {H : Heap} {locs : List Loc} {ls : Array Slot}, (lp n0 (l_X11_guard_27) (v1, v2, S)).bind some = some V → MP D ct B Hb S H → va_S (AB B) s.heap H locs → lv_has ls 4 [(0, .ref (B + 0)), (1, .int v1), (2, .int v2)] → W p l e { frames := 5, cells := 0, slots := 0, locals := 117 } s m args below meth c H locs 0 0 (MQ below (qIw D ct B Hb V) args s 0 0 (AB B)) (F0 m 27 ls []) := by
  intro n0
  induction n0 with
  | zero =>
    intro v1 v2 S H locs ls h hP hS hl
    exact (lp_0 h).elim
  | succ n0 ih0 =>
    intro v1 v2 S H locs ls h hP hS hl
    have h := lp_s h
    exact w_X11_guard_27 l C0 n0 (fun v1 v2 S H locs ls h hP hS hl => ih0 v1 v2 S h hP hS hl) v1 v2 S h hP hS hl
set_option maxRecDepth 100000 in
set_option maxHeartbeats 4000000 in
theorem w_X11_guard_0 (l : Launch) {V : Int32 × St} (C0 : XC D ct p s m args meth c cX11_guard 4 (some .int) RX11) (v1 : Int32) (S : St) {H : Heap} {locs : List Loc} {ls : Array Slot} (h : (b_X11_guard_0 v1 S).bind some = some V) (hP : MP D ct B Hb S H) (hS : va_S (AB B) s.heap H locs) (hl : lv_has ls 4 [(0, .ref (B + 0)), (1, .int v1)]) : W p l e { frames := 5, cells := 0, slots := 0, locals := 117 } s m args below meth c H locs 0 0 (MQ below (qIw D ct B Hb V) args s 0 0 (AB B)) (F0 m 0 ls []) := by
  obtain ⟨hx, hb, hr, hml, hown, hts, hK, hlocks, hN⟩ := id C0
  unfold b_X11_guard_0 at h
  refine lv_iload_n hx hb dX11_guard_0 rfl (lv_at hl 1 rfl) ?_
  refine lv_iconst (v := 0) hx hb dX11_guard_1 (by decide) ?_
  refine lv_aload_n hx hb dX11_guard_2 rfl (lv_at hl 0 rfl) ?_
  obtain ⟨r1, hr1, h⟩ := ob_bd h
  refine n_I (kV (As := []) C0 (c_X11_everybody l hr1) ⟨wd_910, wd_907, wd_909, wp_18, wd_1⟩ kd_X11_everybody ⟨Nat.le_of_ble_eq_true rfl, Nat.le_of_ble_eq_true rfl⟩ hP (lay_X11 B ct S) rfl rfl hl.1 rfl (Nat.le_of_ble_eq_true rfl) dX11_guard_3 ⟨Nat.le_of_ble_eq_true rfl, Nat.le_of_ble_eq_true rfl⟩) hS (fun H locs hP hS => ?_)
  obtain ⟨r2, hr2, h⟩ := ob_bd h
  refine n_I (kS (As := [.int v1, .int 0, .int r1]) C0 (c_X11_isOut l v1 0 r1 hr2) ⟨wd_338, wd_347, wd_337, wd_1⟩ kd_X11_isOut ⟨Nat.le_of_ble_eq_true rfl, Nat.le_of_ble_eq_true rfl⟩ hP rfl hl.1 rfl (Nat.le_of_ble_eq_true rfl) dX11_guard_6 ⟨Nat.le_of_ble_eq_true rfl, Nat.le_of_ble_eq_true rfl⟩) hS (fun H locs hP hS => ?_)
  refine lv_if_eq (tgt := 14) hx hb dX11_guard_9 (by decide) (fun z3 => ?_) (fun z3 => ?_)
  · have h := ob_t h z3
    refine lv_aload_n hx hb dX11_guard_14 rfl (lv_at hl 0 rfl) ?_
    refine x_get C0 hP (lay_X11 B ct S) rfl inG11 1 (by decide) wd_213 (fun _ h => h) rfl dX11_guard_15 ?_
    refine lv_aload_n hx hb dX11_guard_18 rfl (lv_at hl 0 rfl) ?_
    refine x_get C0 hP (lay_X11 B ct S) rfl inG11 0 (by decide) wd_212 (fun _ h => h) rfl dX11_guard_19 ?_
    obtain ⟨r4, hr4, h⟩ := ob_bd h
    refine n_Vw (kV (As := [.ref (B + 1)]) C0 (c_X10_become l 19 1 (Or.inr (Or.inl rfl)) (Or.inl rfl) hr4) ⟨wd_490, wd_487, wd_488, wd_489, wd_2⟩ kd_X10_become ⟨Nat.le_of_ble_eq_true rfl, Nat.le_of_ble_eq_true rfl⟩ hP (lay_X10 B ct S (Or.inr (Or.inl rfl))) rfl rfl hl.1 rfl (Nat.le_of_ble_eq_true rfl) dX11_guard_22 ⟨Nat.le_of_ble_eq_true rfl, Nat.le_of_ble_eq_true rfl⟩) hS (fun H locs hP hS => ?_)
    refine lv_iconst (v := 0) hx hb dX11_guard_25 (by decide) ?_
    refine lv_istore_n (lv' := [(2, .int 0), (0, .ref (B + 0)), (1, .int v1)]) hx hb dX11_guard_26 rfl hl (by decide) rfl (fun ls hl => ?_)
    exact wl_X11_guard_27 l C0 1000 v1 0 r4 h hP hS (lv_sub hl [1, 2, 0] rfl)
  · have h := ob_f h z3
    refine lv_iconst (v := (-1)) hx hb dX11_guard_12 (by decide) ?_
    exact r_Iw C0 hP hS h dX11_guard_13
set_option maxRecDepth 100000 in
set_option maxHeartbeats 4000000 in
theorem c_X11_guard (l : Launch) (a1 : Int32) {D : va_G} {ct : Nat → ClassId} {B : Nat} {Hb : Heap} {S : St} {V : Int32 × St} (h : L_X11_guard a1 S = some V) : Met l yX11_guard (Cond.code yX11_guard cX11_guard 4 (some .int) :: tG) { frames := 5, cells := 0, slots := 0, locals := 117 } (va_Pc [.ref (B + 0), .int a1] (MPK D ct B Hb S)) (qIw D ct B Hb V) 0 0 (AB B) := by
  refine mk_met (by decide +kernel) (Nat.le_of_ble_eq_true rfl) (fun p e s m args below meth c ls C0 hP hl _ => ?_)
  have h := ob_of h
  exact w_X11_guard_0 l C0 a1 S h hP va_S.rf (lv_sub hl [0, 1] rfl)
set_option maxRecDepth 100000 in
set_option maxHeartbeats 4000000 in
theorem w_X11_law_0 (l : Launch) {V : Int32 × St} (C0 : XC D ct p s m args meth c cX11_law 3 (some .int) RX11) (v1 : Int32) (S : St) {H : Heap} {locs : List Loc} {ls : Array Slot} (h : (b_X11_law_0 v1 S).bind some = some V) (hP : MP D ct B Hb S H) (hS : va_S (AB B) s.heap H locs) (hl : lv_has ls 3 [(0, .ref (B + 0)), (1, .int v1)]) : W p l e { frames := 5, cells := 0, slots := 0, locals := 117 } s m args below meth c H locs 0 0 (MQ below (qIw D ct B Hb V) args s 0 0 (AB B)) (F0 m 0 ls []) := by
  obtain ⟨hx, hb, hr, hml, hown, hts, hK, hlocks, hN⟩ := id C0
  unfold b_X11_law_0 at h
  refine lv_iload_n hx hb dX11_law_0 rfl (lv_at hl 1 rfl) ?_
  refine lv_iconst (v := 0) hx hb dX11_law_1 (by decide) ?_
  refine lv_bipush (v := 9) hx hb dX11_law_2 (by decide) ?_
  obtain ⟨r1, hr1, h⟩ := ob_bd h
  refine n_I (kS (As := [.int v1, .int 0, .int 9]) C0 (c_X11_isOut l v1 0 9 hr1) ⟨wd_338, wd_347, wd_337, wd_1⟩ kd_X11_isOut ⟨Nat.le_of_ble_eq_true rfl, Nat.le_of_ble_eq_true rfl⟩ hP rfl hl.1 rfl (Nat.le_of_ble_eq_true rfl) dX11_law_4 ⟨Nat.le_of_ble_eq_true rfl, Nat.le_of_ble_eq_true rfl⟩) hS (fun H locs hP hS => ?_)
  refine lv_if_eq (tgt := 12) hx hb dX11_law_7 (by decide) (fun z2 => ?_) (fun z2 => ?_)
  · have h := ob_t h z2
    refine lv_aload_n hx hb dX11_law_12 rfl (lv_at hl 0 rfl) ?_
    refine x_get C0 hP (lay_X11 B ct S) rfl inG11 4 (by decide) wd_216 (fun _ h => h) rfl dX11_law_13 ?_
    refine lv_aload_n hx hb dX11_law_16 rfl (lv_at hl 0 rfl) ?_
    refine x_get C0 hP (lay_X11 B ct S) rfl inG11 0 (by decide) wd_212 (fun _ h => h) rfl dX11_law_17 ?_
    refine lv_iconst (v := (-1)) hx hb dX11_law_20 (by decide) ?_
    obtain ⟨r3, hr3, h⟩ := ob_bd h
    refine n_Vw (kV (As := [.ref (B + 1), .int ((-1))]) C0 (c_X2_run l 1 (Or.inl rfl) ((-1)) hr3) ⟨wd_624, wd_621, wd_622, wd_623, wd_4⟩ kd_X2_run ⟨Nat.le_of_ble_eq_true rfl, Nat.le_of_ble_eq_true rfl⟩ hP (lay_X2 B ct S) rfl rfl hl.1 rfl (Nat.le_of_ble_eq_true rfl) dX11_law_21 ⟨Nat.le_of_ble_eq_true rfl, Nat.le_of_ble_eq_true rfl⟩) hS (fun H locs hP hS => ?_)
    refine lv_aload_n hx hb dX11_law_24 rfl (lv_at hl 0 rfl) ?_
    refine x_get C0 hP (lay_X11 B ct r3) rfl inG11 4 (by decide) wd_216 (fun _ h => h) rfl dX11_law_25 ?_
    obtain ⟨r4, hr4, h⟩ := ob_bd h
    refine n_I (kV (As := []) C0 (c_X2_choices l hr4) ⟨wd_864, wd_861, wd_862, wd_863, wd_4⟩ kd_X2_choices ⟨Nat.le_of_ble_eq_true rfl, Nat.le_of_ble_eq_true rfl⟩ hP (lay_X2 B ct r3) rfl rfl hl.1 rfl (Nat.le_of_ble_eq_true rfl) dX11_law_28 ⟨Nat.le_of_ble_eq_true rfl, Nat.le_of_ble_eq_true rfl⟩) hS (fun H locs hP hS => ?_)
    refine lv_istore_n (lv' := [(2, .int r4), (0, .ref (B + 0)), (1, .int v1)]) hx hb dX11_law_31 rfl hl (by decide) rfl (fun ls hl => ?_)
    refine lv_aload_n hx hb dX11_law_32 rfl (lv_at hl 1 rfl) ?_
    refine x_get C0 hP (lay_X11 B ct r3) rfl inG11 1 (by decide) wd_213 (fun _ h => h) rfl dX11_law_33 ?_
    refine lv_aload_n hx hb dX11_law_36 rfl (lv_at hl 1 rfl) ?_
    refine x_get C0 hP (lay_X11 B ct r3) rfl inG11 0 (by decide) wd_212 (fun _ h => h) rfl dX11_law_37 ?_
    obtain ⟨r5, hr5, h⟩ := ob_bd h
    refine n_Vw (kV (As := [.ref (B + 1)]) C0 (c_X10_become l 19 1 (Or.inr (Or.inl rfl)) (Or.inl rfl) hr5) ⟨wd_490, wd_487, wd_488, wd_489, wd_2⟩ kd_X10_become ⟨Nat.le_of_ble_eq_true rfl, Nat.le_of_ble_eq_true rfl⟩ hP (lay_X10 B ct r3 (Or.inr (Or.inl rfl))) rfl rfl hl.1 rfl (Nat.le_of_ble_eq_true rfl) dX11_law_40 ⟨Nat.le_of_ble_eq_true rfl, Nat.le_of_ble_eq_true rfl⟩) hS (fun H locs hP hS => ?_)
    refine lv_aload_n hx hb dX11_law_43 rfl (lv_at hl 1 rfl) ?_
    refine x_get C0 hP (lay_X11 B ct r5) rfl inG11 1 (by decide) wd_213 (fun _ h => h) rfl dX11_law_44 ?_
    refine x_get C0 hP (lay_X10 B ct r5 (Or.inr (Or.inl rfl))) rfl inG10 18 (by decide) wd_102 (fun _ h => h) rfl dX11_law_47 ?_
    refine lv_iconst (v := 1) hx hb dX11_law_50 (by decide) ?_
    refine lv_iload_n hx hb dX11_law_51 rfl (lv_at hl 2 rfl) ?_
    obtain ⟨g6, h⟩ := ob_gd h
    obtain ⟨S7, eS7, h⟩ := ob_nm h
    refine x_iast C0 hP hS (fun S => lay_t17 B ct S (Or.inr (Or.inl rfl))) g6 dX11_law_52 (fun H locs hP hS => ?_)
    rw [← eS7] at hP
    refine lv_aload_n hx hb dX11_law_53 rfl (lv_at hl 1 rfl) ?_
    refine x_get C0 hP (lay_X11 B ct S7) rfl inG11 4 (by decide) wd_216 (fun _ h => h) rfl dX11_law_54 ?_
    refine lv_aload_n hx hb dX11_law_57 rfl (lv_at hl 1 rfl) ?_
    refine x_get C0 hP (lay_X11 B ct S7) rfl inG11 1 (by decide) wd_213 (fun _ h => h) rfl dX11_law_58 ?_
    refine lv_iconst (v := (-1)) hx hb dX11_law_61 (by decide) ?_
    obtain ⟨r8, hr8, h⟩ := ob_bd h
    refine n_Vw (kV (As := [.ref (B + 19), .int ((-1))]) C0 (c_X2_run l 19 (Or.inr (Or.inl rfl)) ((-1)) hr8) ⟨wd_624, wd_621, wd_622, wd_623, wd_4⟩ kd_X2_run ⟨Nat.le_of_ble_eq_true rfl, Nat.le_of_ble_eq_true rfl⟩ hP (lay_X2 B ct S7) rfl rfl hl.1 rfl (Nat.le_of_ble_eq_true rfl) dX11_law_62 ⟨Nat.le_of_ble_eq_true rfl, Nat.le_of_ble_eq_true rfl⟩) hS (fun H locs hP hS => ?_)
    refine lv_iload_n hx hb dX11_law_65 rfl (lv_at hl 0 rfl) ?_
    refine lv_aload_n hx hb dX11_law_66 rfl (lv_at hl 1 rfl) ?_
    refine x_get C0 hP (lay_X11 B ct r8) rfl inG11 4 (by decide) wd_216 (fun _ h => h) rfl dX11_law_67 ?_
    obtain ⟨r9, hr9, h⟩ := ob_bd h
    refine n_I (kV (As := []) C0 (c_X2_choices l hr9) ⟨wd_864, wd_861, wd_862, wd_863, wd_4⟩ kd_X2_choices ⟨Nat.le_of_ble_eq_true rfl, Nat.le_of_ble_eq_true rfl⟩ hP (lay_X2 B ct r8) rfl rfl hl.1 rfl (Nat.le_of_ble_eq_true rfl) dX11_law_70 ⟨Nat.le_of_ble_eq_true rfl, Nat.le_of_ble_eq_true rfl⟩) hS (fun H locs hP hS => ?_)
    obtain ⟨r10, hr10, h⟩ := ob_bd h
    refine n_I (kS (As := [.int r4, .int r9]) C0 (c_X11_whoDiffers l r4 r9 hr10) ⟨wd_867, wd_865, wd_866, wd_1⟩ kd_X11_whoDiffers ⟨Nat.le_of_ble_eq_true rfl, Nat.le_of_ble_eq_true rfl⟩ hP rfl hl.1 rfl (Nat.le_of_ble_eq_true rfl) dX11_law_73 ⟨Nat.le_of_ble_eq_true rfl, Nat.le_of_ble_eq_true rfl⟩) hS (fun H locs hP hS => ?_)
    obtain ⟨r11, hr11, h⟩ := ob_bd h
    refine n_I (kS (As := [.int r10]) C0 (c_J6_bitCount_0f7a4 l r10 hr11) ⟨wd_870, wd_868, wd_869, wd_19⟩ kd_J6_bitCount_0f7a4 ⟨Nat.le_of_ble_eq_true rfl, Nat.le_of_ble_eq_true rfl⟩ hP rfl hl.1 rfl (Nat.le_of_ble_eq_true rfl) dX11_law_76 ⟨Nat.le_of_ble_eq_true rfl, Nat.le_of_ble_eq_true rfl⟩) hS (fun H locs hP hS => ?_)
    exact r_Iw C0 hP hS h dX11_law_79
  · have h := ob_f h z2
    refine lv_iconst (v := (-1)) hx hb dX11_law_10 (by decide) ?_
    exact r_Iw C0 hP hS h dX11_law_11
set_option maxRecDepth 100000 in
set_option maxHeartbeats 4000000 in
theorem c_X11_law (l : Launch) (a1 : Int32) {D : va_G} {ct : Nat → ClassId} {B : Nat} {Hb : Heap} {S : St} {V : Int32 × St} (h : L_X11_law a1 S = some V) : Met l yX11_law (Cond.code yX11_law cX11_law 3 (some .int) :: tG) { frames := 5, cells := 0, slots := 0, locals := 117 } (va_Pc [.ref (B + 0), .int a1] (MPK D ct B Hb S)) (qIw D ct B Hb V) 0 0 (AB B) := by
  refine mk_met (by decide +kernel) (Nat.le_of_ble_eq_true rfl) (fun p e s m args below meth c ls C0 hP hl _ => ?_)
  have h := ob_of h
  exact w_X11_law_0 l C0 a1 S h hP va_S.rf (lv_sub hl [0, 1] rfl)
set_option maxRecDepth 100000 in
set_option maxHeartbeats 4000000 in
theorem w_X11_purse_56 (l : Launch) {V : Int32 × St} (C0 : XC D ct p s m args meth c cX11_purse 4 (some .int) RX11) (n0 : Nat) (ih0 : ∀ (v1 : Int32) (v2 : Int32) (v3 : Int32) (S : St) (H : Heap) (locs : List Loc) (ls : Array Slot), (lp n0 (l_X11_purse_56) (v1, v2, v3, S)).bind some = some V → MP D ct B Hb S H → va_S (AB B) s.heap H locs → lv_has ls 4 [(0, .ref (B + 0)), (1, .int v1), (2, .int v2), (3, .int v3)] → W p l e { frames := 5, cells := 0, slots := 0, locals := 117 } s m args below meth c H locs 0 0 (MQ below (qIw D ct B Hb V) args s 0 0 (AB B)) (F0 m 56 ls [])) (v1 : Int32) (v2 : Int32) (v3 : Int32) (S : St) {H : Heap} {locs : List Loc} {ls : Array Slot} (h : (b_X11_purse_56 v1 v2 v3 S).bind (lpF n0 (l_X11_purse_56) some) = some V) (hP : MP D ct B Hb S H) (hS : va_S (AB B) s.heap H locs) (hl : lv_has ls 4 [(0, .ref (B + 0)), (1, .int v1), (2, .int v2), (3, .int v3)]) : W p l e { frames := 5, cells := 0, slots := 0, locals := 117 } s m args below meth c H locs 0 0 (MQ below (qIw D ct B Hb V) args s 0 0 (AB B)) (F0 m 56 ls []) := by
  obtain ⟨hx, hb, hr, hml, hown, hts, hK, hlocks, hN⟩ := id C0
  unfold b_X11_purse_56 at h
  refine lv_iload_n hx hb dX11_purse_56 rfl (lv_at hl 3 rfl) ?_
  refine lv_bipush (v := 99) hx hb dX11_purse_57 (by decide) ?_
  refine lv_icmp_ge (tgt := 105) hx hb dX11_purse_59 (by decide) (fun z1 => ?_) (fun z1 => ?_)
  · have h := ob_t h z1
    refine lv_bipush (v := 99) hx hb dX11_purse_105 (by decide) ?_
    exact r_Iw C0 hP hS h dX11_purse_107
  · have h := ob_f h z1
    refine lv_aload_n hx hb dX11_purse_62 rfl (lv_at hl 0 rfl) ?_
    refine x_get C0 hP (lay_X11 B ct S) rfl inG11 1 (by decide) wd_213 (fun _ h => h) rfl dX11_purse_63 ?_
    refine x_get C0 hP (lay_X10 B ct S (Or.inr (Or.inl rfl))) rfl inG10 5 (by decide) wd_75 (fun _ h => h) rfl dX11_purse_66 ?_
    refine lv_iload_n hx hb dX11_purse_69 rfl (lv_at hl 1 rfl) ?_
    refine lv_iload_n hx hb dX11_purse_70 rfl (lv_at hl 3 rfl) ?_
    obtain ⟨g2, h⟩ := ob_gd h
    obtain ⟨S3, eS3, h⟩ := ob_nm h
    refine x_iast C0 hP hS (fun S => lay_t6 B ct S (Or.inr (Or.inl rfl))) g2 dX11_purse_71 (fun H locs hP hS => ?_)
    rw [← eS3] at hP
    refine lv_aload_n hx hb dX11_purse_72 rfl (lv_at hl 0 rfl) ?_
    refine x_get C0 hP (lay_X11 B ct S3) rfl inG11 4 (by decide) wd_216 (fun _ h => h) rfl dX11_purse_73 ?_
    refine lv_aload_n hx hb dX11_purse_76 rfl (lv_at hl 0 rfl) ?_
    refine x_get C0 hP (lay_X11 B ct S3) rfl inG11 1 (by decide) wd_213 (fun _ h => h) rfl dX11_purse_77 ?_
    refine lv_iconst (v := (-1)) hx hb dX11_purse_80 (by decide) ?_
    obtain ⟨r4, hr4, h⟩ := ob_bd h
    refine n_Vw (kV (As := [.ref (B + 19), .int ((-1))]) C0 (c_X2_run l 19 (Or.inr (Or.inl rfl)) ((-1)) hr4) ⟨wd_624, wd_621, wd_622, wd_623, wd_4⟩ kd_X2_run ⟨Nat.le_of_ble_eq_true rfl, Nat.le_of_ble_eq_true rfl⟩ hP (lay_X2 B ct S3) rfl rfl hl.1 rfl (Nat.le_of_ble_eq_true rfl) dX11_purse_81 ⟨Nat.le_of_ble_eq_true rfl, Nat.le_of_ble_eq_true rfl⟩) hS (fun H locs hP hS => ?_)
    refine lv_aload_n hx hb dX11_purse_84 rfl (lv_at hl 0 rfl) ?_
    refine x_get C0 hP (lay_X11 B ct r4) rfl inG11 4 (by decide) wd_216 (fun _ h => h) rfl dX11_purse_85 ?_
    refine x_get C0 hP (lay_X2 B ct r4) rfl inG2 4 (by decide) wd_155 (fun _ h => h) rfl dX11_purse_88 ?_
    refine lv_iload_n hx hb dX11_purse_91 rfl (lv_at hl 1 rfl) ?_
    obtain ⟨g5, h⟩ := ob_gd h
    refine x_iald C0 hP ((fun S => lay_58 B ct S) r4) g5 dX11_purse_92 ?_
    refine lv_iload_n hx hb dX11_purse_93 rfl (lv_at hl 2 rfl) ?_
    refine lv_icmp_ne (tgt := 99) hx hb dX11_purse_94 (by decide) (fun z6 => ?_) (fun z6 => ?_)
    · have h := ob_f h z6
      refine lv_iinc (v := v3 + 1) (lv' := [(3, .int (v3 + 1)), (0, .ref (B + 0)), (1, .int v1), (2, .int v2)]) hx hb dX11_purse_99 hl (k := 3) rfl rfl (by decide) rfl (fun ls hl => ?_)
      refine lv_goto (tgt := 56) hx hb dX11_purse_102 (by decide) ?_
      exact ih0 v1 v2 (v3 + 1) r4 _ _ _ h hP hS (lv_sub hl [1, 2, 3, 0] rfl)
    · have h := ob_t h z6
      refine lv_iload_n hx hb dX11_purse_97 rfl (lv_at hl 3 rfl) ?_
      exact r_Iw C0 hP hS h dX11_purse_98
set_option maxRecDepth 100000 in
set_option maxHeartbeats 4000000 in
theorem wl_X11_purse_56 (l : Launch) {V : Int32 × St} (C0 : XC D ct p s m args meth c cX11_purse 4 (some .int) RX11)  : ∀ (n0 : Nat) (v1 : Int32) (v2 : Int32) (v3 : Int32) (S : St) {H : Heap} {locs : List Loc} {ls : Array Slot}, (lp n0 (l_X11_purse_56) (v1, v2, v3, S)).bind some = some V → MP D ct B Hb S H → va_S (AB B) s.heap H locs → lv_has ls 4 [(0, .ref (B + 0)), (1, .int v1), (2, .int v2), (3, .int v3)] → W p l e { frames := 5, cells := 0, slots := 0, locals := 117 } s m args below meth c H locs 0 0 (MQ below (qIw D ct B Hb V) args s 0 0 (AB B)) (F0 m 56 ls []) := by
  intro n0
  induction n0 with
  | zero =>
    intro v1 v2 v3 S H locs ls h hP hS hl
    exact (lp_0 h).elim
  | succ n0 ih0 =>
    intro v1 v2 v3 S H locs ls h hP hS hl
    have h := lp_s h
    exact w_X11_purse_56 l C0 n0 (fun v1 v2 v3 S H locs ls h hP hS hl => ih0 v1 v2 v3 S h hP hS hl) v1 v2 v3 S h hP hS hl
set_option maxRecDepth 100000 in
set_option maxHeartbeats 4000000 in
theorem w_X11_purse_0 (l : Launch) {V : Int32 × St} (C0 : XC D ct p s m args meth c cX11_purse 4 (some .int) RX11) (v1 : Int32) (S : St) {H : Heap} {locs : List Loc} {ls : Array Slot} (h : (b_X11_purse_0 v1 S).bind some = some V) (hP : MP D ct B Hb S H) (hS : va_S (AB B) s.heap H locs) (hl : lv_has ls 4 [(0, .ref (B + 0)), (1, .int v1)]) : W p l e { frames := 5, cells := 0, slots := 0, locals := 117 } s m args below meth c H locs 0 0 (MQ below (qIw D ct B Hb V) args s 0 0 (AB B)) (F0 m 0 ls []) := by
  obtain ⟨hx, hb, hr, hml, hown, hts, hK, hlocks, hN⟩ := id C0
  unfold b_X11_purse_0 at h
  refine lv_aload_n hx hb dX11_purse_0 rfl (lv_at hl 0 rfl) ?_
  refine lv_iload_n hx hb dX11_purse_1 rfl (lv_at hl 1 rfl) ?_
  obtain ⟨r1, hr1, h⟩ := ob_bd h
  refine n_I (kV (As := [.int v1]) C0 (c_X11_isNobody l v1 hr1) ⟨wd_620, wd_617, wd_619, wp_6, wd_1⟩ kd_X11_isNobody ⟨Nat.le_of_ble_eq_true rfl, Nat.le_of_ble_eq_true rfl⟩ hP (lay_X11 B ct S) rfl rfl hl.1 rfl (Nat.le_of_ble_eq_true rfl) dX11_purse_2 ⟨Nat.le_of_ble_eq_true rfl, Nat.le_of_ble_eq_true rfl⟩) hS (fun H locs hP hS => ?_)
  refine lv_if_eq (tgt := 10) hx hb dX11_purse_5 (by decide) (fun z2 => ?_) (fun z2 => ?_)
  · have h := ob_t h z2
    refine lv_aload_n hx hb dX11_purse_10 rfl (lv_at hl 0 rfl) ?_
    refine x_get C0 hP (lay_X11 B ct S) rfl inG11 1 (by decide) wd_213 (fun _ h => h) rfl dX11_purse_11 ?_
    refine lv_aload_n hx hb dX11_purse_14 rfl (lv_at hl 0 rfl) ?_
    refine x_get C0 hP (lay_X11 B ct S) rfl inG11 0 (by decide) wd_212 (fun _ h => h) rfl dX11_purse_15 ?_
    obtain ⟨r3, hr3, h⟩ := ob_bd h
    refine n_Vw (kV (As := [.ref (B + 1)]) C0 (c_X10_become l 19 1 (Or.inr (Or.inl rfl)) (Or.inl rfl) hr3) ⟨wd_490, wd_487, wd_488, wd_489, wd_2⟩ kd_X10_become ⟨Nat.le_of_ble_eq_true rfl, Nat.le_of_ble_eq_true rfl⟩ hP (lay_X10 B ct S (Or.inr (Or.inl rfl))) rfl rfl hl.1 rfl (Nat.le_of_ble_eq_true rfl) dX11_purse_18 ⟨Nat.le_of_ble_eq_true rfl, Nat.le_of_ble_eq_true rfl⟩) hS (fun H locs hP hS => ?_)
    refine lv_aload_n hx hb dX11_purse_21 rfl (lv_at hl 0 rfl) ?_
    refine x_get C0 hP (lay_X11 B ct r3) rfl inG11 1 (by decide) wd_213 (fun _ h => h) rfl dX11_purse_22 ?_
    refine x_get C0 hP (lay_X10 B ct r3 (Or.inr (Or.inl rfl))) rfl inG10 5 (by decide) wd_75 (fun _ h => h) rfl dX11_purse_25 ?_
    refine lv_iload_n hx hb dX11_purse_28 rfl (lv_at hl 1 rfl) ?_
    refine lv_bipush (v := 99) hx hb dX11_purse_29 (by decide) ?_
    obtain ⟨g4, h⟩ := ob_gd h
    obtain ⟨S5, eS5, h⟩ := ob_nm h
    refine x_iast C0 hP hS (fun S => lay_t6 B ct S (Or.inr (Or.inl rfl))) g4 dX11_purse_31 (fun H locs hP hS => ?_)
    rw [← eS5] at hP
    refine lv_aload_n hx hb dX11_purse_32 rfl (lv_at hl 0 rfl) ?_
    refine x_get C0 hP (lay_X11 B ct S5) rfl inG11 4 (by decide) wd_216 (fun _ h => h) rfl dX11_purse_33 ?_
    refine lv_aload_n hx hb dX11_purse_36 rfl (lv_at hl 0 rfl) ?_
    refine x_get C0 hP (lay_X11 B ct S5) rfl inG11 1 (by decide) wd_213 (fun _ h => h) rfl dX11_purse_37 ?_
    refine lv_iconst (v := (-1)) hx hb dX11_purse_40 (by decide) ?_
    obtain ⟨r6, hr6, h⟩ := ob_bd h
    refine n_Vw (kV (As := [.ref (B + 19), .int ((-1))]) C0 (c_X2_run l 19 (Or.inr (Or.inl rfl)) ((-1)) hr6) ⟨wd_624, wd_621, wd_622, wd_623, wd_4⟩ kd_X2_run ⟨Nat.le_of_ble_eq_true rfl, Nat.le_of_ble_eq_true rfl⟩ hP (lay_X2 B ct S5) rfl rfl hl.1 rfl (Nat.le_of_ble_eq_true rfl) dX11_purse_41 ⟨Nat.le_of_ble_eq_true rfl, Nat.le_of_ble_eq_true rfl⟩) hS (fun H locs hP hS => ?_)
    refine lv_aload_n hx hb dX11_purse_44 rfl (lv_at hl 0 rfl) ?_
    refine x_get C0 hP (lay_X11 B ct r6) rfl inG11 4 (by decide) wd_216 (fun _ h => h) rfl dX11_purse_45 ?_
    refine x_get C0 hP (lay_X2 B ct r6) rfl inG2 4 (by decide) wd_155 (fun _ h => h) rfl dX11_purse_48 ?_
    refine lv_iload_n hx hb dX11_purse_51 rfl (lv_at hl 1 rfl) ?_
    obtain ⟨g7, h⟩ := ob_gd h
    refine x_iald C0 hP ((fun S => lay_58 B ct S) r6) g7 dX11_purse_52 ?_
    refine lv_istore_n (lv' := [(2, .int (gi r6 58 v1.toNatClampNeg)), (0, .ref (B + 0)), (1, .int v1)]) hx hb dX11_purse_53 rfl hl (by decide) rfl (fun ls hl => ?_)
    refine lv_iconst (v := 0) hx hb dX11_purse_54 (by decide) ?_
    refine lv_istore_n (lv' := [(3, .int 0), (2, .int (gi r6 58 v1.toNatClampNeg)), (0, .ref (B + 0)), (1, .int v1)]) hx hb dX11_purse_55 rfl hl (by decide) rfl (fun ls hl => ?_)
    exact wl_X11_purse_56 l C0 1000 v1 (gi r6 58 v1.toNatClampNeg) 0 r6 h hP hS (lv_sub hl [2, 3, 1, 0] rfl)
  · have h := ob_f h z2
    refine lv_iconst (v := (-1)) hx hb dX11_purse_8 (by decide) ?_
    exact r_Iw C0 hP hS h dX11_purse_9
set_option maxRecDepth 100000 in
set_option maxHeartbeats 4000000 in
theorem c_X11_purse (l : Launch) (a1 : Int32) {D : va_G} {ct : Nat → ClassId} {B : Nat} {Hb : Heap} {S : St} {V : Int32 × St} (h : L_X11_purse a1 S = some V) : Met l yX11_purse (Cond.code yX11_purse cX11_purse 4 (some .int) :: tG) { frames := 5, cells := 0, slots := 0, locals := 117 } (va_Pc [.ref (B + 0), .int a1] (MPK D ct B Hb S)) (qIw D ct B Hb V) 0 0 (AB B) := by
  refine mk_met (by decide +kernel) (Nat.le_of_ble_eq_true rfl) (fun p e s m args below meth c ls C0 hP hl _ => ?_)
  have h := ob_of h
  exact w_X11_purse_0 l C0 a1 S h hP va_S.rf (lv_sub hl [0, 1] rfl)
set_option maxRecDepth 100000 in
set_option maxHeartbeats 4000000 in
theorem w_X11_dayBegunAlike_59 (l : Launch) {V : Int32} (C0 : XC D ct p s m args meth c cX11_dayBegunAlike 5 (some .int) RX11) (v1 : Int32) (v2 : Int32) (v3 : Int32) (S : St) (n0 : Nat) (ih0 : ∀ (v1 : Int32) (v2 : Int32) (H : Heap) (locs : List Loc) (ls : Array Slot), (lp n0 (l_X11_dayBegunAlike_2 S) (v1, v2)).bind some = some V → MP D ct B Hb S H → va_S (AB B) s.heap H locs → lv_has ls 5 [(0, .ref (B + 0)), (1, .int v1), (2, .int v2)] → W p l e { frames := 0, cells := 0, slots := 0, locals := 0 } s m args below meth c H locs 0 0 (MQ below (qI D ct B Hb S V) args s 0 0 (AB B)) (F0 m 2 ls [])) {H : Heap} {locs : List Loc} {ls : Array Slot} (h : (b_X11_dayBegunAlike_59 v1 v2 v3 S).bind (lpF n0 (l_X11_dayBegunAlike_2 S) some) = some V) (hP : MP D ct B Hb S H) (hS : va_S (AB B) s.heap H locs) (hl : lv_has ls 5 [(0, .ref (B + 0)), (1, .int v1), (2, .int v2), (3, .int v3)]) : W p l e { frames := 0, cells := 0, slots := 0, locals := 0 } s m args below meth c H locs 0 0 (MQ below (qI D ct B Hb S V) args s 0 0 (AB B)) (F0 m 59 ls []) := by
  obtain ⟨hx, hb, hr, hml, hown, hts, hK, hlocks, hN⟩ := id C0
  unfold b_X11_dayBegunAlike_59 at h
  refine lv_iload_n hx hb dX11_dayBegunAlike_59 rfl (lv_at hl 3 rfl) ?_
  refine lv_if_eq (tgt := 65) hx hb dX11_dayBegunAlike_60 (by decide) (fun z1 => ?_) (fun z1 => ?_)
  · have h := ob_t h z1
    refine lv_iinc (v := v2 + 1) (lv' := [(2, .int (v2 + 1)), (0, .ref (B + 0)), (1, .int v1), (3, .int v3)]) hx hb dX11_dayBegunAlike_65 hl (k := 2) rfl rfl (by decide) rfl (fun ls hl => ?_)
    refine lv_goto (tgt := 2) hx hb dX11_dayBegunAlike_68 (by decide) ?_
    exact ih0 v1 (v2 + 1) _ _ _ h hP hS (lv_sub hl [1, 2, 0] rfl)
  · have h := ob_f h z1
    refine lv_iload_n hx hb dX11_dayBegunAlike_63 rfl (lv_at hl 2 rfl) ?_
    exact r_I C0 hP hS h dX11_dayBegunAlike_64
set_option maxRecDepth 100000 in
set_option maxHeartbeats 4000000 in
theorem w_X11_dayBegunAlike_51 (l : Launch) {V : Int32} (C0 : XC D ct p s m args meth c cX11_dayBegunAlike 5 (some .int) RX11) (v1 : Int32) (v2 : Int32) (v4 : Int32) (s0 : Int32) (s1 : Int32) (S : St) (n0 : Nat) (ih0 : ∀ (v1 : Int32) (v2 : Int32) (H : Heap) (locs : List Loc) (ls : Array Slot), (lp n0 (l_X11_dayBegunAlike_2 S) (v1, v2)).bind some = some V → MP D ct B Hb S H → va_S (AB B) s.heap H locs → lv_has ls 5 [(0, .ref (B + 0)), (1, .int v1), (2, .int v2)] → W p l e { frames := 0, cells := 0, slots := 0, locals := 0 } s m args below meth c H locs 0 0 (MQ below (qI D ct B Hb S V) args s 0 0 (AB B)) (F0 m 2 ls [])) (n1 : Nat) (ih1 : ∀ (v1 : Int32) (v2 : Int32) (v3 : Int32) (v4 : Int32) (H : Heap) (locs : List Loc) (ls : Array Slot), (lp n1 (l_X11_dayBegunAlike_12 S) (v1, v2, v3, v4)).bind (lpF n0 (l_X11_dayBegunAlike_2 S) some) = some V → MP D ct B Hb S H → va_S (AB B) s.heap H locs → lv_has ls 5 [(0, .ref (B + 0)), (1, .int v1), (2, .int v2), (3, .int v3), (4, .int v4)] → W p l e { frames := 0, cells := 0, slots := 0, locals := 0 } s m args below meth c H locs 0 0 (MQ below (qI D ct B Hb S V) args s 0 0 (AB B)) (F0 m 12 ls [])) {H : Heap} {locs : List Loc} {ls : Array Slot} (h : (b_X11_dayBegunAlike_51 v1 v2 v4 s0 s1 S).bind (lpF n1 (l_X11_dayBegunAlike_12 S) (lpF n0 (l_X11_dayBegunAlike_2 S) some)) = some V) (hP : MP D ct B Hb S H) (hS : va_S (AB B) s.heap H locs) (hl : lv_has ls 5 [(0, .ref (B + 0)), (1, .int v1), (2, .int v2), (4, .int v4)]) : W p l e { frames := 0, cells := 0, slots := 0, locals := 0 } s m args below meth c H locs 0 0 (MQ below (qI D ct B Hb S V) args s 0 0 (AB B)) (F0 m 51 ls [.int s0, .int s1]) := by
  obtain ⟨hx, hb, hr, hml, hown, hts, hK, hlocks, hN⟩ := id C0
  unfold b_X11_dayBegunAlike_51 at h
  refine lv_iand hx hb dX11_dayBegunAlike_51 ?_
  refine lv_istore_n (lv' := [(3, .int (s1 &&& s0)), (0, .ref (B + 0)), (1, .int v1), (2, .int v2), (4, .int v4)]) hx hb dX11_dayBegunAlike_52 rfl hl (by decide) rfl (fun ls hl => ?_)
  refine lv_iinc (v := v4 + 1) (lv' := [(4, .int (v4 + 1)), (3, .int (s1 &&& s0)), (0, .ref (B + 0)), (1, .int v1), (2, .int v2)]) hx hb dX11_dayBegunAlike_53 hl (k := 4) rfl rfl (by decide) rfl (fun ls hl => ?_)
  refine lv_goto (tgt := 12) hx hb dX11_dayBegunAlike_56 (by decide) ?_
  exact ih1 v1 v2 (s1 &&& s0) (v4 + 1) _ _ _ h hP hS (lv_sub hl [2, 3, 4, 1, 0] rfl)
set_option maxRecDepth 100000 in
set_option maxHeartbeats 4000000 in
theorem w_X11_dayBegunAlike_12 (l : Launch) {V : Int32} (C0 : XC D ct p s m args meth c cX11_dayBegunAlike 5 (some .int) RX11) (v1 : Int32) (v2 : Int32) (v3 : Int32) (v4 : Int32) (S : St) (n0 : Nat) (ih0 : ∀ (v1 : Int32) (v2 : Int32) (H : Heap) (locs : List Loc) (ls : Array Slot), (lp n0 (l_X11_dayBegunAlike_2 S) (v1, v2)).bind some = some V → MP D ct B Hb S H → va_S (AB B) s.heap H locs → lv_has ls 5 [(0, .ref (B + 0)), (1, .int v1), (2, .int v2)] → W p l e { frames := 0, cells := 0, slots := 0, locals := 0 } s m args below meth c H locs 0 0 (MQ below (qI D ct B Hb S V) args s 0 0 (AB B)) (F0 m 2 ls [])) (n1 : Nat) (ih1 : ∀ (v1 : Int32) (v2 : Int32) (v3 : Int32) (v4 : Int32) (H : Heap) (locs : List Loc) (ls : Array Slot), (lp n1 (l_X11_dayBegunAlike_12 S) (v1, v2, v3, v4)).bind (lpF n0 (l_X11_dayBegunAlike_2 S) some) = some V → MP D ct B Hb S H → va_S (AB B) s.heap H locs → lv_has ls 5 [(0, .ref (B + 0)), (1, .int v1), (2, .int v2), (3, .int v3), (4, .int v4)] → W p l e { frames := 0, cells := 0, slots := 0, locals := 0 } s m args below meth c H locs 0 0 (MQ below (qI D ct B Hb S V) args s 0 0 (AB B)) (F0 m 12 ls [])) {H : Heap} {locs : List Loc} {ls : Array Slot} (h : (b_X11_dayBegunAlike_12 v1 v2 v3 v4 S).bind (lpF n1 (l_X11_dayBegunAlike_12 S) (lpF n0 (l_X11_dayBegunAlike_2 S) some)) = some V) (hP : MP D ct B Hb S H) (hS : va_S (AB B) s.heap H locs) (hl : lv_has ls 5 [(0, .ref (B + 0)), (1, .int v1), (2, .int v2), (3, .int v3), (4, .int v4)]) : W p l e { frames := 0, cells := 0, slots := 0, locals := 0 } s m args below meth c H locs 0 0 (MQ below (qI D ct B Hb S V) args s 0 0 (AB B)) (F0 m 12 ls []) := by
  obtain ⟨hx, hb, hr, hml, hown, hts, hK, hlocks, hN⟩ := id C0
  unfold b_X11_dayBegunAlike_12 at h
  refine lv_iload hx hb dX11_dayBegunAlike_12 (lv_at hl 4 rfl) ?_
  refine lv_aload_n hx hb dX11_dayBegunAlike_14 rfl (lv_at hl 0 rfl) ?_
  refine x_get C0 hP (lay_X11 B ct S) rfl inG11 1 (by decide) wd_213 (fun _ h => h) rfl dX11_dayBegunAlike_15 ?_
  refine x_get C0 hP (lay_X10 B ct S (Or.inr (Or.inl rfl))) rfl inG10 0 (by decide) wd_61 (fun _ h => h) rfl dX11_dayBegunAlike_18 ?_
  refine lv_icmp_ge (tgt := 59) hx hb dX11_dayBegunAlike_21 (by decide) (fun z1 => ?_) (fun z1 => ?_)
  · have h := ob_t h z1
    have h := ob_mp h
    exact w_X11_dayBegunAlike_59 l C0 v1 v2 v3 S n0 ih0 h hP hS (lv_sub hl [0, 1, 2, 3] rfl)
  · have h := ob_f h z1
    refine lv_iload_n hx hb dX11_dayBegunAlike_24 rfl (lv_at hl 3 rfl) ?_
    refine lv_aload_n hx hb dX11_dayBegunAlike_25 rfl (lv_at hl 0 rfl) ?_
    refine x_get C0 hP (lay_X11 B ct S) rfl inG11 8 (by decide) wd_220 (fun _ h => h) rfl dX11_dayBegunAlike_26 ?_
    refine lv_iload_n hx hb dX11_dayBegunAlike_29 rfl (lv_at hl 2 rfl) ?_
    obtain ⟨g2, h⟩ := ob_gd h
    refine x_aald (v := .ref (B + (87 + 1 * v2.toNatClampNeg))) C0 hP (lay_86 B ct S) rfl rfl g2 rfl dX11_dayBegunAlike_30 ?_
    refine lv_iload hx hb dX11_dayBegunAlike_31 (lv_at hl 4 rfl) ?_
    obtain ⟨g3, h⟩ := ob_gd h
    refine x_iald C0 hP ((fun S => lay_beg B ct S (inb_lt g2)) S) g3 dX11_dayBegunAlike_33 ?_
    refine lv_aload_n hx hb dX11_dayBegunAlike_34 rfl (lv_at hl 0 rfl) ?_
    refine x_get C0 hP (lay_X11 B ct S) rfl inG11 8 (by decide) wd_220 (fun _ h => h) rfl dX11_dayBegunAlike_35 ?_
    refine lv_iload_n hx hb dX11_dayBegunAlike_38 rfl (lv_at hl 1 rfl) ?_
    obtain ⟨g4, h⟩ := ob_gd h
    refine x_aald (v := .ref (B + (87 + 1 * v1.toNatClampNeg))) C0 hP (lay_86 B ct S) rfl rfl g4 rfl dX11_dayBegunAlike_39 ?_
    refine lv_iload hx hb dX11_dayBegunAlike_40 (lv_at hl 4 rfl) ?_
    obtain ⟨g5, h⟩ := ob_gd h
    refine x_iald C0 hP ((fun S => lay_beg B ct S (inb_lt g4)) S) g5 dX11_dayBegunAlike_42 ?_
    refine lv_icmp_ne (tgt := 50) hx hb dX11_dayBegunAlike_43 (by decide) (fun z6 => ?_) (fun z6 => ?_)
    · have h := ob_f h z6
      refine lv_iconst (v := 0) hx hb dX11_dayBegunAlike_50 (by decide) ?_
      exact w_X11_dayBegunAlike_51 l C0 v1 v2 v4 0 v3 S n0 ih0 n1 ih1 h hP hS (lv_sub hl [0, 1, 2, 4] rfl)
    · have h := ob_t h z6
      refine lv_iconst (v := 1) hx hb dX11_dayBegunAlike_46 (by decide) ?_
      refine lv_goto (tgt := 51) hx hb dX11_dayBegunAlike_47 (by decide) ?_
      exact w_X11_dayBegunAlike_51 l C0 v1 v2 v4 1 v3 S n0 ih0 n1 ih1 h hP hS (lv_sub hl [0, 1, 2, 4] rfl)
set_option maxRecDepth 100000 in
set_option maxHeartbeats 4000000 in
theorem wl_X11_dayBegunAlike_12 (l : Launch) {V : Int32} (C0 : XC D ct p s m args meth c cX11_dayBegunAlike 5 (some .int) RX11) (S : St) (n0 : Nat) (ih0 : ∀ (v1 : Int32) (v2 : Int32) (H : Heap) (locs : List Loc) (ls : Array Slot), (lp n0 (l_X11_dayBegunAlike_2 S) (v1, v2)).bind some = some V → MP D ct B Hb S H → va_S (AB B) s.heap H locs → lv_has ls 5 [(0, .ref (B + 0)), (1, .int v1), (2, .int v2)] → W p l e { frames := 0, cells := 0, slots := 0, locals := 0 } s m args below meth c H locs 0 0 (MQ below (qI D ct B Hb S V) args s 0 0 (AB B)) (F0 m 2 ls []))  : ∀ (n1 : Nat) (v1 : Int32) (v2 : Int32) (v3 : Int32) (v4 : Int32) {H : Heap} {locs : List Loc} {ls : Array Slot}, (lp n1 (l_X11_dayBegunAlike_12 S) (v1, v2, v3, v4)).bind (lpF n0 (l_X11_dayBegunAlike_2 S) some) = some V → MP D ct B Hb S H → va_S (AB B) s.heap H locs → lv_has ls 5 [(0, .ref (B + 0)), (1, .int v1), (2, .int v2), (3, .int v3), (4, .int v4)] → W p l e { frames := 0, cells := 0, slots := 0, locals := 0 } s m args below meth c H locs 0 0 (MQ below (qI D ct B Hb S V) args s 0 0 (AB B)) (F0 m 12 ls []) := by
  intro n1
  induction n1 with
  | zero =>
    intro v1 v2 v3 v4 H locs ls h hP hS hl
    exact (lp_0 h).elim
  | succ n1 ih1 =>
    intro v1 v2 v3 v4 H locs ls h hP hS hl
    have h := lp_s h
    exact w_X11_dayBegunAlike_12 l C0 v1 v2 v3 v4 S n0 ih0 n1 (fun v1 v2 v3 v4 H locs ls h hP hS hl => ih1 v1 v2 v3 v4 h hP hS hl) h hP hS hl
set_option maxRecDepth 100000 in
set_option maxHeartbeats 4000000 in
theorem w_X11_dayBegunAlike_2 (l : Launch) {V : Int32} (C0 : XC D ct p s m args meth c cX11_dayBegunAlike 5 (some .int) RX11) (v1 : Int32) (v2 : Int32) (S : St) (n0 : Nat) (ih0 : ∀ (v1 : Int32) (v2 : Int32) (H : Heap) (locs : List Loc) (ls : Array Slot), (lp n0 (l_X11_dayBegunAlike_2 S) (v1, v2)).bind some = some V → MP D ct B Hb S H → va_S (AB B) s.heap H locs → lv_has ls 5 [(0, .ref (B + 0)), (1, .int v1), (2, .int v2)] → W p l e { frames := 0, cells := 0, slots := 0, locals := 0 } s m args below meth c H locs 0 0 (MQ below (qI D ct B Hb S V) args s 0 0 (AB B)) (F0 m 2 ls [])) {H : Heap} {locs : List Loc} {ls : Array Slot} (h : (b_X11_dayBegunAlike_2 v1 v2 S).bind (lpF n0 (l_X11_dayBegunAlike_2 S) some) = some V) (hP : MP D ct B Hb S H) (hS : va_S (AB B) s.heap H locs) (hl : lv_has ls 5 [(0, .ref (B + 0)), (1, .int v1), (2, .int v2)]) : W p l e { frames := 0, cells := 0, slots := 0, locals := 0 } s m args below meth c H locs 0 0 (MQ below (qI D ct B Hb S V) args s 0 0 (AB B)) (F0 m 2 ls []) := by
  obtain ⟨hx, hb, hr, hml, hown, hts, hK, hlocks, hN⟩ := id C0
  unfold b_X11_dayBegunAlike_2 at h
  refine lv_iload_n hx hb dX11_dayBegunAlike_2 rfl (lv_at hl 2 rfl) ?_
  refine lv_iload_n hx hb dX11_dayBegunAlike_3 rfl (lv_at hl 1 rfl) ?_
  refine lv_icmp_ge (tgt := 71) hx hb dX11_dayBegunAlike_4 (by decide) (fun z1 => ?_) (fun z1 => ?_)
  · have h := ob_t h z1
    refine lv_bipush (v := (-4)) hx hb dX11_dayBegunAlike_71 (by decide) ?_
    exact r_I C0 hP hS h dX11_dayBegunAlike_73
  · have h := ob_f h z1
    refine lv_iconst (v := 1) hx hb dX11_dayBegunAlike_7 (by decide) ?_
    refine lv_istore_n (lv' := [(3, .int 1), (0, .ref (B + 0)), (1, .int v1), (2, .int v2)]) hx hb dX11_dayBegunAlike_8 rfl hl (by decide) rfl (fun ls hl => ?_)
    refine lv_iconst (v := 0) hx hb dX11_dayBegunAlike_9 (by decide) ?_
    refine lv_istore (lv' := [(4, .int 0), (3, .int 1), (0, .ref (B + 0)), (1, .int v1), (2, .int v2)]) hx hb dX11_dayBegunAlike_10 hl (by decide) rfl (fun ls hl => ?_)
    exact wl_X11_dayBegunAlike_12 l C0 S n0 ih0 1000 v1 v2 1 0 h hP hS (lv_sub hl [2, 3, 4, 1, 0] rfl)
set_option maxRecDepth 100000 in
set_option maxHeartbeats 4000000 in
theorem wl_X11_dayBegunAlike_2 (l : Launch) {V : Int32} (C0 : XC D ct p s m args meth c cX11_dayBegunAlike 5 (some .int) RX11) (S : St)  : ∀ (n0 : Nat) (v1 : Int32) (v2 : Int32) {H : Heap} {locs : List Loc} {ls : Array Slot}, (lp n0 (l_X11_dayBegunAlike_2 S) (v1, v2)).bind some = some V → MP D ct B Hb S H → va_S (AB B) s.heap H locs → lv_has ls 5 [(0, .ref (B + 0)), (1, .int v1), (2, .int v2)] → W p l e { frames := 0, cells := 0, slots := 0, locals := 0 } s m args below meth c H locs 0 0 (MQ below (qI D ct B Hb S V) args s 0 0 (AB B)) (F0 m 2 ls []) := by
  intro n0
  induction n0 with
  | zero =>
    intro v1 v2 H locs ls h hP hS hl
    exact (lp_0 h).elim
  | succ n0 ih0 =>
    intro v1 v2 H locs ls h hP hS hl
    have h := lp_s h
    exact w_X11_dayBegunAlike_2 l C0 v1 v2 S n0 (fun v1 v2 H locs ls h hP hS hl => ih0 v1 v2 h hP hS hl) h hP hS hl
set_option maxRecDepth 100000 in
set_option maxHeartbeats 4000000 in
theorem w_X11_dayBegunAlike_0 (l : Launch) {V : Int32} (C0 : XC D ct p s m args meth c cX11_dayBegunAlike 5 (some .int) RX11) (v1 : Int32) (S : St) {H : Heap} {locs : List Loc} {ls : Array Slot} (h : (b_X11_dayBegunAlike_0 v1 S).bind some = some V) (hP : MP D ct B Hb S H) (hS : va_S (AB B) s.heap H locs) (hl : lv_has ls 5 [(0, .ref (B + 0)), (1, .int v1)]) : W p l e { frames := 0, cells := 0, slots := 0, locals := 0 } s m args below meth c H locs 0 0 (MQ below (qI D ct B Hb S V) args s 0 0 (AB B)) (F0 m 0 ls []) := by
  obtain ⟨hx, hb, hr, hml, hown, hts, hK, hlocks, hN⟩ := id C0
  unfold b_X11_dayBegunAlike_0 at h
  refine lv_iconst (v := 0) hx hb dX11_dayBegunAlike_0 (by decide) ?_
  refine lv_istore_n (lv' := [(2, .int 0), (0, .ref (B + 0)), (1, .int v1)]) hx hb dX11_dayBegunAlike_1 rfl hl (by decide) rfl (fun ls hl => ?_)
  exact wl_X11_dayBegunAlike_2 l C0 S 1000 v1 0 h hP hS (lv_sub hl [1, 2, 0] rfl)
set_option maxRecDepth 100000 in
set_option maxHeartbeats 4000000 in
theorem c_X11_dayBegunAlike (l : Launch) (a1 : Int32) {D : va_G} {ct : Nat → ClassId} {B : Nat} {Hb : Heap} {S : St} {V : Int32} (h : L_X11_dayBegunAlike a1 S = some V) : Met l yX11_dayBegunAlike (Cond.code yX11_dayBegunAlike cX11_dayBegunAlike 5 (some .int) :: tG) { frames := 0, cells := 0, slots := 0, locals := 0 } (va_Pc [.ref (B + 0), .int a1] (MPK D ct B Hb S)) (qI D ct B Hb S V) 0 0 (AB B) := by
  refine mk_met (by decide +kernel) (Nat.le_of_ble_eq_true rfl) (fun p e s m args below meth c ls C0 hP hl _ => ?_)
  have h := ob_of h
  exact w_X11_dayBegunAlike_0 l C0 a1 S h hP va_S.rf (lv_sub hl [0, 1] rfl)
end WALKS
