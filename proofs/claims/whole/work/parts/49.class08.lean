theorem dX11_forged_0 : decode cX11_forged 0 = .ok (.aload_n 0, 1) := by decide +kernel
theorem dX11_forged_1 : decode cX11_forged 1 = .ok (.iload_n 1, 1) := by decide +kernel
theorem dX11_forged_2 : decode cX11_forged 2 = .ok (.invokevirtual 267, 3) := by decide +kernel
theorem dX11_forged_5 : decode cX11_forged 5 = .ok (.istore_n 2, 1) := by decide +kernel
theorem dX11_forged_6 : decode cX11_forged 6 = .ok (.iload_n 2, 1) := by decide +kernel
theorem dX11_forged_7 : decode cX11_forged 7 = .ok (.ifCond .eq 5, 3) := by decide +kernel
theorem dX11_forged_10 : decode cX11_forged 10 = .ok (.iload_n 2, 1) := by decide +kernel
theorem dX11_forged_11 : decode cX11_forged 11 = .ok (.ireturn, 1) := by decide +kernel
theorem dX11_forged_12 : decode cX11_forged 12 = .ok (.aload_n 0, 1) := by decide +kernel
theorem dX11_forged_13 : decode cX11_forged 13 = .ok (.getfield 16, 3) := by decide +kernel
theorem dX11_forged_16 : decode cX11_forged 16 = .ok (.aload_n 0, 1) := by decide +kernel
theorem dX11_forged_17 : decode cX11_forged 17 = .ok (.getfield 12, 3) := by decide +kernel
theorem dX11_forged_20 : decode cX11_forged 20 = .ok (.invokevirtual 74, 3) := by decide +kernel
theorem dX11_forged_23 : decode cX11_forged 23 = .ok (.iconst 0, 1) := by decide +kernel
theorem dX11_forged_24 : decode cX11_forged 24 = .ok (.istore_n 3, 1) := by decide +kernel
theorem dX11_forged_25 : decode cX11_forged 25 = .ok (.iconst 0, 1) := by decide +kernel
theorem dX11_forged_26 : decode cX11_forged 26 = .ok (.istore 4, 2) := by decide +kernel
theorem dX11_forged_28 : decode cX11_forged 28 = .ok (.iload 4, 2) := by decide +kernel
theorem dX11_forged_30 : decode cX11_forged 30 = .ok (.bipush 9, 2) := by decide +kernel
theorem dX11_forged_32 : decode cX11_forged 32 = .ok (.if_icmp .gt 44, 3) := by decide +kernel
theorem dX11_forged_35 : decode cX11_forged 35 = .ok (.iconst 0, 1) := by decide +kernel
theorem dX11_forged_36 : decode cX11_forged 36 = .ok (.istore 5, 2) := by decide +kernel
theorem dX11_forged_38 : decode cX11_forged 38 = .ok (.iload 5, 2) := by decide +kernel
theorem dX11_forged_40 : decode cX11_forged 40 = .ok (.bipush 23, 2) := by decide +kernel
theorem dX11_forged_42 : decode cX11_forged 42 = .ok (.if_icmp .gt 28, 3) := by decide +kernel
theorem dX11_forged_45 : decode cX11_forged 45 = .ok (.iload_n 3, 1) := by decide +kernel
theorem dX11_forged_46 : decode cX11_forged 46 = .ok (.aload_n 0, 1) := by decide +kernel
theorem dX11_forged_47 : decode cX11_forged 47 = .ok (.aload_n 0, 1) := by decide +kernel
theorem dX11_forged_48 : decode cX11_forged 48 = .ok (.getfield 47, 3) := by decide +kernel
theorem dX11_forged_51 : decode cX11_forged 51 = .ok (.iload_n 1, 1) := by decide +kernel
theorem dX11_forged_52 : decode cX11_forged 52 = .ok (.aaload, 1) := by decide +kernel
theorem dX11_forged_53 : decode cX11_forged 53 = .ok (.iload 4, 2) := by decide +kernel
theorem dX11_forged_55 : decode cX11_forged 55 = .ok (.iload 5, 2) := by decide +kernel
theorem dX11_forged_57 : decode cX11_forged 57 = .ok (.invokevirtual 270, 3) := by decide +kernel
theorem dX11_forged_60 : decode cX11_forged 60 = .ok (.invokestatic 188, 3) := by decide +kernel
theorem dX11_forged_63 : decode cX11_forged 63 = .ok (.istore_n 3, 1) := by decide +kernel
theorem dX11_forged_64 : decode cX11_forged 64 = .ok (.iinc 5 1, 3) := by decide +kernel
theorem dX11_forged_67 : decode cX11_forged 67 = .ok (.goto (-29), 3) := by decide +kernel
theorem dX11_forged_70 : decode cX11_forged 70 = .ok (.iinc 4 1, 3) := by decide +kernel
theorem dX11_forged_73 : decode cX11_forged 73 = .ok (.goto (-45), 3) := by decide +kernel
theorem dX11_forged_76 : decode cX11_forged 76 = .ok (.iload_n 3, 1) := by decide +kernel
theorem dX11_forged_77 : decode cX11_forged 77 = .ok (.aload_n 0, 1) := by decide +kernel
theorem dX11_forged_78 : decode cX11_forged 78 = .ok (.getfield 47, 3) := by decide +kernel
theorem dX11_forged_81 : decode cX11_forged 81 = .ok (.iload_n 1, 1) := by decide +kernel
theorem dX11_forged_82 : decode cX11_forged 82 = .ok (.aaload, 1) := by decide +kernel
theorem dX11_forged_83 : decode cX11_forged 83 = .ok (.getfield 274, 3) := by decide +kernel
theorem dX11_forged_86 : decode cX11_forged 86 = .ok (.if_icmp .ne 8, 3) := by decide +kernel
theorem dX11_forged_89 : decode cX11_forged 89 = .ok (.bipush (-4), 2) := by decide +kernel
theorem dX11_forged_91 : decode cX11_forged 91 = .ok (.goto 4, 3) := by decide +kernel
theorem dX11_forged_94 : decode cX11_forged 94 = .ok (.iload_n 3, 1) := by decide +kernel
theorem dX11_forged_95 : decode cX11_forged 95 = .ok (.ireturn, 1) := by decide +kernel
theorem dX11_judge_0 : decode cX11_judge 0 = .ok (.aload_n 0, 1) := by decide +kernel
theorem dX11_judge_1 : decode cX11_judge 1 = .ok (.iload_n 1, 1) := by decide +kernel
theorem dX11_judge_2 : decode cX11_judge 2 = .ok (.invokevirtual 81, 3) := by decide +kernel
theorem dX11_judge_5 : decode cX11_judge 5 = .ok (.ifCond .eq 5, 3) := by decide +kernel
theorem dX11_judge_8 : decode cX11_judge 8 = .ok (.iconst (-1), 1) := by decide +kernel
theorem dX11_judge_9 : decode cX11_judge 9 = .ok (.ireturn, 1) := by decide +kernel
theorem dX11_judge_10 : decode cX11_judge 10 = .ok (.aload_n 0, 1) := by decide +kernel
theorem dX11_judge_11 : decode cX11_judge 11 = .ok (.iload_n 2, 1) := by decide +kernel
theorem dX11_judge_12 : decode cX11_judge 12 = .ok (.iconst 2, 1) := by decide +kernel
theorem dX11_judge_13 : decode cX11_judge 13 = .ok (.invokevirtual 66, 3) := by decide +kernel
theorem dX11_judge_16 : decode cX11_judge 16 = .ok (.istore_n 3, 1) := by decide +kernel
theorem dX11_judge_17 : decode cX11_judge 17 = .ok (.iload_n 3, 1) := by decide +kernel
theorem dX11_judge_18 : decode cX11_judge 18 = .ok (.ifCond .eq 5, 3) := by decide +kernel
theorem dX11_judge_21 : decode cX11_judge 21 = .ok (.iload_n 3, 1) := by decide +kernel
theorem dX11_judge_22 : decode cX11_judge 22 = .ok (.ireturn, 1) := by decide +kernel
theorem dX11_judge_23 : decode cX11_judge 23 = .ok (.aload_n 0, 1) := by decide +kernel
theorem dX11_judge_24 : decode cX11_judge 24 = .ok (.getfield 31, 3) := by decide +kernel
theorem dX11_judge_27 : decode cX11_judge 27 = .ok (.aload_n 0, 1) := by decide +kernel
theorem dX11_judge_28 : decode cX11_judge 28 = .ok (.getfield 12, 3) := by decide +kernel
theorem dX11_judge_31 : decode cX11_judge 31 = .ok (.iconst (-1), 1) := by decide +kernel
theorem dX11_judge_32 : decode cX11_judge 32 = .ok (.invokevirtual 166, 3) := by decide +kernel
theorem dX11_judge_35 : decode cX11_judge 35 = .ok (.aload_n 0, 1) := by decide +kernel
theorem dX11_judge_36 : decode cX11_judge 36 = .ok (.getfield 47, 3) := by decide +kernel
theorem dX11_judge_39 : decode cX11_judge 39 = .ok (.iload_n 2, 1) := by decide +kernel
theorem dX11_judge_40 : decode cX11_judge 40 = .ok (.aaload, 1) := by decide +kernel
theorem dX11_judge_41 : decode cX11_judge 41 = .ok (.astore 4, 2) := by decide +kernel
theorem dX11_judge_43 : decode cX11_judge 43 = .ok (.iconst 0, 1) := by decide +kernel
theorem dX11_judge_44 : decode cX11_judge 44 = .ok (.istore 5, 2) := by decide +kernel
theorem dX11_judge_46 : decode cX11_judge 46 = .ok (.iload 5, 2) := by decide +kernel
theorem dX11_judge_48 : decode cX11_judge 48 = .ok (.aload 4, 2) := by decide +kernel
theorem dX11_judge_50 : decode cX11_judge 50 = .ok (.getfield 274, 3) := by decide +kernel
theorem dX11_judge_53 : decode cX11_judge 53 = .ok (.if_icmp .ge 52, 3) := by decide +kernel
theorem dX11_judge_56 : decode cX11_judge 56 = .ok (.aload 4, 2) := by decide +kernel
theorem dX11_judge_58 : decode cX11_judge 58 = .ok (.iload 5, 2) := by decide +kernel
theorem dX11_judge_60 : decode cX11_judge 60 = .ok (.invokevirtual 277, 3) := by decide +kernel
theorem dX11_judge_63 : decode cX11_judge 63 = .ok (.ifCond .eq 6, 3) := by decide +kernel
theorem dX11_judge_66 : decode cX11_judge 66 = .ok (.goto 33, 3) := by decide +kernel
theorem dX11_judge_69 : decode cX11_judge 69 = .ok (.iload 5, 2) := by decide +kernel
theorem dX11_judge_71 : decode cX11_judge 71 = .ok (.bipush 23, 2) := by decide +kernel
theorem dX11_judge_73 : decode cX11_judge 73 = .ok (.if_icmp .gt 23, 3) := by decide +kernel
theorem dX11_judge_76 : decode cX11_judge 76 = .ok (.aload 4, 2) := by decide +kernel
theorem dX11_judge_78 : decode cX11_judge 78 = .ok (.iload 5, 2) := by decide +kernel
theorem dX11_judge_80 : decode cX11_judge 80 = .ok (.invokevirtual 280, 3) := by decide +kernel
theorem dX11_judge_83 : decode cX11_judge 83 = .ok (.aload_n 0, 1) := by decide +kernel
theorem dX11_judge_84 : decode cX11_judge 84 = .ok (.getfield 31, 3) := by decide +kernel
theorem dX11_judge_87 : decode cX11_judge 87 = .ok (.iload_n 1, 1) := by decide +kernel
theorem dX11_judge_88 : decode cX11_judge 88 = .ok (.iload 5, 2) := by decide +kernel
theorem dX11_judge_90 : decode cX11_judge 90 = .ok (.invokevirtual 245, 3) := by decide +kernel
theorem dX11_judge_93 : decode cX11_judge 93 = .ok (.if_icmp .eq 6, 3) := by decide +kernel
theorem dX11_judge_96 : decode cX11_judge 96 = .ok (.iload 5, 2) := by decide +kernel
theorem dX11_judge_98 : decode cX11_judge 98 = .ok (.ireturn, 1) := by decide +kernel
theorem dX11_judge_99 : decode cX11_judge 99 = .ok (.iinc 5 1, 3) := by decide +kernel
theorem dX11_judge_102 : decode cX11_judge 102 = .ok (.goto (-56), 3) := by decide +kernel
theorem dX11_judge_105 : decode cX11_judge 105 = .ok (.bipush (-4), 2) := by decide +kernel
theorem dX11_judge_107 : decode cX11_judge 107 = .ok (.ireturn, 1) := by decide +kernel
theorem dX11_seeds_0 : decode cX11_seeds 0 = .ok (.iload_n 1, 1) := by decide +kernel
theorem dX11_seeds_1 : decode cX11_seeds 1 = .ok (.iconst 1, 1) := by decide +kernel
theorem dX11_seeds_2 : decode cX11_seeds 2 = .ok (.bipush 20, 2) := by decide +kernel
theorem dX11_seeds_4 : decode cX11_seeds 4 = .ok (.invokestatic 110, 3) := by decide +kernel
theorem dX11_seeds_7 : decode cX11_seeds 7 = .ok (.ifCond .ne 12, 3) := by decide +kernel
theorem dX11_seeds_10 : decode cX11_seeds 10 = .ok (.iload_n 3, 1) := by decide +kernel
theorem dX11_seeds_11 : decode cX11_seeds 11 = .ok (.iconst 0, 1) := by decide +kernel
theorem dX11_seeds_12 : decode cX11_seeds 12 = .ok (.iconst 1, 1) := by decide +kernel
theorem dX11_seeds_13 : decode cX11_seeds 13 = .ok (.invokestatic 110, 3) := by decide +kernel
theorem dX11_seeds_16 : decode cX11_seeds 16 = .ok (.ifCond .eq 5, 3) := by decide +kernel
theorem dX11_seeds_19 : decode cX11_seeds 19 = .ok (.iconst (-1), 1) := by decide +kernel
theorem dX11_seeds_20 : decode cX11_seeds 20 = .ok (.ireturn, 1) := by decide +kernel
theorem dX11_seeds_21 : decode cX11_seeds 21 = .ok (.aload_n 0, 1) := by decide +kernel
theorem dX11_seeds_22 : decode cX11_seeds 22 = .ok (.getfield 16, 3) := by decide +kernel
theorem dX11_seeds_25 : decode cX11_seeds 25 = .ok (.aload_n 0, 1) := by decide +kernel
theorem dX11_seeds_26 : decode cX11_seeds 26 = .ok (.getfield 12, 3) := by decide +kernel
theorem dX11_seeds_29 : decode cX11_seeds 29 = .ok (.invokevirtual 74, 3) := by decide +kernel
theorem dX11_seeds_32 : decode cX11_seeds 32 = .ok (.iload_n 2, 1) := by decide +kernel
theorem dX11_seeds_33 : decode cX11_seeds 33 = .ok (.istore 4, 2) := by decide +kernel
theorem dX11_seeds_35 : decode cX11_seeds 35 = .ok (.iconst 0, 1) := by decide +kernel
theorem dX11_seeds_36 : decode cX11_seeds 36 = .ok (.istore 5, 2) := by decide +kernel
theorem dX11_seeds_38 : decode cX11_seeds 38 = .ok (.iconst 0, 1) := by decide +kernel
theorem dX11_seeds_39 : decode cX11_seeds 39 = .ok (.istore 6, 2) := by decide +kernel
theorem dX11_seeds_41 : decode cX11_seeds 41 = .ok (.iconst 0, 1) := by decide +kernel
theorem dX11_seeds_42 : decode cX11_seeds 42 = .ok (.istore 7, 2) := by decide +kernel
theorem dX11_seeds_44 : decode cX11_seeds 44 = .ok (.iload 7, 2) := by decide +kernel
theorem dX11_seeds_46 : decode cX11_seeds 46 = .ok (.iload_n 1, 1) := by decide +kernel
theorem dX11_seeds_47 : decode cX11_seeds 47 = .ok (.if_icmp .ge 107, 3) := by decide +kernel
theorem dX11_seeds_50 : decode cX11_seeds 50 = .ok (.iconst 0, 1) := by decide +kernel
theorem dX11_seeds_51 : decode cX11_seeds 51 = .ok (.istore 8, 2) := by decide +kernel
theorem dX11_seeds_53 : decode cX11_seeds 53 = .ok (.iload 8, 2) := by decide +kernel
theorem dX11_seeds_55 : decode cX11_seeds 55 = .ok (.aload_n 0, 1) := by decide +kernel
theorem dX11_seeds_56 : decode cX11_seeds 56 = .ok (.getfield 16, 3) := by decide +kernel
theorem dX11_seeds_59 : decode cX11_seeds 59 = .ok (.getfield 185, 3) := by decide +kernel
theorem dX11_seeds_62 : decode cX11_seeds 62 = .ok (.if_icmp .ge 47, 3) := by decide +kernel
theorem dX11_seeds_65 : decode cX11_seeds 65 = .ok (.iload 4, 2) := by decide +kernel
theorem dX11_seeds_67 : decode cX11_seeds 67 = .ok (.ldc_w 283, 3) := by decide +kernel
theorem dX11_seeds_70 : decode cX11_seeds 70 = .ok (.imul, 1) := by decide +kernel
theorem dX11_seeds_71 : decode cX11_seeds 71 = .ok (.sipush 12345, 3) := by decide +kernel
theorem dX11_seeds_74 : decode cX11_seeds 74 = .ok (.iadd, 1) := by decide +kernel
theorem dX11_seeds_75 : decode cX11_seeds 75 = .ok (.istore 4, 2) := by decide +kernel
theorem dX11_seeds_77 : decode cX11_seeds 77 = .ok (.aload_n 0, 1) := by decide +kernel
theorem dX11_seeds_78 : decode cX11_seeds 78 = .ok (.getfield 16, 3) := by decide +kernel
theorem dX11_seeds_81 : decode cX11_seeds 81 = .ok (.getfield 107, 3) := by decide +kernel
theorem dX11_seeds_84 : decode cX11_seeds 84 = .ok (.iload 8, 2) := by decide +kernel
theorem dX11_seeds_86 : decode cX11_seeds 86 = .ok (.iload 4, 2) := by decide +kernel
theorem dX11_seeds_88 : decode cX11_seeds 88 = .ok (.ldc_w 284, 3) := by decide +kernel
theorem dX11_seeds_91 : decode cX11_seeds 91 = .ok (.iand, 1) := by decide +kernel
theorem dX11_seeds_92 : decode cX11_seeds 92 = .ok (.ldc_w 285, 3) := by decide +kernel
theorem dX11_seeds_95 : decode cX11_seeds 95 = .ok (.idiv, 1) := by decide +kernel
theorem dX11_seeds_96 : decode cX11_seeds 96 = .ok (.bipush 19, 2) := by decide +kernel
theorem dX11_seeds_98 : decode cX11_seeds 98 = .ok (.irem, 1) := by decide +kernel
theorem dX11_seeds_99 : decode cX11_seeds 99 = .ok (.bipush 9, 2) := by decide +kernel
theorem dX11_seeds_101 : decode cX11_seeds 101 = .ok (.isub, 1) := by decide +kernel
theorem dX11_seeds_102 : decode cX11_seeds 102 = .ok (.iastore, 1) := by decide +kernel
theorem dX11_seeds_103 : decode cX11_seeds 103 = .ok (.iinc 8 1, 3) := by decide +kernel
theorem dX11_seeds_106 : decode cX11_seeds 106 = .ok (.goto (-53), 3) := by decide +kernel
theorem dX11_seeds_109 : decode cX11_seeds 109 = .ok (.aload_n 0, 1) := by decide +kernel
theorem dX11_seeds_110 : decode cX11_seeds 110 = .ok (.getfield 31, 3) := by decide +kernel
theorem dX11_seeds_113 : decode cX11_seeds 113 = .ok (.aload_n 0, 1) := by decide +kernel
theorem dX11_seeds_114 : decode cX11_seeds 114 = .ok (.getfield 16, 3) := by decide +kernel
theorem dX11_seeds_117 : decode cX11_seeds 117 = .ok (.iconst (-1), 1) := by decide +kernel
theorem dX11_seeds_118 : decode cX11_seeds 118 = .ok (.invokevirtual 166, 3) := by decide +kernel
theorem dX11_seeds_121 : decode cX11_seeds 121 = .ok (.iload 5, 2) := by decide +kernel
theorem dX11_seeds_123 : decode cX11_seeds 123 = .ok (.aload_n 0, 1) := by decide +kernel
theorem dX11_seeds_124 : decode cX11_seeds 124 = .ok (.getfield 31, 3) := by decide +kernel
theorem dX11_seeds_127 : decode cX11_seeds 127 = .ok (.invokevirtual 209, 3) := by decide +kernel
theorem dX11_seeds_130 : decode cX11_seeds 130 = .ok (.invokestatic 231, 3) := by decide +kernel
theorem dX11_seeds_133 : decode cX11_seeds 133 = .ok (.iadd, 1) := by decide +kernel
theorem dX11_seeds_134 : decode cX11_seeds 134 = .ok (.istore 5, 2) := by decide +kernel
theorem dX11_seeds_136 : decode cX11_seeds 136 = .ok (.iload 6, 2) := by decide +kernel
theorem dX11_seeds_138 : decode cX11_seeds 138 = .ok (.aload_n 0, 1) := by decide +kernel
theorem dX11_seeds_139 : decode cX11_seeds 139 = .ok (.getfield 31, 3) := by decide +kernel
theorem dX11_seeds_142 : decode cX11_seeds 142 = .ok (.invokevirtual 286, 3) := by decide +kernel
theorem dX11_seeds_145 : decode cX11_seeds 145 = .ok (.iadd, 1) := by decide +kernel
theorem dX11_seeds_146 : decode cX11_seeds 146 = .ok (.istore 6, 2) := by decide +kernel
theorem dX11_seeds_148 : decode cX11_seeds 148 = .ok (.iinc 7 1, 3) := by decide +kernel
theorem dX11_seeds_151 : decode cX11_seeds 151 = .ok (.goto (-107), 3) := by decide +kernel
theorem dX11_seeds_154 : decode cX11_seeds 154 = .ok (.iload_n 3, 1) := by decide +kernel
theorem dX11_seeds_155 : decode cX11_seeds 155 = .ok (.ifCond .ne 8, 3) := by decide +kernel
theorem dX11_seeds_158 : decode cX11_seeds 158 = .ok (.iload 5, 2) := by decide +kernel
theorem dX11_seeds_160 : decode cX11_seeds 160 = .ok (.goto 5, 3) := by decide +kernel
theorem dX11_seeds_163 : decode cX11_seeds 163 = .ok (.iload 6, 2) := by decide +kernel
theorem dX11_seeds_165 : decode cX11_seeds 165 = .ok (.ireturn, 1) := by decide +kernel
theorem dX11_image_0 : decode cX11_image 0 = .ok (.aload_n 0, 1) := by decide +kernel
theorem dX11_image_1 : decode cX11_image 1 = .ok (.getfield 19, 3) := by decide +kernel
theorem dX11_image_4 : decode cX11_image 4 = .ok (.aload_n 0, 1) := by decide +kernel
theorem dX11_image_5 : decode cX11_image 5 = .ok (.getfield 12, 3) := by decide +kernel
theorem dX11_image_8 : decode cX11_image 8 = .ok (.invokevirtual 74, 3) := by decide +kernel
theorem dX11_image_11 : decode cX11_image 11 = .ok (.aload_n 0, 1) := by decide +kernel
theorem dX11_image_12 : decode cX11_image 12 = .ok (.iconst 1, 1) := by decide +kernel
theorem dX11_image_13 : decode cX11_image 13 = .ok (.putfield 22, 3) := by decide +kernel
theorem dX11_image_16 : decode cX11_image 16 = .ok (.aload_n 0, 1) := by decide +kernel
theorem dX11_image_17 : decode cX11_image 17 = .ok (.getfield 12, 3) := by decide +kernel
theorem dX11_image_20 : decode cX11_image 20 = .ok (.getfield 185, 3) := by decide +kernel
theorem dX11_image_23 : decode cX11_image 23 = .ok (.ireturn, 1) := by decide +kernel
theorem dX11_restore_0 : decode cX11_restore 0 = .ok (.aload_n 0, 1) := by decide +kernel
theorem dX11_restore_1 : decode cX11_restore 1 = .ok (.getfield 22, 3) := by decide +kernel
theorem dX11_restore_4 : decode cX11_restore 4 = .ok (.ifCond .ne 6, 3) := by decide +kernel
theorem dX11_restore_7 : decode cX11_restore 7 = .ok (.bipush (-3), 2) := by decide +kernel
theorem dX11_restore_9 : decode cX11_restore 9 = .ok (.ireturn, 1) := by decide +kernel
theorem dX11_restore_10 : decode cX11_restore 10 = .ok (.aload_n 0, 1) := by decide +kernel
theorem dX11_restore_11 : decode cX11_restore 11 = .ok (.getfield 12, 3) := by decide +kernel
theorem dX11_restore_14 : decode cX11_restore 14 = .ok (.aload_n 0, 1) := by decide +kernel
theorem dX11_restore_15 : decode cX11_restore 15 = .ok (.getfield 19, 3) := by decide +kernel
theorem dX11_restore_18 : decode cX11_restore 18 = .ok (.invokevirtual 74, 3) := by decide +kernel
theorem dX11_restore_21 : decode cX11_restore 21 = .ok (.aload_n 0, 1) := by decide +kernel
theorem dX11_restore_22 : decode cX11_restore 22 = .ok (.getfield 12, 3) := by decide +kernel
theorem dX11_restore_25 : decode cX11_restore 25 = .ok (.getfield 185, 3) := by decide +kernel
theorem dX11_restore_28 : decode cX11_restore 28 = .ok (.ireturn, 1) := by decide +kernel
theorem dX11_count_0 : decode cX11_count 0 = .ok (.iload_n 1, 1) := by decide +kernel
theorem dX11_count_1 : decode cX11_count 1 = .ok (.tableswitch 117 0 7 #[47, 55, 63, 71, 81, 91, 101, 109], 47) := by decide +kernel
theorem dX11_count_48 : decode cX11_count 48 = .ok (.aload_n 0, 1) := by decide +kernel
theorem dX11_count_49 : decode cX11_count 49 = .ok (.getfield 12, 3) := by decide +kernel
theorem dX11_count_52 : decode cX11_count 52 = .ok (.getfield 185, 3) := by decide +kernel
theorem dX11_count_55 : decode cX11_count 55 = .ok (.ireturn, 1) := by decide +kernel
theorem dX11_count_56 : decode cX11_count 56 = .ok (.aload_n 0, 1) := by decide +kernel
theorem dX11_count_57 : decode cX11_count 57 = .ok (.getfield 12, 3) := by decide +kernel
theorem dX11_count_60 : decode cX11_count 60 = .ok (.getfield 196, 3) := by decide +kernel
theorem dX11_count_63 : decode cX11_count 63 = .ok (.ireturn, 1) := by decide +kernel
theorem dX11_count_64 : decode cX11_count 64 = .ok (.aload_n 0, 1) := by decide +kernel
theorem dX11_count_65 : decode cX11_count 65 = .ok (.getfield 12, 3) := by decide +kernel
theorem dX11_count_68 : decode cX11_count 68 = .ok (.getfield 222, 3) := by decide +kernel
theorem dX11_count_71 : decode cX11_count 71 = .ok (.ireturn, 1) := by decide +kernel
theorem dX11_count_72 : decode cX11_count 72 = .ok (.aload_n 0, 1) := by decide +kernel
theorem dX11_count_73 : decode cX11_count 73 = .ok (.getfield 12, 3) := by decide +kernel
theorem dX11_count_76 : decode cX11_count 76 = .ok (.getfield 121, 3) := by decide +kernel
theorem dX11_count_79 : decode cX11_count 79 = .ok (.iconst 0, 1) := by decide +kernel
theorem dX11_count_80 : decode cX11_count 80 = .ok (.iaload, 1) := by decide +kernel
theorem dX11_count_81 : decode cX11_count 81 = .ok (.ireturn, 1) := by decide +kernel
theorem dX11_count_82 : decode cX11_count 82 = .ok (.aload_n 0, 1) := by decide +kernel
theorem dX11_count_83 : decode cX11_count 83 = .ok (.getfield 12, 3) := by decide +kernel
theorem dX11_count_86 : decode cX11_count 86 = .ok (.getfield 121, 3) := by decide +kernel
theorem dX11_count_89 : decode cX11_count 89 = .ok (.iconst 1, 1) := by decide +kernel
theorem dX11_count_90 : decode cX11_count 90 = .ok (.iaload, 1) := by decide +kernel
theorem dX11_count_91 : decode cX11_count 91 = .ok (.ireturn, 1) := by decide +kernel
theorem dX11_count_92 : decode cX11_count 92 = .ok (.aload_n 0, 1) := by decide +kernel
theorem dX11_count_93 : decode cX11_count 93 = .ok (.getfield 12, 3) := by decide +kernel
theorem dX11_count_96 : decode cX11_count 96 = .ok (.getfield 121, 3) := by decide +kernel
theorem dX11_count_99 : decode cX11_count 99 = .ok (.iconst 2, 1) := by decide +kernel
theorem dX11_count_100 : decode cX11_count 100 = .ok (.iaload, 1) := by decide +kernel
theorem dX11_count_101 : decode cX11_count 101 = .ok (.ireturn, 1) := by decide +kernel
theorem dX11_count_102 : decode cX11_count 102 = .ok (.aload_n 0, 1) := by decide +kernel
theorem dX11_count_103 : decode cX11_count 103 = .ok (.getfield 12, 3) := by decide +kernel
theorem dX11_count_106 : decode cX11_count 106 = .ok (.invokevirtual 289, 3) := by decide +kernel
theorem dX11_count_109 : decode cX11_count 109 = .ok (.ireturn, 1) := by decide +kernel
theorem dX11_count_110 : decode cX11_count 110 = .ok (.aload_n 0, 1) := by decide +kernel
theorem dX11_count_111 : decode cX11_count 111 = .ok (.getfield 12, 3) := by decide +kernel
theorem dX11_count_114 : decode cX11_count 114 = .ok (.invokevirtual 292, 3) := by decide +kernel
theorem dX11_count_117 : decode cX11_count 117 = .ok (.ireturn, 1) := by decide +kernel
theorem dX11_count_118 : decode cX11_count 118 = .ok (.iconst (-1), 1) := by decide +kernel
theorem dX11_count_119 : decode cX11_count 119 = .ok (.ireturn, 1) := by decide +kernel
theorem dX11_row_0 : decode cX11_row 0 = .ok (.iload_n 1, 1) := by decide +kernel
theorem dX11_row_1 : decode cX11_row 1 = .ok (.invokestatic 127, 3) := by decide +kernel
theorem dX11_row_4 : decode cX11_row 4 = .ok (.ifCond .ne 18, 3) := by decide +kernel
theorem dX11_row_7 : decode cX11_row 7 = .ok (.iload_n 2, 1) := by decide +kernel
theorem dX11_row_8 : decode cX11_row 8 = .ok (.iconst 0, 1) := by decide +kernel
theorem dX11_row_9 : decode cX11_row 9 = .ok (.iconst 2, 1) := by decide +kernel
theorem dX11_row_10 : decode cX11_row 10 = .ok (.invokestatic 110, 3) := by decide +kernel
theorem dX11_row_13 : decode cX11_row 13 = .ok (.ifCond .ne 9, 3) := by decide +kernel
theorem dX11_row_16 : decode cX11_row 16 = .ok (.iload_n 3, 1) := by decide +kernel
theorem dX11_row_17 : decode cX11_row 17 = .ok (.bipush 100, 2) := by decide +kernel
theorem dX11_row_19 : decode cX11_row 19 = .ok (.if_icmp .le 5, 3) := by decide +kernel
theorem dX11_row_22 : decode cX11_row 22 = .ok (.iconst (-1), 1) := by decide +kernel
theorem dX11_row_23 : decode cX11_row 23 = .ok (.ireturn, 1) := by decide +kernel
theorem dX11_row_24 : decode cX11_row 24 = .ok (.iload_n 3, 1) := by decide +kernel
theorem dX11_row_25 : decode cX11_row 25 = .ok (.ifCond .ge 6, 3) := by decide +kernel
theorem dX11_row_28 : decode cX11_row 28 = .ok (.bipush (-14), 2) := by decide +kernel
theorem dX11_row_30 : decode cX11_row 30 = .ok (.ireturn, 1) := by decide +kernel
theorem dX11_row_31 : decode cX11_row 31 = .ok (.aload_n 0, 1) := by decide +kernel
theorem dX11_row_32 : decode cX11_row 32 = .ok (.getfield 47, 3) := by decide +kernel
theorem dX11_row_35 : decode cX11_row 35 = .ok (.iload_n 1, 1) := by decide +kernel
theorem dX11_row_36 : decode cX11_row 36 = .ok (.aaload, 1) := by decide +kernel
theorem dX11_row_37 : decode cX11_row 37 = .ok (.iload_n 2, 1) := by decide +kernel
theorem dX11_row_38 : decode cX11_row 38 = .ok (.iload_n 3, 1) := by decide +kernel
theorem dX11_row_39 : decode cX11_row 39 = .ok (.invokevirtual 299, 3) := by decide +kernel
theorem dX11_row_42 : decode cX11_row 42 = .ok (.aload_n 0, 1) := by decide +kernel
theorem dX11_row_43 : decode cX11_row 43 = .ok (.getfield 35, 3) := by decide +kernel
theorem dX11_row_46 : decode cX11_row 46 = .ok (.iload_n 1, 1) := by decide +kernel
theorem dX11_row_47 : decode cX11_row 47 = .ok (.iconst 2, 1) := by decide +kernel
theorem dX11_row_48 : decode cX11_row 48 = .ok (.iastore, 1) := by decide +kernel
theorem dX11_row_49 : decode cX11_row 49 = .ok (.iconst 0, 1) := by decide +kernel
theorem dX11_row_50 : decode cX11_row 50 = .ok (.ireturn, 1) := by decide +kernel
theorem dX11_put_0 : decode cX11_put 0 = .ok (.aload_n 0, 1) := by decide +kernel
theorem dX11_put_1 : decode cX11_put 1 = .ok (.iload_n 1, 1) := by decide +kernel
theorem dX11_put_2 : decode cX11_put 2 = .ok (.iconst 2, 1) := by decide +kernel
theorem dX11_put_3 : decode cX11_put 3 = .ok (.invokevirtual 66, 3) := by decide +kernel
theorem dX11_put_6 : decode cX11_put 6 = .ok (.istore 4, 2) := by decide +kernel
theorem dX11_put_8 : decode cX11_put 8 = .ok (.iload 4, 2) := by decide +kernel
theorem dX11_put_10 : decode cX11_put 10 = .ok (.ifCond .eq 6, 3) := by decide +kernel
theorem dX11_put_13 : decode cX11_put 13 = .ok (.iload 4, 2) := by decide +kernel
theorem dX11_put_15 : decode cX11_put 15 = .ok (.ireturn, 1) := by decide +kernel
theorem dX11_put_16 : decode cX11_put 16 = .ok (.aload_n 0, 1) := by decide +kernel
theorem dX11_put_17 : decode cX11_put 17 = .ok (.getfield 47, 3) := by decide +kernel
theorem dX11_put_20 : decode cX11_put 20 = .ok (.iload_n 1, 1) := by decide +kernel
theorem dX11_put_21 : decode cX11_put 21 = .ok (.aaload, 1) := by decide +kernel
theorem dX11_put_22 : decode cX11_put 22 = .ok (.iload_n 2, 1) := by decide +kernel
theorem dX11_put_23 : decode cX11_put 23 = .ok (.iconst 1, 1) := by decide +kernel
theorem dX11_put_24 : decode cX11_put 24 = .ok (.invokevirtual 302, 3) := by decide +kernel
theorem dX11_put_27 : decode cX11_put 27 = .ok (.ifCond .ne 6, 3) := by decide +kernel
theorem dX11_put_30 : decode cX11_put 30 = .ok (.bipush (-13), 2) := by decide +kernel
theorem dX11_put_32 : decode cX11_put 32 = .ok (.ireturn, 1) := by decide +kernel
theorem dX11_put_33 : decode cX11_put 33 = .ok (.aload_n 0, 1) := by decide +kernel
theorem dX11_put_34 : decode cX11_put 34 = .ok (.getfield 47, 3) := by decide +kernel
theorem dX11_put_37 : decode cX11_put 37 = .ok (.iload_n 1, 1) := by decide +kernel
theorem dX11_put_38 : decode cX11_put 38 = .ok (.aaload, 1) := by decide +kernel
theorem dX11_put_39 : decode cX11_put 39 = .ok (.iload_n 2, 1) := by decide +kernel
theorem dX11_put_40 : decode cX11_put 40 = .ok (.iload_n 3, 1) := by decide +kernel
theorem dX11_put_41 : decode cX11_put 41 = .ok (.invokevirtual 306, 3) := by decide +kernel
theorem dX11_put_44 : decode cX11_put 44 = .ok (.iconst 0, 1) := by decide +kernel
theorem dX11_put_45 : decode cX11_put 45 = .ok (.ireturn, 1) := by decide +kernel
theorem dX11_copy_0 : decode cX11_copy 0 = .ok (.iload_n 1, 1) := by decide +kernel
theorem dX11_copy_1 : decode cX11_copy 1 = .ok (.invokestatic 127, 3) := by decide +kernel
theorem dX11_copy_4 : decode cX11_copy 4 = .ok (.ifCond .ne 10, 3) := by decide +kernel
theorem dX11_copy_7 : decode cX11_copy 7 = .ok (.iload_n 3, 1) := by decide +kernel
theorem dX11_copy_8 : decode cX11_copy 8 = .ok (.invokestatic 127, 3) := by decide +kernel
theorem dX11_copy_11 : decode cX11_copy 11 = .ok (.ifCond .eq 5, 3) := by decide +kernel
theorem dX11_copy_14 : decode cX11_copy 14 = .ok (.iconst (-1), 1) := by decide +kernel
theorem dX11_copy_15 : decode cX11_copy 15 = .ok (.ireturn, 1) := by decide +kernel
theorem dX11_copy_16 : decode cX11_copy 16 = .ok (.aload_n 0, 1) := by decide +kernel
theorem dX11_copy_17 : decode cX11_copy 17 = .ok (.getfield 35, 3) := by decide +kernel
theorem dX11_copy_20 : decode cX11_copy 20 = .ok (.iload_n 1, 1) := by decide +kernel
theorem dX11_copy_21 : decode cX11_copy 21 = .ok (.iaload, 1) := by decide +kernel
theorem dX11_copy_22 : decode cX11_copy 22 = .ok (.ifCond .eq 12, 3) := by decide +kernel
theorem dX11_copy_25 : decode cX11_copy 25 = .ok (.aload_n 0, 1) := by decide +kernel
theorem dX11_copy_26 : decode cX11_copy 26 = .ok (.getfield 35, 3) := by decide +kernel
theorem dX11_copy_29 : decode cX11_copy 29 = .ok (.iload_n 3, 1) := by decide +kernel
theorem dX11_copy_30 : decode cX11_copy 30 = .ok (.iaload, 1) := by decide +kernel
theorem dX11_copy_31 : decode cX11_copy 31 = .ok (.ifCond .ne 6, 3) := by decide +kernel
theorem dX11_copy_34 : decode cX11_copy 34 = .ok (.bipush (-11), 2) := by decide +kernel
theorem dX11_copy_36 : decode cX11_copy 36 = .ok (.ireturn, 1) := by decide +kernel
theorem dX11_copy_37 : decode cX11_copy 37 = .ok (.aload_n 0, 1) := by decide +kernel
theorem dX11_copy_38 : decode cX11_copy 38 = .ok (.getfield 35, 3) := by decide +kernel
theorem dX11_copy_41 : decode cX11_copy 41 = .ok (.iload_n 1, 1) := by decide +kernel
theorem dX11_copy_42 : decode cX11_copy 42 = .ok (.iaload, 1) := by decide +kernel
theorem dX11_copy_43 : decode cX11_copy 43 = .ok (.iconst 2, 1) := by decide +kernel
theorem dX11_copy_44 : decode cX11_copy 44 = .ok (.if_icmp .ne 34, 3) := by decide +kernel
theorem dX11_copy_47 : decode cX11_copy 47 = .ok (.aload_n 0, 1) := by decide +kernel
theorem dX11_copy_48 : decode cX11_copy 48 = .ok (.getfield 35, 3) := by decide +kernel
theorem dX11_copy_51 : decode cX11_copy 51 = .ok (.iload_n 3, 1) := by decide +kernel
theorem dX11_copy_52 : decode cX11_copy 52 = .ok (.iaload, 1) := by decide +kernel
theorem dX11_copy_53 : decode cX11_copy 53 = .ok (.iconst 2, 1) := by decide +kernel
theorem dX11_copy_54 : decode cX11_copy 54 = .ok (.if_icmp .ne 24, 3) := by decide +kernel
theorem dX11_copy_57 : decode cX11_copy 57 = .ok (.aload_n 0, 1) := by decide +kernel
theorem dX11_copy_58 : decode cX11_copy 58 = .ok (.getfield 47, 3) := by decide +kernel
theorem dX11_copy_61 : decode cX11_copy 61 = .ok (.iload_n 1, 1) := by decide +kernel
theorem dX11_copy_62 : decode cX11_copy 62 = .ok (.aaload, 1) := by decide +kernel
theorem dX11_copy_63 : decode cX11_copy 63 = .ok (.getfield 70, 3) := by decide +kernel
theorem dX11_copy_66 : decode cX11_copy 66 = .ok (.aload_n 0, 1) := by decide +kernel
theorem dX11_copy_67 : decode cX11_copy 67 = .ok (.getfield 47, 3) := by decide +kernel
theorem dX11_copy_70 : decode cX11_copy 70 = .ok (.iload_n 3, 1) := by decide +kernel
theorem dX11_copy_71 : decode cX11_copy 71 = .ok (.aaload, 1) := by decide +kernel
theorem dX11_copy_72 : decode cX11_copy 72 = .ok (.getfield 70, 3) := by decide +kernel
theorem dX11_copy_75 : decode cX11_copy 75 = .ok (.if_icmp .eq 6, 3) := by decide +kernel
theorem dX11_copy_78 : decode cX11_copy 78 = .ok (.bipush (-12), 2) := by decide +kernel
theorem dX11_copy_80 : decode cX11_copy 80 = .ok (.ireturn, 1) := by decide +kernel
theorem dX11_copy_81 : decode cX11_copy 81 = .ok (.aload_n 0, 1) := by decide +kernel
theorem dX11_copy_82 : decode cX11_copy 82 = .ok (.getfield 47, 3) := by decide +kernel
theorem dX11_copy_85 : decode cX11_copy 85 = .ok (.iload_n 1, 1) := by decide +kernel
theorem dX11_copy_86 : decode cX11_copy 86 = .ok (.aaload, 1) := by decide +kernel
theorem dX11_copy_87 : decode cX11_copy 87 = .ok (.iload_n 2, 1) := by decide +kernel
theorem dX11_copy_88 : decode cX11_copy 88 = .ok (.iload 5, 2) := by decide +kernel
theorem dX11_copy_90 : decode cX11_copy 90 = .ok (.invokevirtual 302, 3) := by decide +kernel
theorem dX11_copy_93 : decode cX11_copy 93 = .ok (.ifCond .eq 19, 3) := by decide +kernel
theorem dX11_copy_96 : decode cX11_copy 96 = .ok (.aload_n 0, 1) := by decide +kernel
theorem dX11_copy_97 : decode cX11_copy 97 = .ok (.getfield 47, 3) := by decide +kernel
theorem dX11_copy_100 : decode cX11_copy 100 = .ok (.iload_n 3, 1) := by decide +kernel
theorem dX11_copy_101 : decode cX11_copy 101 = .ok (.aaload, 1) := by decide +kernel
theorem dX11_copy_102 : decode cX11_copy 102 = .ok (.iload 4, 2) := by decide +kernel
theorem dX11_copy_104 : decode cX11_copy 104 = .ok (.iload 5, 2) := by decide +kernel
theorem dX11_copy_106 : decode cX11_copy 106 = .ok (.invokevirtual 302, 3) := by decide +kernel
theorem dX11_copy_109 : decode cX11_copy 109 = .ok (.ifCond .ne 6, 3) := by decide +kernel
theorem dX11_copy_112 : decode cX11_copy 112 = .ok (.bipush (-13), 2) := by decide +kernel
theorem dX11_copy_114 : decode cX11_copy 114 = .ok (.ireturn, 1) := by decide +kernel
theorem dX11_copy_115 : decode cX11_copy 115 = .ok (.aload_n 0, 1) := by decide +kernel
theorem dX11_copy_116 : decode cX11_copy 116 = .ok (.getfield 47, 3) := by decide +kernel
theorem dX11_copy_119 : decode cX11_copy 119 = .ok (.iload_n 1, 1) := by decide +kernel
theorem dX11_copy_120 : decode cX11_copy 120 = .ok (.aaload, 1) := by decide +kernel
theorem dX11_copy_121 : decode cX11_copy 121 = .ok (.getfield 323, 3) := by decide +kernel
theorem dX11_copy_124 : decode cX11_copy 124 = .ok (.iload_n 2, 1) := by decide +kernel
theorem dX11_copy_125 : decode cX11_copy 125 = .ok (.aload_n 0, 1) := by decide +kernel
theorem dX11_copy_126 : decode cX11_copy 126 = .ok (.getfield 47, 3) := by decide +kernel
theorem dX11_copy_129 : decode cX11_copy 129 = .ok (.iload_n 3, 1) := by decide +kernel
theorem dX11_copy_130 : decode cX11_copy 130 = .ok (.aaload, 1) := by decide +kernel
theorem dX11_copy_131 : decode cX11_copy 131 = .ok (.getfield 323, 3) := by decide +kernel
theorem dX11_copy_134 : decode cX11_copy 134 = .ok (.iload 4, 2) := by decide +kernel
theorem dX11_copy_136 : decode cX11_copy 136 = .ok (.iload 5, 2) := by decide +kernel
theorem dX11_copy_138 : decode cX11_copy 138 = .ok (.invokestatic 255, 3) := by decide +kernel
theorem dX11_copy_141 : decode cX11_copy 141 = .ok (.iload 5, 2) := by decide +kernel
theorem dX11_copy_143 : decode cX11_copy 143 = .ok (.ireturn, 1) := by decide +kernel
theorem dX11_cost_0 : decode cX11_cost 0 = .ok (.aload_n 0, 1) := by decide +kernel
theorem dX11_cost_1 : decode cX11_cost 1 = .ok (.iload_n 1, 1) := by decide +kernel
theorem dX11_cost_2 : decode cX11_cost 2 = .ok (.iconst 1, 1) := by decide +kernel
theorem dX11_cost_3 : decode cX11_cost 3 = .ok (.invokevirtual 66, 3) := by decide +kernel
theorem dX11_cost_6 : decode cX11_cost 6 = .ok (.istore_n 2, 1) := by decide +kernel
theorem dX11_cost_7 : decode cX11_cost 7 = .ok (.iload_n 2, 1) := by decide +kernel
theorem dX11_cost_8 : decode cX11_cost 8 = .ok (.ifCond .eq 7, 3) := by decide +kernel
theorem dX11_cost_11 : decode cX11_cost 11 = .ok (.iload_n 2, 1) := by decide +kernel
theorem dX11_cost_12 : decode cX11_cost 12 = .ok (.goto 12, 3) := by decide +kernel
theorem dX11_cost_15 : decode cX11_cost 15 = .ok (.aload_n 0, 1) := by decide +kernel
theorem dX11_cost_16 : decode cX11_cost 16 = .ok (.getfield 41, 3) := by decide +kernel
theorem dX11_cost_19 : decode cX11_cost 19 = .ok (.iload_n 1, 1) := by decide +kernel
theorem dX11_cost_20 : decode cX11_cost 20 = .ok (.aaload, 1) := by decide +kernel
theorem dX11_cost_21 : decode cX11_cost 21 = .ok (.invokevirtual 326, 3) := by decide +kernel
theorem dX11_cost_24 : decode cX11_cost 24 = .ok (.ireturn, 1) := by decide +kernel
def b_X11_forged_76 (v1 : Int32) (v3 : Int32) (S : St) : Option (Int32 × St) := gd (inb v1 8) ((if (v3 : Int32) = (gi S (70 + 2 * v1.toNatClampNeg) 1) then some ((-4), S) else some (v3, S)))
def b_X11_forged_70 (v1 : Int32) (v3 : Int32) (v4 : Int32) (S : St) : Option ((Int32 × Int32 × Int32 × St) ⊕ (Int32 × St)) := some (.inl (v1, v3, (v4 + 1), S))
def b_X11_forged_38 (v1 : Int32) (v3 : Int32) (v4 : Int32) (v5 : Int32) (S : St) : Option ((Int32 × Int32 × Int32 × Int32 × St) ⊕ ((Int32 × Int32 × Int32 × St) ⊕ (Int32 × St))) := (if (23 : Int32) < v5 then ((b_X11_forged_70 v1 v3 v4 S).map Sum.inr) else gd (inb v1 8) ((L_X11_firstMisfit (70 + 2 * v1.toNatClampNeg) v4 v5 S).bind fun r3 => nm (if (v3 : Int32) < r3.1 then r3.1 else v3) fun m4 => some (.inl (v1, m4, v4, (v5 + 1), r3.2))))
def l_X11_forged_38 (x : (Int32 × Int32 × Int32 × Int32 × St)) : Option ((Int32 × Int32 × Int32 × Int32 × St) ⊕ ((Int32 × Int32 × Int32 × St) ⊕ (Int32 × St))) := b_X11_forged_38 x.1 x.2.1 x.2.2.1 x.2.2.2.1 x.2.2.2.2
def b_X11_forged_28 (v1 : Int32) (v3 : Int32) (v4 : Int32) (S : St) : Option ((Int32 × Int32 × Int32 × St) ⊕ (Int32 × St)) := (if (9 : Int32) < v4 then ((b_X11_forged_76 v1 v3 S).map Sum.inr) else (lp 1000 (l_X11_forged_38) (v1, v3, v4, 0, S)))
def l_X11_forged_28 (x : (Int32 × Int32 × Int32 × St)) : Option ((Int32 × Int32 × Int32 × St) ⊕ (Int32 × St)) := b_X11_forged_28 x.1 x.2.1 x.2.2.1 x.2.2.2
def b_X11_forged_0 (v1 : Int32) (S : St) : Option (Int32 × St) := (L_X11_toldChoicesRefusal v1 S).bind fun r1 => (if (r1 : Int32) = 0 then (L_X10_become 19 1 S).bind fun r3 => (lp 1000 (l_X11_forged_28) (v1, 0, 0, r3)) else some (r1, S))
def L_X11_forged (a1 : Int32) (S : St) : Option (Int32 × St) := b_X11_forged_0 a1 S
def b_X11_judge_99 (v1 : Int32) (v4 : Nat) (v5 : Int32) (S : St) : Option ((Int32 × Nat × Int32 × St) ⊕ (Int32 × St)) := some (.inl (v1, v4, (v5 + 1), S))
def b_X11_judge_46 (v1 : Int32) (v4 : Nat) (v5 : Int32) (S : St) : Option ((Int32 × Nat × Int32 × St) ⊕ (Int32 × St)) := (if (gi S v4 1 : Int32) ≤ v5 then some (.inr ((-4), S)) else (L_X8_isSkipped v4 v5 S).bind fun r2 => (if (r2 : Int32) = 0 then (if (23 : Int32) < v5 then some (.inr (v5, S)) else (L_X8_at v4 v5 S).bind fun r5 => (L_X2_coinsAt v1 v5 S).bind fun r6 => (if (r5 : Int32) = r6 then (b_X11_judge_99 v1 v4 v5 S) else some (.inr (v5, S)))) else (b_X11_judge_99 v1 v4 v5 S)))
def l_X11_judge_46 (x : (Int32 × Nat × Int32 × St)) : Option ((Int32 × Nat × Int32 × St) ⊕ (Int32 × St)) := b_X11_judge_46 x.1 x.2.1 x.2.2.1 x.2.2.2
def b_X11_judge_0 (v1 : Int32) (v2 : Int32) (S : St) : Option (Int32 × St) := (L_X11_isNobody v1 S).bind fun r1 => (if (r1 : Int32) = 0 then (L_X11_shelfRefusal v2 2 S).bind fun r3 => (if (r3 : Int32) = 0 then (L_X2_run 1 ((-1)) S).bind fun r5 => gd (inb v2 8) ((lp 1000 (l_X11_judge_46) (v1, (70 + 2 * v2.toNatClampNeg), 0, r5))) else some (r3, S)) else some ((-1), S))
def L_X11_judge (a1 : Int32) (a2 : Int32) (S : St) : Option (Int32 × St) := b_X11_judge_0 a1 a2 S
def b_X11_seeds_154 (v3 : Int32) (v5 : Int32) (v6 : Int32) (S : St) : Option (Int32 × St) := (if (v3 : Int32) = 0 then some (v5, S) else some (v6, S))
def b_X11_seeds_109 (v1 : Int32) (v3 : Int32) (v4 : Int32) (v5 : Int32) (v6 : Int32) (v7 : Int32) (S : St) : Option ((Int32 × Int32 × Int32 × Int32 × Int32 × Int32 × St) ⊕ (Int32 × St)) := (L_X2_run 19 ((-1)) S).bind fun r1 => (L_X2_sayYes r1).bind fun r2 => (L_J6_bitCount_0f7a4 r2 r1).bind fun r3 => (L_X2_howManySold r1).bind fun r4 => some (.inl (v1, v3, v4, (v5 + r3), (v6 + r4), (v7 + 1), r1))
def b_X11_seeds_53 (v1 : Int32) (v3 : Int32) (v4 : Int32) (v5 : Int32) (v6 : Int32) (v7 : Int32) (v8 : Int32) (S : St) : Option ((Int32 × Int32 × Int32 × Int32 × Int32 × Int32 × Int32 × St) ⊕ ((Int32 × Int32 × Int32 × Int32 × Int32 × Int32 × St) ⊕ (Int32 × St))) := (if (gi S 19 0 : Int32) ≤ v8 then ((b_X11_seeds_109 v1 v3 v4 v5 v6 v7 S).map Sum.inr) else gd (inb v8 8) (nm (si S (19 + 5) v8.toNatClampNeg ((((((v4 * 1103515245) + 12345) &&& 2147483647) / 65536) - ((((v4 * 1103515245) + 12345) &&& 2147483647) / 65536) / 19 * 19) - 9)) fun S5 => some (.inl (v1, v3, ((v4 * 1103515245) + 12345), v5, v6, v7, (v8 + 1), S5))))
def l_X11_seeds_53 (x : (Int32 × Int32 × Int32 × Int32 × Int32 × Int32 × Int32 × St)) : Option ((Int32 × Int32 × Int32 × Int32 × Int32 × Int32 × Int32 × St) ⊕ ((Int32 × Int32 × Int32 × Int32 × Int32 × Int32 × St) ⊕ (Int32 × St))) := b_X11_seeds_53 x.1 x.2.1 x.2.2.1 x.2.2.2.1 x.2.2.2.2.1 x.2.2.2.2.2.1 x.2.2.2.2.2.2.1 x.2.2.2.2.2.2.2
def b_X11_seeds_44 (v1 : Int32) (v3 : Int32) (v4 : Int32) (v5 : Int32) (v6 : Int32) (v7 : Int32) (S : St) : Option ((Int32 × Int32 × Int32 × Int32 × Int32 × Int32 × St) ⊕ (Int32 × St)) := (if (v1 : Int32) ≤ v7 then ((b_X11_seeds_154 v3 v5 v6 S).map Sum.inr) else (lp 1000 (l_X11_seeds_53) (v1, v3, v4, v5, v6, v7, 0, S)))
def l_X11_seeds_44 (x : (Int32 × Int32 × Int32 × Int32 × Int32 × Int32 × St)) : Option ((Int32 × Int32 × Int32 × Int32 × Int32 × Int32 × St) ⊕ (Int32 × St)) := b_X11_seeds_44 x.1 x.2.1 x.2.2.1 x.2.2.2.1 x.2.2.2.2.1 x.2.2.2.2.2.1 x.2.2.2.2.2.2
def b_X11_seeds_0 (v1 : Int32) (v2 : Int32) (v3 : Int32) (S : St) : Option (Int32 × St) := (L_X11_isOut v1 1 20 S).bind fun r1 => (if (r1 : Int32) = 0 then (L_X11_isOut v3 0 1 S).bind fun r3 => (if (r3 : Int32) = 0 then (L_X10_become 19 1 S).bind fun r5 => (lp 1000 (l_X11_seeds_44) (v1, v3, v2, 0, 0, 0, r5)) else some ((-1), S)) else some ((-1), S))
def L_X11_seeds (a1 : Int32) (a2 : Int32) (a3 : Int32) (S : St) : Option (Int32 × St) := b_X11_seeds_0 a1 a2 a3 S
def b_X11_image_0 (S : St) : Option (Int32 × St) := (L_X10_become 37 1 S).bind fun r1 => nm (si r1 0 3 1) fun S2 => some (gi S2 1 0, S2)
def L_X11_image (S : St) : Option (Int32 × St) := b_X11_image_0 S
def b_X11_restore_0 (S : St) : Option (Int32 × St) := (if (gi S 0 3 : Int32) = 0 then some ((-3), S) else (L_X10_become 1 37 S).bind fun r2 => some (gi r2 1 0, r2))
def L_X11_restore (S : St) : Option (Int32 × St) := b_X11_restore_0 S
def b_X11_count_0 (v1 : Int32) (S : St) : Option Int32 := (if (v1 : Int32) = 0 then some (gi S 1 0) else if (v1 : Int32) = 1 then some (gi S 1 6) else if (v1 : Int32) = 2 then some (gi S 1 11) else if (v1 : Int32) = 3 then gd (inb 0 3) (some (gi S (1 + 17) ((0 : Int32)).toNatClampNeg)) else if (v1 : Int32) = 4 then gd (inb 1 3) (some (gi S (1 + 17) ((1 : Int32)).toNatClampNeg)) else if (v1 : Int32) = 5 then gd (inb 2 3) (some (gi S (1 + 17) ((2 : Int32)).toNatClampNeg)) else if (v1 : Int32) = 6 then (L_X10_allCoins 1 S).bind fun r11 => some r11 else if (v1 : Int32) = 7 then (L_X10_pairsOfKin 1 S).bind fun r13 => some r13 else some ((-1)))
def L_X11_count (a1 : Int32) (S : St) : Option Int32 := b_X11_count_0 a1 S
def b_X11_row_0 (v1 : Int32) (v2 : Int32) (v3 : Int32) (S : St) : Option (Int32 × St) := (L_X11_isNoShelf v1 S).bind fun r1 => (if (r1 : Int32) = 0 then (L_X11_isOut v2 0 2 S).bind fun r3 => (if (r3 : Int32) = 0 then (if (v3 : Int32) ≤ 100 then (if (0 : Int32) ≤ v3 then gd (inb v1 8) ((L_X8_begin (70 + 2 * v1.toNatClampNeg) v2 v3 S).bind fun r8 => gd (inb v1 8) (nm (si r8 66 v1.toNatClampNeg 2) fun S10 => some (0, S10))) else some ((-14), S)) else some ((-1), S)) else some ((-1), S)) else some ((-1), S))
def L_X11_row (a1 : Int32) (a2 : Int32) (a3 : Int32) (S : St) : Option (Int32 × St) := b_X11_row_0 a1 a2 a3 S
def b_X11_put_0 (v1 : Int32) (v2 : Int32) (v3 : Int32) (S : St) : Option (Int32 × St) := (L_X11_shelfRefusal v1 2 S).bind fun r1 => (if (r1 : Int32) = 0 then gd (inb v1 8) ((L_X8_hasPlaces (70 + 2 * v1.toNatClampNeg) v2 1 S).bind fun r4 => (if (r4 : Int32) = 0 then some ((-13), S) else gd (inb v1 8) ((L_X8_write (70 + 2 * v1.toNatClampNeg) v2 v3 S).bind fun r7 => some (0, r7)))) else some (r1, S))
def L_X11_put (a1 : Int32) (a2 : Int32) (a3 : Int32) (S : St) : Option (Int32 × St) := b_X11_put_0 a1 a2 a3 S
def b_X11_copy_0 (v1 : Int32) (v2 : Int32) (v3 : Int32) (v4 : Int32) (v5 : Int32) (S : St) : Option (Int32 × St) := (L_X11_isNoShelf v1 S).bind fun r1 => (if (r1 : Int32) = 0 then (L_X11_isNoShelf v3 S).bind fun r3 => (if (r3 : Int32) = 0 then gd (inb v1 8) ((if (gi S 66 v1.toNatClampNeg : Int32) = 0 then some ((-11), S) else gd (inb v3 8) ((if (gi S 66 v3.toNatClampNeg : Int32) = 0 then some ((-11), S) else gd (inb v1 8) ((if (gi S 66 v1.toNatClampNeg : Int32) = 2 then gd (inb v3 8) ((if (gi S 66 v3.toNatClampNeg : Int32) = 2 then gd (inb v1 8) (gd (inb v3 8) ((if (gi S (70 + 2 * v1.toNatClampNeg) 0 : Int32) = (gi S (70 + 2 * v3.toNatClampNeg) 0) then gd (inb v1 8) ((L_X8_hasPlaces (70 + 2 * v1.toNatClampNeg) v2 v5 S).bind fun r17 => (if (r17 : Int32) = 0 then some ((-13), S) else gd (inb v3 8) ((L_X8_hasPlaces (70 + 2 * v3.toNatClampNeg) v4 v5 S).bind fun r20 => (if (r20 : Int32) = 0 then some ((-13), S) else gd (inb v1 8) (gd (inb v3 8) (gd (cpb v2 v4 v5 100 100) (nm (sc S ((70 + 2 * v1.toNatClampNeg) + 1) v2.toNatClampNeg ((70 + 2 * v3.toNatClampNeg) + 1) v4.toNatClampNeg v5.toNatClampNeg) fun S25 => some (v5, S25)))))))) else some ((-12), S)))) else some ((-12), S))) else some ((-12), S))))))) else some ((-1), S)) else some ((-1), S))
def L_X11_copy (a1 : Int32) (a2 : Int32) (a3 : Int32) (a4 : Int32) (a5 : Int32) (S : St) : Option (Int32 × St) := b_X11_copy_0 a1 a2 a3 a4 a5 S
def b_X11_cost_0 (v1 : Int32) (S : St) : Option Int32 := (L_X11_shelfRefusal v1 1 S).bind fun r1 => (if (r1 : Int32) = 0 then gd (inb v1 8) ((gr S 67 v1.toNatClampNeg).bind fun q4 => (L_v_costOf q4 S).bind fun r5 => some r5) else some r1)
def L_X11_cost (a1 : Int32) (S : St) : Option Int32 := b_X11_cost_0 a1 S
section WALKS
variable {p : Program} {e : Env} {s : State} {m : MethodId} {args : Array Value} {below : List Frame} {meth : Method} {c : Code} {D : va_G} {ct : Nat → ClassId} {B : Nat} {Hb : Heap}
set_option maxRecDepth 100000 in
set_option maxHeartbeats 4000000 in
theorem w_X11_forged_76 (l : Launch) {V : Int32 × St} (C0 : XC D ct p s m args meth c cX11_forged 6 (some .int) RX11) (v1 : Int32) (v3 : Int32) (S : St) {H : Heap} {locs : List Loc} {ls : Array Slot} (h : (b_X11_forged_76 v1 v3 S).bind some = some V) (hP : MP D ct B Hb S H) (hS : va_S (AB B) s.heap H locs) (hl : lv_has ls 6 [(0, .ref (B + 0)), (1, .int v1), (3, .int v3)]) : W p l e { frames := 6, cells := 0, slots := 0, locals := 141 } s m args below meth c H locs 0 0 (MQ below (qIw D ct B Hb V) args s 0 0 (AB B)) (F0 m 76 ls []) := by
  obtain ⟨hx, hb, hr, hml, hown, hts, hK, hlocks, hN⟩ := id C0
  unfold b_X11_forged_76 at h
  refine lv_iload_n hx hb dX11_forged_76 rfl (lv_at hl 2 rfl) ?_
  refine lv_aload_n hx hb dX11_forged_77 rfl (lv_at hl 0 rfl) ?_
  refine x_get C0 hP (lay_X11 B ct S) rfl inG11 7 (by decide) wd_226 (fun _ h => h) rfl dX11_forged_78 ?_
  refine lv_iload_n hx hb dX11_forged_81 rfl (lv_at hl 1 rfl) ?_
  obtain ⟨g1, h⟩ := ob_gd h
  refine x_aald (v := .ref (B + (70 + 2 * v1.toNatClampNeg))) C0 hP (lay_68 B ct S) rfl rfl g1 rfl dX11_forged_82 ?_
  refine x_get C0 hP (lay_X8 B ct S (isRow_of g1)) rfl inG8 1 (by decide) wd_207 (fun _ h => h) rfl dX11_forged_83 ?_
  refine lv_icmp_ne (tgt := 94) hx hb dX11_forged_86 (by decide) (fun z2 => ?_) (fun z2 => ?_)
  · have h := ob_f h z2
    refine lv_iload_n hx hb dX11_forged_94 rfl (lv_at hl 2 rfl) ?_
    exact r_Iw C0 hP hS h dX11_forged_95
  · have h := ob_t h z2
    refine lv_bipush (v := (-4)) hx hb dX11_forged_89 (by decide) ?_
    refine lv_goto (tgt := 95) hx hb dX11_forged_91 (by decide) ?_
    exact r_Iw C0 hP hS h dX11_forged_95
set_option maxRecDepth 100000 in
set_option maxHeartbeats 4000000 in
theorem w_X11_forged_70 (l : Launch) {V : Int32 × St} (C0 : XC D ct p s m args meth c cX11_forged 6 (some .int) RX11) (n0 : Nat) (ih0 : ∀ (v1 : Int32) (v3 : Int32) (v4 : Int32) (S : St) (H : Heap) (locs : List Loc) (ls : Array Slot), (lp n0 (l_X11_forged_28) (v1, v3, v4, S)).bind some = some V → MP D ct B Hb S H → va_S (AB B) s.heap H locs → lv_has ls 6 [(0, .ref (B + 0)), (1, .int v1), (3, .int v3), (4, .int v4)] → W p l e { frames := 6, cells := 0, slots := 0, locals := 141 } s m args below meth c H locs 0 0 (MQ below (qIw D ct B Hb V) args s 0 0 (AB B)) (F0 m 28 ls [])) (v1 : Int32) (v3 : Int32) (v4 : Int32) (S : St) {H : Heap} {locs : List Loc} {ls : Array Slot} (h : (b_X11_forged_70 v1 v3 v4 S).bind (lpF n0 (l_X11_forged_28) some) = some V) (hP : MP D ct B Hb S H) (hS : va_S (AB B) s.heap H locs) (hl : lv_has ls 6 [(0, .ref (B + 0)), (1, .int v1), (3, .int v3), (4, .int v4)]) : W p l e { frames := 6, cells := 0, slots := 0, locals := 141 } s m args below meth c H locs 0 0 (MQ below (qIw D ct B Hb V) args s 0 0 (AB B)) (F0 m 70 ls []) := by
  obtain ⟨hx, hb, hr, hml, hown, hts, hK, hlocks, hN⟩ := id C0
  unfold b_X11_forged_70 at h
  refine lv_iinc (v := v4 + 1) (lv' := [(4, .int (v4 + 1)), (0, .ref (B + 0)), (1, .int v1), (3, .int v3)]) hx hb dX11_forged_70 hl (k := 3) rfl rfl (by decide) rfl (fun ls hl => ?_)
  refine lv_goto (tgt := 28) hx hb dX11_forged_73 (by decide) ?_
  exact ih0 v1 v3 (v4 + 1) S _ _ _ h hP hS (lv_sub hl [1, 2, 3, 0] rfl)
set_option maxRecDepth 100000 in
set_option maxHeartbeats 4000000 in
theorem w_X11_forged_38 (l : Launch) {V : Int32 × St} (C0 : XC D ct p s m args meth c cX11_forged 6 (some .int) RX11) (n0 : Nat) (ih0 : ∀ (v1 : Int32) (v3 : Int32) (v4 : Int32) (S : St) (H : Heap) (locs : List Loc) (ls : Array Slot), (lp n0 (l_X11_forged_28) (v1, v3, v4, S)).bind some = some V → MP D ct B Hb S H → va_S (AB B) s.heap H locs → lv_has ls 6 [(0, .ref (B + 0)), (1, .int v1), (3, .int v3), (4, .int v4)] → W p l e { frames := 6, cells := 0, slots := 0, locals := 141 } s m args below meth c H locs 0 0 (MQ below (qIw D ct B Hb V) args s 0 0 (AB B)) (F0 m 28 ls [])) (n1 : Nat) (ih1 : ∀ (v1 : Int32) (v3 : Int32) (v4 : Int32) (v5 : Int32) (S : St) (H : Heap) (locs : List Loc) (ls : Array Slot), (lp n1 (l_X11_forged_38) (v1, v3, v4, v5, S)).bind (lpF n0 (l_X11_forged_28) some) = some V → MP D ct B Hb S H → va_S (AB B) s.heap H locs → lv_has ls 6 [(0, .ref (B + 0)), (1, .int v1), (3, .int v3), (4, .int v4), (5, .int v5)] → W p l e { frames := 6, cells := 0, slots := 0, locals := 141 } s m args below meth c H locs 0 0 (MQ below (qIw D ct B Hb V) args s 0 0 (AB B)) (F0 m 38 ls [])) (v1 : Int32) (v3 : Int32) (v4 : Int32) (v5 : Int32) (S : St) {H : Heap} {locs : List Loc} {ls : Array Slot} (h : (b_X11_forged_38 v1 v3 v4 v5 S).bind (lpF n1 (l_X11_forged_38) (lpF n0 (l_X11_forged_28) some)) = some V) (hP : MP D ct B Hb S H) (hS : va_S (AB B) s.heap H locs) (hl : lv_has ls 6 [(0, .ref (B + 0)), (1, .int v1), (3, .int v3), (4, .int v4), (5, .int v5)]) : W p l e { frames := 6, cells := 0, slots := 0, locals := 141 } s m args below meth c H locs 0 0 (MQ below (qIw D ct B Hb V) args s 0 0 (AB B)) (F0 m 38 ls []) := by
  obtain ⟨hx, hb, hr, hml, hown, hts, hK, hlocks, hN⟩ := id C0
  unfold b_X11_forged_38 at h
  refine lv_iload hx hb dX11_forged_38 (lv_at hl 4 rfl) ?_
  refine lv_bipush (v := 23) hx hb dX11_forged_40 (by decide) ?_
  refine lv_icmp_gt (tgt := 70) hx hb dX11_forged_42 (by decide) (fun z1 => ?_) (fun z1 => ?_)
  · have h := ob_t h z1
    have h := ob_mp h
    exact w_X11_forged_70 l C0 n0 ih0 v1 v3 v4 S h hP hS (lv_sub hl [0, 1, 2, 3] rfl)
  · have h := ob_f h z1
    refine lv_iload_n hx hb dX11_forged_45 rfl (lv_at hl 2 rfl) ?_
    refine lv_aload_n hx hb dX11_forged_46 rfl (lv_at hl 0 rfl) ?_
    refine lv_aload_n hx hb dX11_forged_47 rfl (lv_at hl 0 rfl) ?_
    refine x_get C0 hP (lay_X11 B ct S) rfl inG11 7 (by decide) wd_226 (fun _ h => h) rfl dX11_forged_48 ?_
    refine lv_iload_n hx hb dX11_forged_51 rfl (lv_at hl 1 rfl) ?_
    obtain ⟨g2, h⟩ := ob_gd h
    refine x_aald (v := .ref (B + (70 + 2 * v1.toNatClampNeg))) C0 hP (lay_68 B ct S) rfl rfl g2 rfl dX11_forged_52 ?_
    refine lv_iload hx hb dX11_forged_53 (lv_at hl 3 rfl) ?_
    refine lv_iload hx hb dX11_forged_55 (lv_at hl 4 rfl) ?_
    obtain ⟨r3, hr3, h⟩ := ob_bd h
    refine n_Iw (kV (As := [.ref (B + (70 + 2 * v1.toNatClampNeg)), .int v4, .int v5]) C0 (c_X11_firstMisfit l (70 + 2 * v1.toNatClampNeg) (isRow_of g2) v4 v5 hr3) ⟨wd_890, wd_887, wd_889, wp_18, wd_1⟩ kd_X11_firstMisfit ⟨Nat.le_of_ble_eq_true rfl, Nat.le_of_ble_eq_true rfl⟩ hP (lay_X11 B ct S) rfl rfl hl.1 rfl (Nat.le_of_ble_eq_true rfl) dX11_forged_57 ⟨Nat.le_of_ble_eq_true rfl, Nat.le_of_ble_eq_true rfl⟩) hS (fun H locs hP hS => ?_)
    refine x_max C0 hl.1 ⟨wd_774, wd_565, wd_19, wd_566⟩ (Nat.le_of_ble_eq_true rfl) (Nat.le_of_ble_eq_true rfl) ⟨Nat.le_of_ble_eq_true rfl, Nat.le_of_ble_eq_true rfl⟩ dX11_forged_60 ?_
    obtain ⟨m4, em4, h⟩ := ob_nm h
    rw [← em4]
    refine lv_istore_n (lv' := [(3, .int m4), (0, .ref (B + 0)), (1, .int v1), (4, .int v4), (5, .int v5)]) hx hb dX11_forged_63 rfl hl (by decide) rfl (fun ls hl => ?_)
    refine lv_iinc (v := v5 + 1) (lv' := [(5, .int (v5 + 1)), (3, .int m4), (0, .ref (B + 0)), (1, .int v1), (4, .int v4)]) hx hb dX11_forged_64 hl (k := 4) rfl rfl (by decide) rfl (fun ls hl => ?_)
    refine lv_goto (tgt := 38) hx hb dX11_forged_67 (by decide) ?_
    exact ih1 v1 m4 v4 (v5 + 1) r3.2 _ _ _ h hP hS (lv_sub hl [2, 3, 1, 4, 0] rfl)
set_option maxRecDepth 100000 in
set_option maxHeartbeats 4000000 in
theorem wl_X11_forged_38 (l : Launch) {V : Int32 × St} (C0 : XC D ct p s m args meth c cX11_forged 6 (some .int) RX11) (n0 : Nat) (ih0 : ∀ (v1 : Int32) (v3 : Int32) (v4 : Int32) (S : St) (H : Heap) (locs : List Loc) (ls : Array Slot), (lp n0 (l_X11_forged_28) (v1, v3, v4, S)).bind some = some V → MP D ct B Hb S H → va_S (AB B) s.heap H locs → lv_has ls 6 [(0, .ref (B + 0)), (1, .int v1), (3, .int v3), (4, .int v4)] → W p l e { frames := 6, cells := 0, slots := 0, locals := 141 } s m args below meth c H locs 0 0 (MQ below (qIw D ct B Hb V) args s 0 0 (AB B)) (F0 m 28 ls []))  : ∀ (n1 : Nat) (v1 : Int32) (v3 : Int32) (v4 : Int32) (v5 : Int32) (S : St) {H : Heap} {locs : List Loc} {ls : Array Slot}, (lp n1 (l_X11_forged_38) (v1, v3, v4, v5, S)).bind (lpF n0 (l_X11_forged_28) some) = some V → MP D ct B Hb S H → va_S (AB B) s.heap H locs → lv_has ls 6 [(0, .ref (B + 0)), (1, .int v1), (3, .int v3), (4, .int v4), (5, .int v5)] → W p l e { frames := 6, cells := 0, slots := 0, locals := 141 } s m args below meth c H locs 0 0 (MQ below (qIw D ct B Hb V) args s 0 0 (AB B)) (F0 m 38 ls []) := by
  intro n1
  induction n1 with
  | zero =>
    intro v1 v3 v4 v5 S H locs ls h hP hS hl
    exact (lp_0 h).elim
  | succ n1 ih1 =>
    intro v1 v3 v4 v5 S H locs ls h hP hS hl
    have h := lp_s h
    exact w_X11_forged_38 l C0 n0 ih0 n1 (fun v1 v3 v4 v5 S H locs ls h hP hS hl => ih1 v1 v3 v4 v5 S h hP hS hl) v1 v3 v4 v5 S h hP hS hl
set_option maxRecDepth 100000 in
set_option maxHeartbeats 4000000 in
theorem w_X11_forged_28 (l : Launch) {V : Int32 × St} (C0 : XC D ct p s m args meth c cX11_forged 6 (some .int) RX11) (n0 : Nat) (ih0 : ∀ (v1 : Int32) (v3 : Int32) (v4 : Int32) (S : St) (H : Heap) (locs : List Loc) (ls : Array Slot), (lp n0 (l_X11_forged_28) (v1, v3, v4, S)).bind some = some V → MP D ct B Hb S H → va_S (AB B) s.heap H locs → lv_has ls 6 [(0, .ref (B + 0)), (1, .int v1), (3, .int v3), (4, .int v4)] → W p l e { frames := 6, cells := 0, slots := 0, locals := 141 } s m args below meth c H locs 0 0 (MQ below (qIw D ct B Hb V) args s 0 0 (AB B)) (F0 m 28 ls [])) (v1 : Int32) (v3 : Int32) (v4 : Int32) (S : St) {H : Heap} {locs : List Loc} {ls : Array Slot} (h : (b_X11_forged_28 v1 v3 v4 S).bind (lpF n0 (l_X11_forged_28) some) = some V) (hP : MP D ct B Hb S H) (hS : va_S (AB B) s.heap H locs) (hl : lv_has ls 6 [(0, .ref (B + 0)), (1, .int v1), (3, .int v3), (4, .int v4)]) : W p l e { frames := 6, cells := 0, slots := 0, locals := 141 } s m args below meth c H locs 0 0 (MQ below (qIw D ct B Hb V) args s 0 0 (AB B)) (F0 m 28 ls []) := by
  obtain ⟨hx, hb, hr, hml, hown, hts, hK, hlocks, hN⟩ := id C0
  unfold b_X11_forged_28 at h
  refine lv_iload hx hb dX11_forged_28 (lv_at hl 3 rfl) ?_
  refine lv_bipush (v := 9) hx hb dX11_forged_30 (by decide) ?_
  refine lv_icmp_gt (tgt := 76) hx hb dX11_forged_32 (by decide) (fun z1 => ?_) (fun z1 => ?_)
  · have h := ob_t h z1
    have h := ob_mp h
    exact w_X11_forged_76 l C0 v1 v3 S h hP hS (lv_sub hl [0, 1, 2] rfl)
  · have h := ob_f h z1
    refine lv_iconst (v := 0) hx hb dX11_forged_35 (by decide) ?_
    refine lv_istore (lv' := [(5, .int 0), (0, .ref (B + 0)), (1, .int v1), (3, .int v3), (4, .int v4)]) hx hb dX11_forged_36 hl (by decide) rfl (fun ls hl => ?_)
    exact wl_X11_forged_38 l C0 n0 ih0 1000 v1 v3 v4 0 S h hP hS (lv_sub hl [1, 2, 3, 4, 0] rfl)
set_option maxRecDepth 100000 in
set_option maxHeartbeats 4000000 in
theorem wl_X11_forged_28 (l : Launch) {V : Int32 × St} (C0 : XC D ct p s m args meth c cX11_forged 6 (some .int) RX11)  : ∀ (n0 : Nat) (v1 : Int32) (v3 : Int32) (v4 : Int32) (S : St) {H : Heap} {locs : List Loc} {ls : Array Slot}, (lp n0 (l_X11_forged_28) (v1, v3, v4, S)).bind some = some V → MP D ct B Hb S H → va_S (AB B) s.heap H locs → lv_has ls 6 [(0, .ref (B + 0)), (1, .int v1), (3, .int v3), (4, .int v4)] → W p l e { frames := 6, cells := 0, slots := 0, locals := 141 } s m args below meth c H locs 0 0 (MQ below (qIw D ct B Hb V) args s 0 0 (AB B)) (F0 m 28 ls []) := by
  intro n0
  induction n0 with
  | zero =>
    intro v1 v3 v4 S H locs ls h hP hS hl
    exact (lp_0 h).elim
  | succ n0 ih0 =>
    intro v1 v3 v4 S H locs ls h hP hS hl
    have h := lp_s h
    exact w_X11_forged_28 l C0 n0 (fun v1 v3 v4 S H locs ls h hP hS hl => ih0 v1 v3 v4 S h hP hS hl) v1 v3 v4 S h hP hS hl
set_option maxRecDepth 100000 in
set_option maxHeartbeats 4000000 in
theorem w_X11_forged_0 (l : Launch) {V : Int32 × St} (C0 : XC D ct p s m args meth c cX11_forged 6 (some .int) RX11) (v1 : Int32) (S : St) {H : Heap} {locs : List Loc} {ls : Array Slot} (h : (b_X11_forged_0 v1 S).bind some = some V) (hP : MP D ct B Hb S H) (hS : va_S (AB B) s.heap H locs) (hl : lv_has ls 6 [(0, .ref (B + 0)), (1, .int v1)]) : W p l e { frames := 6, cells := 0, slots := 0, locals := 141 } s m args below meth c H locs 0 0 (MQ below (qIw D ct B Hb V) args s 0 0 (AB B)) (F0 m 0 ls []) := by
  obtain ⟨hx, hb, hr, hml, hown, hts, hK, hlocks, hN⟩ := id C0
  unfold b_X11_forged_0 at h
  refine lv_aload_n hx hb dX11_forged_0 rfl (lv_at hl 0 rfl) ?_
  refine lv_iload_n hx hb dX11_forged_1 rfl (lv_at hl 1 rfl) ?_
  obtain ⟨r1, hr1, h⟩ := ob_bd h
  refine n_I (kV (As := [.int v1]) C0 (c_X11_toldChoicesRefusal l v1 hr1) ⟨wd_886, wd_883, wd_885, wp_17, wd_1⟩ kd_X11_toldChoicesRefusal ⟨Nat.le_of_ble_eq_true rfl, Nat.le_of_ble_eq_true rfl⟩ hP (lay_X11 B ct S) rfl rfl hl.1 rfl (Nat.le_of_ble_eq_true rfl) dX11_forged_2 ⟨Nat.le_of_ble_eq_true rfl, Nat.le_of_ble_eq_true rfl⟩) hS (fun H locs hP hS => ?_)
  refine lv_istore_n (lv' := [(2, .int r1), (0, .ref (B + 0)), (1, .int v1)]) hx hb dX11_forged_5 rfl hl (by decide) rfl (fun ls hl => ?_)
  refine lv_iload_n hx hb dX11_forged_6 rfl (lv_at hl 0 rfl) ?_
  refine lv_if_eq (tgt := 12) hx hb dX11_forged_7 (by decide) (fun z2 => ?_) (fun z2 => ?_)
  · have h := ob_t h z2
    refine lv_aload_n hx hb dX11_forged_12 rfl (lv_at hl 1 rfl) ?_
    refine x_get C0 hP (lay_X11 B ct S) rfl inG11 1 (by decide) wd_220 (fun _ h => h) rfl dX11_forged_13 ?_
    refine lv_aload_n hx hb dX11_forged_16 rfl (lv_at hl 1 rfl) ?_
    refine x_get C0 hP (lay_X11 B ct S) rfl inG11 0 (by decide) wd_219 (fun _ h => h) rfl dX11_forged_17 ?_
    obtain ⟨r3, hr3, h⟩ := ob_bd h
    refine n_Vw (kV (As := [.ref (B + 1)]) C0 (c_X10_become l 19 1 (Or.inr (Or.inl rfl)) (Or.inl rfl) hr3) ⟨wd_267, wd_264, wd_265, wd_266, wd_2⟩ kd_X10_become ⟨Nat.le_of_ble_eq_true rfl, Nat.le_of_ble_eq_true rfl⟩ hP (lay_X10 B ct S (Or.inr (Or.inl rfl))) rfl rfl hl.1 rfl (Nat.le_of_ble_eq_true rfl) dX11_forged_20 ⟨Nat.le_of_ble_eq_true rfl, Nat.le_of_ble_eq_true rfl⟩) hS (fun H locs hP hS => ?_)
    refine lv_iconst (v := 0) hx hb dX11_forged_23 (by decide) ?_
    refine lv_istore_n (lv' := [(3, .int 0), (2, .int r1), (0, .ref (B + 0)), (1, .int v1)]) hx hb dX11_forged_24 rfl hl (by decide) rfl (fun ls hl => ?_)
    refine lv_iconst (v := 0) hx hb dX11_forged_25 (by decide) ?_
    refine lv_istore (lv' := [(4, .int 0), (3, .int 0), (2, .int r1), (0, .ref (B + 0)), (1, .int v1)]) hx hb dX11_forged_26 hl (by decide) rfl (fun ls hl => ?_)
    exact wl_X11_forged_28 l C0 1000 v1 0 0 r3 h hP hS (lv_sub hl [3, 4, 1, 0] rfl)
  · have h := ob_f h z2
    refine lv_iload_n hx hb dX11_forged_10 rfl (lv_at hl 0 rfl) ?_
    exact r_Iw C0 hP hS h dX11_forged_11
set_option maxRecDepth 100000 in
set_option maxHeartbeats 4000000 in
theorem c_X11_forged (l : Launch) (a1 : Int32) {D : va_G} {ct : Nat → ClassId} {B : Nat} {Hb : Heap} {S : St} {V : Int32 × St} (h : L_X11_forged a1 S = some V) : Met l yX11_forged (Cond.code yX11_forged cX11_forged 6 (some .int) :: tG) { frames := 6, cells := 0, slots := 0, locals := 141 } (va_Pc [.ref (B + 0), .int a1] (MPK D ct B Hb S)) (qIw D ct B Hb V) 0 0 (AB B) := by
  refine mk_met (by decide +kernel) (Nat.le_of_ble_eq_true rfl) (fun p e s m args below meth c ls C0 hP hl _ => ?_)
  have h := ob_of h
  exact w_X11_forged_0 l C0 a1 S h hP va_S.rf (lv_sub hl [0, 1] rfl)
set_option maxRecDepth 100000 in
set_option maxHeartbeats 4000000 in
theorem w_X11_judge_99 (l : Launch) {V : Int32 × St} (C0 : XC D ct p s m args meth c cX11_judge 6 (some .int) RX11) (n0 : Nat) (ih0 : ∀ (v1 : Int32) (v4 : Nat) (v5 : Int32) (hv4 : isRow v4) (S : St) (H : Heap) (locs : List Loc) (ls : Array Slot), (lp n0 (l_X11_judge_46) (v1, v4, v5, S)).bind some = some V → MP D ct B Hb S H → va_S (AB B) s.heap H locs → lv_has ls 6 [(0, .ref (B + 0)), (1, .int v1), (4, .ref (B + v4)), (5, .int v5)] → W p l e { frames := 5, cells := 0, slots := 0, locals := 117 } s m args below meth c H locs 0 0 (MQ below (qIw D ct B Hb V) args s 0 0 (AB B)) (F0 m 46 ls [])) (v1 : Int32) (v4 : Nat) (v5 : Int32) (hv4 : isRow v4) (S : St) {H : Heap} {locs : List Loc} {ls : Array Slot} (h : (b_X11_judge_99 v1 v4 v5 S).bind (lpF n0 (l_X11_judge_46) some) = some V) (hP : MP D ct B Hb S H) (hS : va_S (AB B) s.heap H locs) (hl : lv_has ls 6 [(0, .ref (B + 0)), (1, .int v1), (4, .ref (B + v4)), (5, .int v5)]) : W p l e { frames := 5, cells := 0, slots := 0, locals := 117 } s m args below meth c H locs 0 0 (MQ below (qIw D ct B Hb V) args s 0 0 (AB B)) (F0 m 99 ls []) := by
  obtain ⟨hx, hb, hr, hml, hown, hts, hK, hlocks, hN⟩ := id C0
  unfold b_X11_judge_99 at h
  refine lv_iinc (v := v5 + 1) (lv' := [(5, .int (v5 + 1)), (0, .ref (B + 0)), (1, .int v1), (4, .ref (B + v4))]) hx hb dX11_judge_99 hl (k := 3) rfl rfl (by decide) rfl (fun ls hl => ?_)
  refine lv_goto (tgt := 46) hx hb dX11_judge_102 (by decide) ?_
  exact ih0 v1 v4 (v5 + 1) hv4 S _ _ _ h hP hS (lv_sub hl [1, 2, 3, 0] rfl)
set_option maxRecDepth 100000 in
set_option maxHeartbeats 4000000 in
theorem w_X11_judge_46 (l : Launch) {V : Int32 × St} (C0 : XC D ct p s m args meth c cX11_judge 6 (some .int) RX11) (n0 : Nat) (ih0 : ∀ (v1 : Int32) (v4 : Nat) (v5 : Int32) (hv4 : isRow v4) (S : St) (H : Heap) (locs : List Loc) (ls : Array Slot), (lp n0 (l_X11_judge_46) (v1, v4, v5, S)).bind some = some V → MP D ct B Hb S H → va_S (AB B) s.heap H locs → lv_has ls 6 [(0, .ref (B + 0)), (1, .int v1), (4, .ref (B + v4)), (5, .int v5)] → W p l e { frames := 5, cells := 0, slots := 0, locals := 117 } s m args below meth c H locs 0 0 (MQ below (qIw D ct B Hb V) args s 0 0 (AB B)) (F0 m 46 ls [])) (v1 : Int32) (v4 : Nat) (v5 : Int32) (hv4 : isRow v4) (S : St) {H : Heap} {locs : List Loc} {ls : Array Slot} (h : (b_X11_judge_46 v1 v4 v5 S).bind (lpF n0 (l_X11_judge_46) some) = some V) (hP : MP D ct B Hb S H) (hS : va_S (AB B) s.heap H locs) (hl : lv_has ls 6 [(0, .ref (B + 0)), (1, .int v1), (4, .ref (B + v4)), (5, .int v5)]) : W p l e { frames := 5, cells := 0, slots := 0, locals := 117 } s m args below meth c H locs 0 0 (MQ below (qIw D ct B Hb V) args s 0 0 (AB B)) (F0 m 46 ls []) := by
  obtain ⟨hx, hb, hr, hml, hown, hts, hK, hlocks, hN⟩ := id C0
  unfold b_X11_judge_46 at h
  refine lv_iload hx hb dX11_judge_46 (lv_at hl 3 rfl) ?_
  refine lv_aload hx hb dX11_judge_48 (lv_at hl 2 rfl) ?_
  refine x_get C0 hP (lay_X8 B ct S hv4) rfl inG8 1 (by decide) wd_207 (fun _ h => h) rfl dX11_judge_50 ?_
  refine lv_icmp_ge (tgt := 105) hx hb dX11_judge_53 (by decide) (fun z1 => ?_) (fun z1 => ?_)
  · have h := ob_t h z1
    refine lv_bipush (v := (-4)) hx hb dX11_judge_105 (by decide) ?_
    exact r_Iw C0 hP hS h dX11_judge_107
  · have h := ob_f h z1
    refine lv_aload hx hb dX11_judge_56 (lv_at hl 2 rfl) ?_
    refine lv_iload hx hb dX11_judge_58 (lv_at hl 3 rfl) ?_
    obtain ⟨r2, hr2, h⟩ := ob_bd h
    refine n_I (kV (As := [.int v5]) C0 (c_X8_isSkipped l v4 hv4 v5 hr2) ⟨wd_894, wd_891, wd_892, wd_893, wd_5⟩ kd_X8_isSkipped ⟨Nat.le_of_ble_eq_true rfl, Nat.le_of_ble_eq_true rfl⟩ hP (lay_X8 B ct S hv4) rfl rfl hl.1 rfl (Nat.le_of_ble_eq_true rfl) dX11_judge_60 ⟨Nat.le_of_ble_eq_true rfl, Nat.le_of_ble_eq_true rfl⟩) hS (fun H locs hP hS => ?_)
    refine lv_if_eq (tgt := 69) hx hb dX11_judge_63 (by decide) (fun z3 => ?_) (fun z3 => ?_)
    · have h := ob_t h z3
      refine lv_iload hx hb dX11_judge_69 (lv_at hl 3 rfl) ?_
      refine lv_bipush (v := 23) hx hb dX11_judge_71 (by decide) ?_
      refine lv_icmp_gt (tgt := 96) hx hb dX11_judge_73 (by decide) (fun z4 => ?_) (fun z4 => ?_)
      · have h := ob_t h z4
        refine lv_iload hx hb dX11_judge_96 (lv_at hl 3 rfl) ?_
        exact r_Iw C0 hP hS h dX11_judge_98
      · have h := ob_f h z4
        refine lv_aload hx hb dX11_judge_76 (lv_at hl 2 rfl) ?_
        refine lv_iload hx hb dX11_judge_78 (lv_at hl 3 rfl) ?_
        obtain ⟨r5, hr5, h⟩ := ob_bd h
        refine n_I (kV (As := [.int v5]) C0 (c_X8_at l v4 hv4 v5 hr5) ⟨wd_281, wd_896, wd_279, wd_280, wd_5⟩ kd_X8_at ⟨Nat.le_of_ble_eq_true rfl, Nat.le_of_ble_eq_true rfl⟩ hP (lay_X8 B ct S hv4) rfl rfl hl.1 rfl (Nat.le_of_ble_eq_true rfl) dX11_judge_80 ⟨Nat.le_of_ble_eq_true rfl, Nat.le_of_ble_eq_true rfl⟩) hS (fun H locs hP hS => ?_)
        refine lv_aload_n hx hb dX11_judge_83 rfl (lv_at hl 0 rfl) ?_
        refine x_get C0 hP (lay_X11 B ct S) rfl inG11 4 (by decide) wd_223 (fun _ h => h) rfl dX11_judge_84 ?_
        refine lv_iload_n hx hb dX11_judge_87 rfl (lv_at hl 1 rfl) ?_
        refine lv_iload hx hb dX11_judge_88 (lv_at hl 3 rfl) ?_
        obtain ⟨r6, hr6, h⟩ := ob_bd h
        refine n_I (kV (As := [.int v1, .int v5]) C0 (c_X2_coinsAt l v1 v5 hr6) ⟨wd_725, wd_861, wd_723, wd_724, wd_4⟩ kd_X2_coinsAt ⟨Nat.le_of_ble_eq_true rfl, Nat.le_of_ble_eq_true rfl⟩ hP (lay_X2 B ct S) rfl rfl hl.1 rfl (Nat.le_of_ble_eq_true rfl) dX11_judge_90 ⟨Nat.le_of_ble_eq_true rfl, Nat.le_of_ble_eq_true rfl⟩) hS (fun H locs hP hS => ?_)
        refine lv_icmp_eq (tgt := 99) hx hb dX11_judge_93 (by decide) (fun z7 => ?_) (fun z7 => ?_)
        · have h := ob_t h z7
          exact w_X11_judge_99 l C0 n0 ih0 v1 v4 v5 hv4 S h hP hS (lv_sub hl [0, 1, 2, 3] rfl)
        · have h := ob_f h z7
          refine lv_iload hx hb dX11_judge_96 (lv_at hl 3 rfl) ?_
          exact r_Iw C0 hP hS h dX11_judge_98
    · have h := ob_f h z3
      refine lv_goto (tgt := 99) hx hb dX11_judge_66 (by decide) ?_
      exact w_X11_judge_99 l C0 n0 ih0 v1 v4 v5 hv4 S h hP hS (lv_sub hl [0, 1, 2, 3] rfl)
set_option maxRecDepth 100000 in
set_option maxHeartbeats 4000000 in
theorem wl_X11_judge_46 (l : Launch) {V : Int32 × St} (C0 : XC D ct p s m args meth c cX11_judge 6 (some .int) RX11)  : ∀ (n0 : Nat) (v1 : Int32) (v4 : Nat) (v5 : Int32) (hv4 : isRow v4) (S : St) {H : Heap} {locs : List Loc} {ls : Array Slot}, (lp n0 (l_X11_judge_46) (v1, v4, v5, S)).bind some = some V → MP D ct B Hb S H → va_S (AB B) s.heap H locs → lv_has ls 6 [(0, .ref (B + 0)), (1, .int v1), (4, .ref (B + v4)), (5, .int v5)] → W p l e { frames := 5, cells := 0, slots := 0, locals := 117 } s m args below meth c H locs 0 0 (MQ below (qIw D ct B Hb V) args s 0 0 (AB B)) (F0 m 46 ls []) := by
  intro n0
  induction n0 with
  | zero =>
    intro v1 v4 v5 hv4 S H locs ls h hP hS hl
    exact (lp_0 h).elim
  | succ n0 ih0 =>
    intro v1 v4 v5 hv4 S H locs ls h hP hS hl
    have h := lp_s h
    exact w_X11_judge_46 l C0 n0 (fun v1 v4 v5 hv4 S H locs ls h hP hS hl => ih0 v1 v4 v5 hv4 S h hP hS hl) v1 v4 v5 hv4 S h hP hS hl
set_option maxRecDepth 100000 in
set_option maxHeartbeats 4000000 in
theorem w_X11_judge_0 (l : Launch) {V : Int32 × St} (C0 : XC D ct p s m args meth c cX11_judge 6 (some .int) RX11) (v1 : Int32) (v2 : Int32) (S : St) {H : Heap} {locs : List Loc} {ls : Array Slot} (h : (b_X11_judge_0 v1 v2 S).bind some = some V) (hP : MP D ct B Hb S H) (hS : va_S (AB B) s.heap H locs) (hl : lv_has ls 6 [(0, .ref (B + 0)), (1, .int v1), (2, .int v2)]) : W p l e { frames := 5, cells := 0, slots := 0, locals := 117 } s m args below meth c H locs 0 0 (MQ below (qIw D ct B Hb V) args s 0 0 (AB B)) (F0 m 0 ls []) := by
  obtain ⟨hx, hb, hr, hml, hown, hts, hK, hlocks, hN⟩ := id C0
  unfold b_X11_judge_0 at h
  refine lv_aload_n hx hb dX11_judge_0 rfl (lv_at hl 0 rfl) ?_
  refine lv_iload_n hx hb dX11_judge_1 rfl (lv_at hl 1 rfl) ?_
  obtain ⟨r1, hr1, h⟩ := ob_bd h
  refine n_I (kV (As := [.int v1]) C0 (c_X11_isNobody l v1 hr1) ⟨wd_477, wd_474, wd_476, wp_2, wd_1⟩ kd_X11_isNobody ⟨Nat.le_of_ble_eq_true rfl, Nat.le_of_ble_eq_true rfl⟩ hP (lay_X11 B ct S) rfl rfl hl.1 rfl (Nat.le_of_ble_eq_true rfl) dX11_judge_2 ⟨Nat.le_of_ble_eq_true rfl, Nat.le_of_ble_eq_true rfl⟩) hS (fun H locs hP hS => ?_)
  refine lv_if_eq (tgt := 10) hx hb dX11_judge_5 (by decide) (fun z2 => ?_) (fun z2 => ?_)
  · have h := ob_t h z2
    refine lv_aload_n hx hb dX11_judge_10 rfl (lv_at hl 0 rfl) ?_
    refine lv_iload_n hx hb dX11_judge_11 rfl (lv_at hl 2 rfl) ?_
    refine lv_iconst (v := 2) hx hb dX11_judge_12 (by decide) ?_
    obtain ⟨r3, hr3, h⟩ := ob_bd h
    refine n_I (kV (As := [.int v2, .int 2]) C0 (c_X11_shelfRefusal l v2 2 hr3) ⟨wd_260, wd_257, wd_259, wp_0, wd_1⟩ kd_X11_shelfRefusal ⟨Nat.le_of_ble_eq_true rfl, Nat.le_of_ble_eq_true rfl⟩ hP (lay_X11 B ct S) rfl rfl hl.1 rfl (Nat.le_of_ble_eq_true rfl) dX11_judge_13 ⟨Nat.le_of_ble_eq_true rfl, Nat.le_of_ble_eq_true rfl⟩) hS (fun H locs hP hS => ?_)
    refine lv_istore_n (lv' := [(3, .int r3), (0, .ref (B + 0)), (1, .int v1), (2, .int v2)]) hx hb dX11_judge_16 rfl hl (by decide) rfl (fun ls hl => ?_)
    refine lv_iload_n hx hb dX11_judge_17 rfl (lv_at hl 0 rfl) ?_
    refine lv_if_eq (tgt := 23) hx hb dX11_judge_18 (by decide) (fun z4 => ?_) (fun z4 => ?_)
    · have h := ob_t h z4
      refine lv_aload_n hx hb dX11_judge_23 rfl (lv_at hl 1 rfl) ?_
      refine x_get C0 hP (lay_X11 B ct S) rfl inG11 4 (by decide) wd_223 (fun _ h => h) rfl dX11_judge_24 ?_
      refine lv_aload_n hx hb dX11_judge_27 rfl (lv_at hl 1 rfl) ?_
      refine x_get C0 hP (lay_X11 B ct S) rfl inG11 0 (by decide) wd_219 (fun _ h => h) rfl dX11_judge_28 ?_
      refine lv_iconst (v := (-1)) hx hb dX11_judge_31 (by decide) ?_
      obtain ⟨r5, hr5, h⟩ := ob_bd h
      refine n_Vw (kV (As := [.ref (B + 1), .int ((-1))]) C0 (c_X2_run l 1 (Or.inl rfl) ((-1)) hr5) ⟨wd_628, wd_625, wd_626, wd_627, wd_4⟩ kd_X2_run ⟨Nat.le_of_ble_eq_true rfl, Nat.le_of_ble_eq_true rfl⟩ hP (lay_X2 B ct S) rfl rfl hl.1 rfl (Nat.le_of_ble_eq_true rfl) dX11_judge_32 ⟨Nat.le_of_ble_eq_true rfl, Nat.le_of_ble_eq_true rfl⟩) hS (fun H locs hP hS => ?_)
      refine lv_aload_n hx hb dX11_judge_35 rfl (lv_at hl 1 rfl) ?_
      refine x_get C0 hP (lay_X11 B ct r5) rfl inG11 7 (by decide) wd_226 (fun _ h => h) rfl dX11_judge_36 ?_
      refine lv_iload_n hx hb dX11_judge_39 rfl (lv_at hl 3 rfl) ?_
      obtain ⟨g6, h⟩ := ob_gd h
      refine x_aald (v := .ref (B + (70 + 2 * v2.toNatClampNeg))) C0 hP (lay_68 B ct r5) rfl rfl g6 rfl dX11_judge_40 ?_
      refine lv_astore (lv' := [(4, .ref (B + (70 + 2 * v2.toNatClampNeg))), (3, .int r3), (0, .ref (B + 0)), (1, .int v1), (2, .int v2)]) hx hb dX11_judge_41 hl (by decide) rfl (fun ls hl => ?_)
      refine lv_iconst (v := 0) hx hb dX11_judge_43 (by decide) ?_
      refine lv_istore (lv' := [(5, .int 0), (4, .ref (B + (70 + 2 * v2.toNatClampNeg))), (3, .int r3), (0, .ref (B + 0)), (1, .int v1), (2, .int v2)]) hx hb dX11_judge_44 hl (by decide) rfl (fun ls hl => ?_)
      exact wl_X11_judge_46 l C0 1000 v1 (70 + 2 * v2.toNatClampNeg) 0 (isRow_of g6) r5 h hP hS (lv_sub hl [3, 4, 1, 0] rfl)
    · have h := ob_f h z4
      refine lv_iload_n hx hb dX11_judge_21 rfl (lv_at hl 0 rfl) ?_
      exact r_Iw C0 hP hS h dX11_judge_22
  · have h := ob_f h z2
    refine lv_iconst (v := (-1)) hx hb dX11_judge_8 (by decide) ?_
    exact r_Iw C0 hP hS h dX11_judge_9
set_option maxRecDepth 100000 in
set_option maxHeartbeats 4000000 in
theorem c_X11_judge (l : Launch) (a1 : Int32) (a2 : Int32) {D : va_G} {ct : Nat → ClassId} {B : Nat} {Hb : Heap} {S : St} {V : Int32 × St} (h : L_X11_judge a1 a2 S = some V) : Met l yX11_judge (Cond.code yX11_judge cX11_judge 6 (some .int) :: tG) { frames := 5, cells := 0, slots := 0, locals := 117 } (va_Pc [.ref (B + 0), .int a1, .int a2] (MPK D ct B Hb S)) (qIw D ct B Hb V) 0 0 (AB B) := by
  refine mk_met (by decide +kernel) (Nat.le_of_ble_eq_true rfl) (fun p e s m args below meth c ls C0 hP hl _ => ?_)
  have h := ob_of h
  exact w_X11_judge_0 l C0 a1 a2 S h hP va_S.rf (lv_sub hl [0, 1, 2] rfl)
set_option maxRecDepth 100000 in
set_option maxHeartbeats 4000000 in
theorem w_X11_seeds_154 (l : Launch) {V : Int32 × St} (C0 : XC D ct p s m args meth c cX11_seeds 9 (some .int) RX11) (v3 : Int32) (v5 : Int32) (v6 : Int32) (S : St) {H : Heap} {locs : List Loc} {ls : Array Slot} (h : (b_X11_seeds_154 v3 v5 v6 S).bind some = some V) (hP : MP D ct B Hb S H) (hS : va_S (AB B) s.heap H locs) (hl : lv_has ls 9 [(3, .int v3), (5, .int v5), (6, .int v6)]) : W p l e { frames := 5, cells := 0, slots := 0, locals := 117 } s m args below meth c H locs 0 0 (MQ below (qIw D ct B Hb V) args s 0 0 (AB B)) (F0 m 154 ls []) := by
  obtain ⟨hx, hb, hr, hml, hown, hts, hK, hlocks, hN⟩ := id C0
  unfold b_X11_seeds_154 at h
  refine lv_iload_n hx hb dX11_seeds_154 rfl (lv_at hl 0 rfl) ?_
  refine lv_if_ne (tgt := 163) hx hb dX11_seeds_155 (by decide) (fun z1 => ?_) (fun z1 => ?_)
  · have h := ob_f h z1
    refine lv_iload hx hb dX11_seeds_163 (lv_at hl 2 rfl) ?_
    exact r_Iw C0 hP hS h dX11_seeds_165
  · have h := ob_t h z1
    refine lv_iload hx hb dX11_seeds_158 (lv_at hl 1 rfl) ?_
    refine lv_goto (tgt := 165) hx hb dX11_seeds_160 (by decide) ?_
    exact r_Iw C0 hP hS h dX11_seeds_165
set_option maxRecDepth 100000 in
set_option maxHeartbeats 4000000 in
theorem w_X11_seeds_109 (l : Launch) {V : Int32 × St} (C0 : XC D ct p s m args meth c cX11_seeds 9 (some .int) RX11) (n0 : Nat) (ih0 : ∀ (v1 : Int32) (v3 : Int32) (v4 : Int32) (v5 : Int32) (v6 : Int32) (v7 : Int32) (S : St) (H : Heap) (locs : List Loc) (ls : Array Slot), (lp n0 (l_X11_seeds_44) (v1, v3, v4, v5, v6, v7, S)).bind some = some V → MP D ct B Hb S H → va_S (AB B) s.heap H locs → lv_has ls 9 [(0, .ref (B + 0)), (1, .int v1), (3, .int v3), (4, .int v4), (5, .int v5), (6, .int v6), (7, .int v7)] → W p l e { frames := 5, cells := 0, slots := 0, locals := 117 } s m args below meth c H locs 0 0 (MQ below (qIw D ct B Hb V) args s 0 0 (AB B)) (F0 m 44 ls [])) (v1 : Int32) (v3 : Int32) (v4 : Int32) (v5 : Int32) (v6 : Int32) (v7 : Int32) (S : St) {H : Heap} {locs : List Loc} {ls : Array Slot} (h : (b_X11_seeds_109 v1 v3 v4 v5 v6 v7 S).bind (lpF n0 (l_X11_seeds_44) some) = some V) (hP : MP D ct B Hb S H) (hS : va_S (AB B) s.heap H locs) (hl : lv_has ls 9 [(0, .ref (B + 0)), (1, .int v1), (3, .int v3), (4, .int v4), (5, .int v5), (6, .int v6), (7, .int v7)]) : W p l e { frames := 5, cells := 0, slots := 0, locals := 117 } s m args below meth c H locs 0 0 (MQ below (qIw D ct B Hb V) args s 0 0 (AB B)) (F0 m 109 ls []) := by
  obtain ⟨hx, hb, hr, hml, hown, hts, hK, hlocks, hN⟩ := id C0
  unfold b_X11_seeds_109 at h
  refine lv_aload_n hx hb dX11_seeds_109 rfl (lv_at hl 0 rfl) ?_
  refine x_get C0 hP (lay_X11 B ct S) rfl inG11 4 (by decide) wd_223 (fun _ h => h) rfl dX11_seeds_110 ?_
  refine lv_aload_n hx hb dX11_seeds_113 rfl (lv_at hl 0 rfl) ?_
  refine x_get C0 hP (lay_X11 B ct S) rfl inG11 1 (by decide) wd_220 (fun _ h => h) rfl dX11_seeds_114 ?_
  refine lv_iconst (v := (-1)) hx hb dX11_seeds_117 (by decide) ?_
  obtain ⟨r1, hr1, h⟩ := ob_bd h
  refine n_Vw (kV (As := [.ref (B + 19), .int ((-1))]) C0 (c_X2_run l 19 (Or.inr (Or.inl rfl)) ((-1)) hr1) ⟨wd_628, wd_625, wd_626, wd_627, wd_4⟩ kd_X2_run ⟨Nat.le_of_ble_eq_true rfl, Nat.le_of_ble_eq_true rfl⟩ hP (lay_X2 B ct S) rfl rfl hl.1 rfl (Nat.le_of_ble_eq_true rfl) dX11_seeds_118 ⟨Nat.le_of_ble_eq_true rfl, Nat.le_of_ble_eq_true rfl⟩) hS (fun H locs hP hS => ?_)
  refine lv_iload hx hb dX11_seeds_121 (lv_at hl 4 rfl) ?_
  refine lv_aload_n hx hb dX11_seeds_123 rfl (lv_at hl 0 rfl) ?_
  refine x_get C0 hP (lay_X11 B ct r1) rfl inG11 4 (by decide) wd_223 (fun _ h => h) rfl dX11_seeds_124 ?_
  obtain ⟨r2, hr2, h⟩ := ob_bd h
  refine n_I (kV (As := []) C0 (c_X2_sayYes l hr2) ⟨wd_804, wd_801, wd_802, wd_803, wd_4⟩ kd_X2_sayYes ⟨Nat.le_of_ble_eq_true rfl, Nat.le_of_ble_eq_true rfl⟩ hP (lay_X2 B ct r1) rfl rfl hl.1 rfl (Nat.le_of_ble_eq_true rfl) dX11_seeds_127 ⟨Nat.le_of_ble_eq_true rfl, Nat.le_of_ble_eq_true rfl⟩) hS (fun H locs hP hS => ?_)
  obtain ⟨r3, hr3, h⟩ := ob_bd h
  refine n_I (kS (As := [.int r2]) C0 (c_J6_bitCount_0f7a4 l r2 hr3) ⟨wd_807, wd_805, wd_806, wd_20⟩ kd_J6_bitCount_0f7a4 ⟨Nat.le_of_ble_eq_true rfl, Nat.le_of_ble_eq_true rfl⟩ hP rfl hl.1 rfl (Nat.le_of_ble_eq_true rfl) dX11_seeds_130 ⟨Nat.le_of_ble_eq_true rfl, Nat.le_of_ble_eq_true rfl⟩) hS (fun H locs hP hS => ?_)
  refine lv_iadd hx hb dX11_seeds_133 ?_
  refine lv_istore (lv' := [(5, .int (v5 + r3)), (0, .ref (B + 0)), (1, .int v1), (3, .int v3), (4, .int v4), (6, .int v6), (7, .int v7)]) hx hb dX11_seeds_134 hl (by decide) rfl (fun ls hl => ?_)
  refine lv_iload hx hb dX11_seeds_136 (lv_at hl 5 rfl) ?_
  refine lv_aload_n hx hb dX11_seeds_138 rfl (lv_at hl 1 rfl) ?_
  refine x_get C0 hP (lay_X11 B ct r1) rfl inG11 4 (by decide) wd_223 (fun _ h => h) rfl dX11_seeds_139 ?_
  obtain ⟨r4, hr4, h⟩ := ob_bd h
  refine n_I (kV (As := []) C0 (c_X2_howManySold l hr4) ⟨wd_745, wd_913, wd_743, wd_744, wd_4⟩ kd_X2_howManySold ⟨Nat.le_of_ble_eq_true rfl, Nat.le_of_ble_eq_true rfl⟩ hP (lay_X2 B ct r1) rfl rfl hl.1 rfl (Nat.le_of_ble_eq_true rfl) dX11_seeds_142 ⟨Nat.le_of_ble_eq_true rfl, Nat.le_of_ble_eq_true rfl⟩) hS (fun H locs hP hS => ?_)
  refine lv_iadd hx hb dX11_seeds_145 ?_
  refine lv_istore (lv' := [(6, .int (v6 + r4)), (5, .int (v5 + r3)), (0, .ref (B + 0)), (1, .int v1), (3, .int v3), (4, .int v4), (7, .int v7)]) hx hb dX11_seeds_146 hl (by decide) rfl (fun ls hl => ?_)
  refine lv_iinc (v := v7 + 1) (lv' := [(7, .int (v7 + 1)), (6, .int (v6 + r4)), (5, .int (v5 + r3)), (0, .ref (B + 0)), (1, .int v1), (3, .int v3), (4, .int v4)]) hx hb dX11_seeds_148 hl (k := 6) rfl rfl (by decide) rfl (fun ls hl => ?_)
  refine lv_goto (tgt := 44) hx hb dX11_seeds_151 (by decide) ?_
  exact ih0 v1 v3 v4 (v5 + r3) (v6 + r4) (v7 + 1) r1 _ _ _ h hP hS (lv_sub hl [3, 4, 5, 6, 2, 1, 0] rfl)
set_option maxRecDepth 100000 in
set_option maxHeartbeats 4000000 in
theorem w_X11_seeds_53 (l : Launch) {V : Int32 × St} (C0 : XC D ct p s m args meth c cX11_seeds 9 (some .int) RX11) (n0 : Nat) (ih0 : ∀ (v1 : Int32) (v3 : Int32) (v4 : Int32) (v5 : Int32) (v6 : Int32) (v7 : Int32) (S : St) (H : Heap) (locs : List Loc) (ls : Array Slot), (lp n0 (l_X11_seeds_44) (v1, v3, v4, v5, v6, v7, S)).bind some = some V → MP D ct B Hb S H → va_S (AB B) s.heap H locs → lv_has ls 9 [(0, .ref (B + 0)), (1, .int v1), (3, .int v3), (4, .int v4), (5, .int v5), (6, .int v6), (7, .int v7)] → W p l e { frames := 5, cells := 0, slots := 0, locals := 117 } s m args below meth c H locs 0 0 (MQ below (qIw D ct B Hb V) args s 0 0 (AB B)) (F0 m 44 ls [])) (n1 : Nat) (ih1 : ∀ (v1 : Int32) (v3 : Int32) (v4 : Int32) (v5 : Int32) (v6 : Int32) (v7 : Int32) (v8 : Int32) (S : St) (H : Heap) (locs : List Loc) (ls : Array Slot), (lp n1 (l_X11_seeds_53) (v1, v3, v4, v5, v6, v7, v8, S)).bind (lpF n0 (l_X11_seeds_44) some) = some V → MP D ct B Hb S H → va_S (AB B) s.heap H locs → lv_has ls 9 [(0, .ref (B + 0)), (1, .int v1), (3, .int v3), (4, .int v4), (5, .int v5), (6, .int v6), (7, .int v7), (8, .int v8)] → W p l e { frames := 5, cells := 0, slots := 0, locals := 117 } s m args below meth c H locs 0 0 (MQ below (qIw D ct B Hb V) args s 0 0 (AB B)) (F0 m 53 ls [])) (v1 : Int32) (v3 : Int32) (v4 : Int32) (v5 : Int32) (v6 : Int32) (v7 : Int32) (v8 : Int32) (S : St) {H : Heap} {locs : List Loc} {ls : Array Slot} (h : (b_X11_seeds_53 v1 v3 v4 v5 v6 v7 v8 S).bind (lpF n1 (l_X11_seeds_53) (lpF n0 (l_X11_seeds_44) some)) = some V) (hP : MP D ct B Hb S H) (hS : va_S (AB B) s.heap H locs) (hl : lv_has ls 9 [(0, .ref (B + 0)), (1, .int v1), (3, .int v3), (4, .int v4), (5, .int v5), (6, .int v6), (7, .int v7), (8, .int v8)]) : W p l e { frames := 5, cells := 0, slots := 0, locals := 117 } s m args below meth c H locs 0 0 (MQ below (qIw D ct B Hb V) args s 0 0 (AB B)) (F0 m 53 ls []) := by
  obtain ⟨hx, hb, hr, hml, hown, hts, hK, hlocks, hN⟩ := id C0
  unfold b_X11_seeds_53 at h
  refine lv_iload hx hb dX11_seeds_53 (lv_at hl 7 rfl) ?_
  refine lv_aload_n hx hb dX11_seeds_55 rfl (lv_at hl 0 rfl) ?_
  refine x_get C0 hP (lay_X11 B ct S) rfl inG11 1 (by decide) wd_220 (fun _ h => h) rfl dX11_seeds_56 ?_
  refine x_get C0 hP (lay_X10 B ct S (Or.inr (Or.inl rfl))) rfl inG10 0 (by decide) wd_63 (fun _ h => h) rfl dX11_seeds_59 ?_
  refine lv_icmp_ge (tgt := 109) hx hb dX11_seeds_62 (by decide) (fun z1 => ?_) (fun z1 => ?_)
  · have h := ob_t h z1
    have h := ob_mp h
    exact w_X11_seeds_109 l C0 n0 ih0 v1 v3 v4 v5 v6 v7 S h hP hS (lv_sub hl [0, 1, 2, 3, 4, 5, 6] rfl)
  · have h := ob_f h z1
    refine lv_iload hx hb dX11_seeds_65 (lv_at hl 3 rfl) ?_
    refine lv_ldcw (v := 1103515245) hx hb hown (hts _ wd_910) dX11_seeds_67 ?_
    refine lv_imul hx hb dX11_seeds_70 ?_
    refine lv_sipush (v := 12345) hx hb dX11_seeds_71 (by decide) ?_
    refine lv_iadd hx hb dX11_seeds_74 ?_
    refine lv_istore (lv' := [(4, .int ((v4 * 1103515245) + 12345)), (0, .ref (B + 0)), (1, .int v1), (3, .int v3), (5, .int v5), (6, .int v6), (7, .int v7), (8, .int v8)]) hx hb dX11_seeds_75 hl (by decide) rfl (fun ls hl => ?_)
    refine lv_aload_n hx hb dX11_seeds_77 rfl (lv_at hl 1 rfl) ?_
    refine x_get C0 hP (lay_X11 B ct S) rfl inG11 1 (by decide) wd_220 (fun _ h => h) rfl dX11_seeds_78 ?_
    refine x_get C0 hP (lay_X10 B ct S (Or.inr (Or.inl rfl))) rfl inG10 4 (by decide) wd_74 (fun _ h => h) rfl dX11_seeds_81 ?_
    refine lv_iload hx hb dX11_seeds_84 (lv_at hl 7 rfl) ?_
    refine lv_iload hx hb dX11_seeds_86 (lv_at hl 0 rfl) ?_
    refine lv_ldcw (v := 2147483647) hx hb hown (hts _ wd_911) dX11_seeds_88 ?_
    refine lv_iand hx hb dX11_seeds_91 ?_
    refine lv_ldcw (v := 65536) hx hb hown (hts _ wd_912) dX11_seeds_92 ?_
    refine lv_idiv hx hb dX11_seeds_95 (by decide) ?_
    refine lv_bipush (v := 19) hx hb dX11_seeds_96 (by decide) ?_
    refine lv_irem hx hb dX11_seeds_98 (by decide) ?_
    refine lv_bipush (v := 9) hx hb dX11_seeds_99 (by decide) ?_
    refine lv_isub hx hb dX11_seeds_101 ?_
    obtain ⟨g4, h⟩ := ob_gd h
    obtain ⟨S5, eS5, h⟩ := ob_nm h
    refine x_iast C0 hP hS (fun S => lay_t5 B ct S (Or.inr (Or.inl rfl))) g4 dX11_seeds_102 (fun H locs hP hS => ?_)
    rw [← eS5] at hP
    refine lv_iinc (v := v8 + 1) (lv' := [(8, .int (v8 + 1)), (4, .int ((v4 * 1103515245) + 12345)), (0, .ref (B + 0)), (1, .int v1), (3, .int v3), (5, .int v5), (6, .int v6), (7, .int v7)]) hx hb dX11_seeds_103 hl (k := 7) rfl rfl (by decide) rfl (fun ls hl => ?_)
    refine lv_goto (tgt := 53) hx hb dX11_seeds_106 (by decide) ?_
    exact ih1 v1 v3 ((v4 * 1103515245) + 12345) v5 v6 v7 (v8 + 1) S5 _ _ _ h hP hS (lv_sub hl [2, 3, 4, 1, 5, 6, 7, 0] rfl)
set_option maxRecDepth 100000 in
set_option maxHeartbeats 4000000 in
theorem wl_X11_seeds_53 (l : Launch) {V : Int32 × St} (C0 : XC D ct p s m args meth c cX11_seeds 9 (some .int) RX11) (n0 : Nat) (ih0 : ∀ (v1 : Int32) (v3 : Int32) (v4 : Int32) (v5 : Int32) (v6 : Int32) (v7 : Int32) (S : St) (H : Heap) (locs : List Loc) (ls : Array Slot), (lp n0 (l_X11_seeds_44) (v1, v3, v4, v5, v6, v7, S)).bind some = some V → MP D ct B Hb S H → va_S (AB B) s.heap H locs → lv_has ls 9 [(0, .ref (B + 0)), (1, .int v1), (3, .int v3), (4, .int v4), (5, .int v5), (6, .int v6), (7, .int v7)] → W p l e { frames := 5, cells := 0, slots := 0, locals := 117 } s m args below meth c H locs 0 0 (MQ below (qIw D ct B Hb V) args s 0 0 (AB B)) (F0 m 44 ls []))  : ∀ (n1 : Nat) (v1 : Int32) (v3 : Int32) (v4 : Int32) (v5 : Int32) (v6 : Int32) (v7 : Int32) (v8 : Int32) (S : St) {H : Heap} {locs : List Loc} {ls : Array Slot}, (lp n1 (l_X11_seeds_53) (v1, v3, v4, v5, v6, v7, v8, S)).bind (lpF n0 (l_X11_seeds_44) some) = some V → MP D ct B Hb S H → va_S (AB B) s.heap H locs → lv_has ls 9 [(0, .ref (B + 0)), (1, .int v1), (3, .int v3), (4, .int v4), (5, .int v5), (6, .int v6), (7, .int v7), (8, .int v8)] → W p l e { frames := 5, cells := 0, slots := 0, locals := 117 } s m args below meth c H locs 0 0 (MQ below (qIw D ct B Hb V) args s 0 0 (AB B)) (F0 m 53 ls []) := by
  intro n1
  induction n1 with
  | zero =>
    intro v1 v3 v4 v5 v6 v7 v8 S H locs ls h hP hS hl
    exact (lp_0 h).elim
  | succ n1 ih1 =>
    intro v1 v3 v4 v5 v6 v7 v8 S H locs ls h hP hS hl
    have h := lp_s h
    exact w_X11_seeds_53 l C0 n0 ih0 n1 (fun v1 v3 v4 v5 v6 v7 v8 S H locs ls h hP hS hl => ih1 v1 v3 v4 v5 v6 v7 v8 S h hP hS hl) v1 v3 v4 v5 v6 v7 v8 S h hP hS hl
set_option maxRecDepth 100000 in
set_option maxHeartbeats 4000000 in
theorem w_X11_seeds_44 (l : Launch) {V : Int32 × St} (C0 : XC D ct p s m args meth c cX11_seeds 9 (some .int) RX11) (n0 : Nat) (ih0 : ∀ (v1 : Int32) (v3 : Int32) (v4 : Int32) (v5 : Int32) (v6 : Int32) (v7 : Int32) (S : St) (H : Heap) (locs : List Loc) (ls : Array Slot), (lp n0 (l_X11_seeds_44) (v1, v3, v4, v5, v6, v7, S)).bind some = some V → MP D ct B Hb S H → va_S (AB B) s.heap H locs → lv_has ls 9 [(0, .ref (B + 0)), (1, .int v1), (3, .int v3), (4, .int v4), (5, .int v5), (6, .int v6), (7, .int v7)] → W p l e { frames := 5, cells := 0, slots := 0, locals := 117 } s m args below meth c H locs 0 0 (MQ below (qIw D ct B Hb V) args s 0 0 (AB B)) (F0 m 44 ls [])) (v1 : Int32) (v3 : Int32) (v4 : Int32) (v5 : Int32) (v6 : Int32) (v7 : Int32) (S : St) {H : Heap} {locs : List Loc} {ls : Array Slot} (h : (b_X11_seeds_44 v1 v3 v4 v5 v6 v7 S).bind (lpF n0 (l_X11_seeds_44) some) = some V) (hP : MP D ct B Hb S H) (hS : va_S (AB B) s.heap H locs) (hl : lv_has ls 9 [(0, .ref (B + 0)), (1, .int v1), (3, .int v3), (4, .int v4), (5, .int v5), (6, .int v6), (7, .int v7)]) : W p l e { frames := 5, cells := 0, slots := 0, locals := 117 } s m args below meth c H locs 0 0 (MQ below (qIw D ct B Hb V) args s 0 0 (AB B)) (F0 m 44 ls []) := by
  obtain ⟨hx, hb, hr, hml, hown, hts, hK, hlocks, hN⟩ := id C0
  unfold b_X11_seeds_44 at h
  refine lv_iload hx hb dX11_seeds_44 (lv_at hl 6 rfl) ?_
  refine lv_iload_n hx hb dX11_seeds_46 rfl (lv_at hl 1 rfl) ?_
  refine lv_icmp_ge (tgt := 154) hx hb dX11_seeds_47 (by decide) (fun z1 => ?_) (fun z1 => ?_)
  · have h := ob_t h z1
    have h := ob_mp h
    exact w_X11_seeds_154 l C0 v3 v5 v6 S h hP hS (lv_sub hl [2, 4, 5] rfl)
  · have h := ob_f h z1
    refine lv_iconst (v := 0) hx hb dX11_seeds_50 (by decide) ?_
    refine lv_istore (lv' := [(8, .int 0), (0, .ref (B + 0)), (1, .int v1), (3, .int v3), (4, .int v4), (5, .int v5), (6, .int v6), (7, .int v7)]) hx hb dX11_seeds_51 hl (by decide) rfl (fun ls hl => ?_)
    exact wl_X11_seeds_53 l C0 n0 ih0 1000 v1 v3 v4 v5 v6 v7 0 S h hP hS (lv_sub hl [1, 2, 3, 4, 5, 6, 7, 0] rfl)
set_option maxRecDepth 100000 in
set_option maxHeartbeats 4000000 in
theorem wl_X11_seeds_44 (l : Launch) {V : Int32 × St} (C0 : XC D ct p s m args meth c cX11_seeds 9 (some .int) RX11)  : ∀ (n0 : Nat) (v1 : Int32) (v3 : Int32) (v4 : Int32) (v5 : Int32) (v6 : Int32) (v7 : Int32) (S : St) {H : Heap} {locs : List Loc} {ls : Array Slot}, (lp n0 (l_X11_seeds_44) (v1, v3, v4, v5, v6, v7, S)).bind some = some V → MP D ct B Hb S H → va_S (AB B) s.heap H locs → lv_has ls 9 [(0, .ref (B + 0)), (1, .int v1), (3, .int v3), (4, .int v4), (5, .int v5), (6, .int v6), (7, .int v7)] → W p l e { frames := 5, cells := 0, slots := 0, locals := 117 } s m args below meth c H locs 0 0 (MQ below (qIw D ct B Hb V) args s 0 0 (AB B)) (F0 m 44 ls []) := by
  intro n0
  induction n0 with
  | zero =>
    intro v1 v3 v4 v5 v6 v7 S H locs ls h hP hS hl
    exact (lp_0 h).elim
  | succ n0 ih0 =>
    intro v1 v3 v4 v5 v6 v7 S H locs ls h hP hS hl
    have h := lp_s h
    exact w_X11_seeds_44 l C0 n0 (fun v1 v3 v4 v5 v6 v7 S H locs ls h hP hS hl => ih0 v1 v3 v4 v5 v6 v7 S h hP hS hl) v1 v3 v4 v5 v6 v7 S h hP hS hl
set_option maxRecDepth 100000 in
set_option maxHeartbeats 4000000 in
theorem w_X11_seeds_0 (l : Launch) {V : Int32 × St} (C0 : XC D ct p s m args meth c cX11_seeds 9 (some .int) RX11) (v1 : Int32) (v2 : Int32) (v3 : Int32) (S : St) {H : Heap} {locs : List Loc} {ls : Array Slot} (h : (b_X11_seeds_0 v1 v2 v3 S).bind some = some V) (hP : MP D ct B Hb S H) (hS : va_S (AB B) s.heap H locs) (hl : lv_has ls 9 [(0, .ref (B + 0)), (1, .int v1), (2, .int v2), (3, .int v3)]) : W p l e { frames := 5, cells := 0, slots := 0, locals := 117 } s m args below meth c H locs 0 0 (MQ below (qIw D ct B Hb V) args s 0 0 (AB B)) (F0 m 0 ls []) := by
  obtain ⟨hx, hb, hr, hml, hown, hts, hK, hlocks, hN⟩ := id C0
  unfold b_X11_seeds_0 at h
  refine lv_iload_n hx hb dX11_seeds_0 rfl (lv_at hl 1 rfl) ?_
  refine lv_iconst (v := 1) hx hb dX11_seeds_1 (by decide) ?_
  refine lv_bipush (v := 20) hx hb dX11_seeds_2 (by decide) ?_
  obtain ⟨r1, hr1, h⟩ := ob_bd h
  refine n_I (kS (As := [.int v1, .int 1, .int 20]) C0 (c_X11_isOut l v1 1 20 hr1) ⟨wd_378, wd_500, wd_377, wd_1⟩ kd_X11_isOut ⟨Nat.le_of_ble_eq_true rfl, Nat.le_of_ble_eq_true rfl⟩ hP rfl hl.1 rfl (Nat.le_of_ble_eq_true rfl) dX11_seeds_4 ⟨Nat.le_of_ble_eq_true rfl, Nat.le_of_ble_eq_true rfl⟩) hS (fun H locs hP hS => ?_)
  refine lv_if_ne (tgt := 19) hx hb dX11_seeds_7 (by decide) (fun z2 => ?_) (fun z2 => ?_)
  · have h := ob_f h z2
    refine lv_iconst (v := (-1)) hx hb dX11_seeds_19 (by decide) ?_
    exact r_Iw C0 hP hS h dX11_seeds_20
  · have h := ob_t h z2
    refine lv_iload_n hx hb dX11_seeds_10 rfl (lv_at hl 3 rfl) ?_
    refine lv_iconst (v := 0) hx hb dX11_seeds_11 (by decide) ?_
    refine lv_iconst (v := 1) hx hb dX11_seeds_12 (by decide) ?_
    obtain ⟨r3, hr3, h⟩ := ob_bd h
    refine n_I (kS (As := [.int v3, .int 0, .int 1]) C0 (c_X11_isOut l v3 0 1 hr3) ⟨wd_378, wd_500, wd_377, wd_1⟩ kd_X11_isOut ⟨Nat.le_of_ble_eq_true rfl, Nat.le_of_ble_eq_true rfl⟩ hP rfl hl.1 rfl (Nat.le_of_ble_eq_true rfl) dX11_seeds_13 ⟨Nat.le_of_ble_eq_true rfl, Nat.le_of_ble_eq_true rfl⟩) hS (fun H locs hP hS => ?_)
    refine lv_if_eq (tgt := 21) hx hb dX11_seeds_16 (by decide) (fun z4 => ?_) (fun z4 => ?_)
    · have h := ob_t h z4
      refine lv_aload_n hx hb dX11_seeds_21 rfl (lv_at hl 0 rfl) ?_
      refine x_get C0 hP (lay_X11 B ct S) rfl inG11 1 (by decide) wd_220 (fun _ h => h) rfl dX11_seeds_22 ?_
      refine lv_aload_n hx hb dX11_seeds_25 rfl (lv_at hl 0 rfl) ?_
      refine x_get C0 hP (lay_X11 B ct S) rfl inG11 0 (by decide) wd_219 (fun _ h => h) rfl dX11_seeds_26 ?_
      obtain ⟨r5, hr5, h⟩ := ob_bd h
      refine n_Vw (kV (As := [.ref (B + 1)]) C0 (c_X10_become l 19 1 (Or.inr (Or.inl rfl)) (Or.inl rfl) hr5) ⟨wd_267, wd_264, wd_265, wd_266, wd_2⟩ kd_X10_become ⟨Nat.le_of_ble_eq_true rfl, Nat.le_of_ble_eq_true rfl⟩ hP (lay_X10 B ct S (Or.inr (Or.inl rfl))) rfl rfl hl.1 rfl (Nat.le_of_ble_eq_true rfl) dX11_seeds_29 ⟨Nat.le_of_ble_eq_true rfl, Nat.le_of_ble_eq_true rfl⟩) hS (fun H locs hP hS => ?_)
      refine lv_iload_n hx hb dX11_seeds_32 rfl (lv_at hl 2 rfl) ?_
      refine lv_istore (lv' := [(4, .int v2), (0, .ref (B + 0)), (1, .int v1), (2, .int v2), (3, .int v3)]) hx hb dX11_seeds_33 hl (by decide) rfl (fun ls hl => ?_)
      refine lv_iconst (v := 0) hx hb dX11_seeds_35 (by decide) ?_
      refine lv_istore (lv' := [(5, .int 0), (4, .int v2), (0, .ref (B + 0)), (1, .int v1), (2, .int v2), (3, .int v3)]) hx hb dX11_seeds_36 hl (by decide) rfl (fun ls hl => ?_)
      refine lv_iconst (v := 0) hx hb dX11_seeds_38 (by decide) ?_
      refine lv_istore (lv' := [(6, .int 0), (5, .int 0), (4, .int v2), (0, .ref (B + 0)), (1, .int v1), (2, .int v2), (3, .int v3)]) hx hb dX11_seeds_39 hl (by decide) rfl (fun ls hl => ?_)
      refine lv_iconst (v := 0) hx hb dX11_seeds_41 (by decide) ?_
      refine lv_istore (lv' := [(7, .int 0), (6, .int 0), (5, .int 0), (4, .int v2), (0, .ref (B + 0)), (1, .int v1), (2, .int v2), (3, .int v3)]) hx hb dX11_seeds_42 hl (by decide) rfl (fun ls hl => ?_)
      exact wl_X11_seeds_44 l C0 1000 v1 v3 v2 0 0 0 r5 h hP hS (lv_sub hl [4, 5, 7, 3, 2, 1, 0] rfl)
    · have h := ob_f h z4
      refine lv_iconst (v := (-1)) hx hb dX11_seeds_19 (by decide) ?_
      exact r_Iw C0 hP hS h dX11_seeds_20
set_option maxRecDepth 100000 in
set_option maxHeartbeats 4000000 in
theorem c_X11_seeds (l : Launch) (a1 : Int32) (a2 : Int32) (a3 : Int32) {D : va_G} {ct : Nat → ClassId} {B : Nat} {Hb : Heap} {S : St} {V : Int32 × St} (h : L_X11_seeds a1 a2 a3 S = some V) : Met l yX11_seeds (Cond.code yX11_seeds cX11_seeds 9 (some .int) :: tG) { frames := 5, cells := 0, slots := 0, locals := 117 } (va_Pc [.ref (B + 0), .int a1, .int a2, .int a3] (MPK D ct B Hb S)) (qIw D ct B Hb V) 0 0 (AB B) := by
  refine mk_met (by decide +kernel) (Nat.le_of_ble_eq_true rfl) (fun p e s m args below meth c ls C0 hP hl _ => ?_)
  have h := ob_of h
  exact w_X11_seeds_0 l C0 a1 a2 a3 S h hP va_S.rf (lv_sub hl [0, 1, 2, 3] rfl)
set_option maxRecDepth 100000 in
set_option maxHeartbeats 4000000 in
theorem w_X11_image_0 (l : Launch) {V : Int32 × St} (C0 : XC D ct p s m args meth c cX11_image 1 (some .int) RX11) (S : St) {H : Heap} {locs : List Loc} {ls : Array Slot} (h : (b_X11_image_0 S).bind some = some V) (hP : MP D ct B Hb S H) (hS : va_S (AB B) s.heap H locs) (hl : lv_has ls 1 [(0, .ref (B + 0))]) : W p l e { frames := 2, cells := 0, slots := 0, locals := 76 } s m args below meth c H locs 0 0 (MQ below (qIw D ct B Hb V) args s 0 0 (AB B)) (F0 m 0 ls []) := by
  obtain ⟨hx, hb, hr, hml, hown, hts, hK, hlocks, hN⟩ := id C0
  unfold b_X11_image_0 at h
  refine lv_aload_n hx hb dX11_image_0 rfl (lv_at hl 0 rfl) ?_
  refine x_get C0 hP (lay_X11 B ct S) rfl inG11 2 (by decide) wd_221 (fun _ h => h) rfl dX11_image_1 ?_
  refine lv_aload_n hx hb dX11_image_4 rfl (lv_at hl 0 rfl) ?_
  refine x_get C0 hP (lay_X11 B ct S) rfl inG11 0 (by decide) wd_219 (fun _ h => h) rfl dX11_image_5 ?_
  obtain ⟨r1, hr1, h⟩ := ob_bd h
  refine n_Vw (kV (As := [.ref (B + 1)]) C0 (c_X10_become l 37 1 (Or.inr (Or.inr rfl)) (Or.inl rfl) hr1) ⟨wd_267, wd_264, wd_265, wd_266, wd_2⟩ kd_X10_become ⟨Nat.le_of_ble_eq_true rfl, Nat.le_of_ble_eq_true rfl⟩ hP (lay_X10 B ct S (Or.inr (Or.inr rfl))) rfl rfl hl.1 rfl (Nat.le_of_ble_eq_true rfl) dX11_image_8 ⟨Nat.le_of_ble_eq_true rfl, Nat.le_of_ble_eq_true rfl⟩) hS (fun H locs hP hS => ?_)
  refine lv_aload_n hx hb dX11_image_11 rfl (lv_at hl 0 rfl) ?_
  refine lv_iconst (v := 1) hx hb dX11_image_12 (by decide) ?_
  obtain ⟨S2, eS2, h⟩ := ob_nm h
  refine x_put (S' := si r1 0 3 1) (FS := (fs11 B)) C0 hP hS (fun S => lay_X11 B ct S) rfl inG11 tyX11 tyX11_ok nmX11 3 (by decide) wd_222 rfl rfl (fun a ha => lay_local (gi_si_n _ _ _ ha) rfl rfl rfl) (put_11_3 B _ _) bool_1 rfl (Nat.le_of_ble_eq_true rfl) dX11_image_13 (fun H locs hP hS => ?_)
  rw [← eS2] at hP
  refine lv_aload_n hx hb dX11_image_16 rfl (lv_at hl 0 rfl) ?_
  refine x_get C0 hP (lay_X11 B ct S2) rfl inG11 0 (by decide) wd_219 (fun _ h => h) rfl dX11_image_17 ?_
  refine x_get C0 hP (lay_X10 B ct S2 (Or.inl rfl)) rfl inG10 0 (by decide) wd_63 (fun _ h => h) rfl dX11_image_20 ?_
  exact r_Iw C0 hP hS h dX11_image_23
set_option maxRecDepth 100000 in
set_option maxHeartbeats 4000000 in
theorem c_X11_image (l : Launch) {D : va_G} {ct : Nat → ClassId} {B : Nat} {Hb : Heap} {S : St} {V : Int32 × St} (h : L_X11_image S = some V) : Met l yX11_image (Cond.code yX11_image cX11_image 1 (some .int) :: tG) { frames := 2, cells := 0, slots := 0, locals := 76 } (va_Pc [.ref (B + 0)] (MPK D ct B Hb S)) (qIw D ct B Hb V) 0 0 (AB B) := by
  refine mk_met (by decide +kernel) (Nat.le_of_ble_eq_true rfl) (fun p e s m args below meth c ls C0 hP hl _ => ?_)
  have h := ob_of h
  exact w_X11_image_0 l C0 S h hP va_S.rf (lv_sub hl [0] rfl)
set_option maxRecDepth 100000 in
set_option maxHeartbeats 4000000 in
theorem w_X11_restore_0 (l : Launch) {V : Int32 × St} (C0 : XC D ct p s m args meth c cX11_restore 1 (some .int) RX11) (S : St) {H : Heap} {locs : List Loc} {ls : Array Slot} (h : (b_X11_restore_0 S).bind some = some V) (hP : MP D ct B Hb S H) (hS : va_S (AB B) s.heap H locs) (hl : lv_has ls 1 [(0, .ref (B + 0))]) : W p l e { frames := 2, cells := 0, slots := 0, locals := 76 } s m args below meth c H locs 0 0 (MQ below (qIw D ct B Hb V) args s 0 0 (AB B)) (F0 m 0 ls []) := by
  obtain ⟨hx, hb, hr, hml, hown, hts, hK, hlocks, hN⟩ := id C0
  unfold b_X11_restore_0 at h
  refine lv_aload_n hx hb dX11_restore_0 rfl (lv_at hl 0 rfl) ?_
  refine x_get C0 hP (lay_X11 B ct S) rfl inG11 3 (by decide) wd_222 (fun _ h => h) rfl dX11_restore_1 ?_
  refine lv_if_ne (tgt := 10) hx hb dX11_restore_4 (by decide) (fun z1 => ?_) (fun z1 => ?_)
  · have h := ob_f h z1
    refine lv_aload_n hx hb dX11_restore_10 rfl (lv_at hl 0 rfl) ?_
    refine x_get C0 hP (lay_X11 B ct S) rfl inG11 0 (by decide) wd_219 (fun _ h => h) rfl dX11_restore_11 ?_
    refine lv_aload_n hx hb dX11_restore_14 rfl (lv_at hl 0 rfl) ?_
    refine x_get C0 hP (lay_X11 B ct S) rfl inG11 2 (by decide) wd_221 (fun _ h => h) rfl dX11_restore_15 ?_
    obtain ⟨r2, hr2, h⟩ := ob_bd h
    refine n_Vw (kV (As := [.ref (B + 37)]) C0 (c_X10_become l 1 37 (Or.inl rfl) (Or.inr (Or.inr rfl)) hr2) ⟨wd_267, wd_264, wd_265, wd_266, wd_2⟩ kd_X10_become ⟨Nat.le_of_ble_eq_true rfl, Nat.le_of_ble_eq_true rfl⟩ hP (lay_X10 B ct S (Or.inl rfl)) rfl rfl hl.1 rfl (Nat.le_of_ble_eq_true rfl) dX11_restore_18 ⟨Nat.le_of_ble_eq_true rfl, Nat.le_of_ble_eq_true rfl⟩) hS (fun H locs hP hS => ?_)
    refine lv_aload_n hx hb dX11_restore_21 rfl (lv_at hl 0 rfl) ?_
    refine x_get C0 hP (lay_X11 B ct r2) rfl inG11 0 (by decide) wd_219 (fun _ h => h) rfl dX11_restore_22 ?_
    refine x_get C0 hP (lay_X10 B ct r2 (Or.inl rfl)) rfl inG10 0 (by decide) wd_63 (fun _ h => h) rfl dX11_restore_25 ?_
    exact r_Iw C0 hP hS h dX11_restore_28
  · have h := ob_t h z1
    refine lv_bipush (v := (-3)) hx hb dX11_restore_7 (by decide) ?_
    exact r_Iw C0 hP hS h dX11_restore_9
set_option maxRecDepth 100000 in
set_option maxHeartbeats 4000000 in
theorem c_X11_restore (l : Launch) {D : va_G} {ct : Nat → ClassId} {B : Nat} {Hb : Heap} {S : St} {V : Int32 × St} (h : L_X11_restore S = some V) : Met l yX11_restore (Cond.code yX11_restore cX11_restore 1 (some .int) :: tG) { frames := 2, cells := 0, slots := 0, locals := 76 } (va_Pc [.ref (B + 0)] (MPK D ct B Hb S)) (qIw D ct B Hb V) 0 0 (AB B) := by
  refine mk_met (by decide +kernel) (Nat.le_of_ble_eq_true rfl) (fun p e s m args below meth c ls C0 hP hl _ => ?_)
  have h := ob_of h
  exact w_X11_restore_0 l C0 S h hP va_S.rf (lv_sub hl [0] rfl)
set_option maxRecDepth 100000 in
set_option maxHeartbeats 4000000 in
theorem w_X11_count_0 (l : Launch) {V : Int32} (C0 : XC D ct p s m args meth c cX11_count 2 (some .int) RX11) (v1 : Int32) (S : St) {H : Heap} {locs : List Loc} {ls : Array Slot} (h : (b_X11_count_0 v1 S).bind some = some V) (hP : MP D ct B Hb S H) (hS : va_S (AB B) s.heap H locs) (hl : lv_has ls 2 [(0, .ref (B + 0)), (1, .int v1)]) : W p l e { frames := 2, cells := 0, slots := 0, locals := 45 } s m args below meth c H locs 0 0 (MQ below (qI D ct B Hb S V) args s 0 0 (AB B)) (F0 m 0 ls []) := by
  obtain ⟨hx, hb, hr, hml, hown, hts, hK, hlocks, hN⟩ := id C0
  unfold b_X11_count_0 at h
  refine lv_iload_n hx hb dX11_count_0 rfl (lv_at hl 1 rfl) ?_
  rcases Decidable.em ((v1 : Int32) = 0) with z1 | z1
  · have h := ob_t h z1
    refine lv_tableIn (x := v1) (off := 47) (tgt := 48) hx hb dX11_count_1 (by rw [z1]; decide) (by rw [z1]; decide) (by rw [z1]; decide) (by decide) ?_
    refine lv_aload_n hx hb dX11_count_48 rfl (lv_at hl 0 rfl) ?_
    refine x_get C0 hP (lay_X11 B ct S) rfl inG11 0 (by decide) wd_219 (fun _ h => h) rfl dX11_count_49 ?_
    refine x_get C0 hP (lay_X10 B ct S (Or.inl rfl)) rfl inG10 0 (by decide) wd_63 (fun _ h => h) rfl dX11_count_52 ?_
    exact r_I C0 hP hS h dX11_count_55
  · have h := ob_f h z1
    rcases Decidable.em ((v1 : Int32) = 1) with z2 | z2
    · have h := ob_t h z2
      refine lv_tableIn (x := v1) (off := 55) (tgt := 56) hx hb dX11_count_1 (by rw [z2]; decide) (by rw [z2]; decide) (by rw [z2]; decide) (by decide) ?_
      refine lv_aload_n hx hb dX11_count_56 rfl (lv_at hl 0 rfl) ?_
      refine x_get C0 hP (lay_X11 B ct S) rfl inG11 0 (by decide) wd_219 (fun _ h => h) rfl dX11_count_57 ?_
      refine x_get C0 hP (lay_X10 B ct S (Or.inl rfl)) rfl inG10 6 (by decide) wd_80 (fun _ h => h) rfl dX11_count_60 ?_
      exact r_I C0 hP hS h dX11_count_63
    · have h := ob_f h z2
      rcases Decidable.em ((v1 : Int32) = 2) with z3 | z3
      · have h := ob_t h z3
        refine lv_tableIn (x := v1) (off := 63) (tgt := 64) hx hb dX11_count_1 (by rw [z3]; decide) (by rw [z3]; decide) (by rw [z3]; decide) (by decide) ?_
        refine lv_aload_n hx hb dX11_count_64 rfl (lv_at hl 0 rfl) ?_
        refine x_get C0 hP (lay_X11 B ct S) rfl inG11 0 (by decide) wd_219 (fun _ h => h) rfl dX11_count_65 ?_
        refine x_get C0 hP (lay_X10 B ct S (Or.inl rfl)) rfl inG10 11 (by decide) wd_91 (fun _ h => h) rfl dX11_count_68 ?_
        exact r_I C0 hP hS h dX11_count_71
      · have h := ob_f h z3
        rcases Decidable.em ((v1 : Int32) = 3) with z4 | z4
        · have h := ob_t h z4
          refine lv_tableIn (x := v1) (off := 71) (tgt := 72) hx hb dX11_count_1 (by rw [z4]; decide) (by rw [z4]; decide) (by rw [z4]; decide) (by decide) ?_
          refine lv_aload_n hx hb dX11_count_72 rfl (lv_at hl 0 rfl) ?_
          refine x_get C0 hP (lay_X11 B ct S) rfl inG11 0 (by decide) wd_219 (fun _ h => h) rfl dX11_count_73 ?_
          refine x_get C0 hP (lay_X10 B ct S (Or.inl rfl)) rfl inG10 18 (by decide) wd_107 (fun _ h => h) rfl dX11_count_76 ?_
          refine lv_iconst (v := 0) hx hb dX11_count_79 (by decide) ?_
          obtain ⟨g5, h⟩ := ob_gd h
          refine x_iald C0 hP ((fun S => lay_t17 B ct S (Or.inl rfl)) S) g5 dX11_count_80 ?_
          exact r_I C0 hP hS h dX11_count_81
        · have h := ob_f h z4
          rcases Decidable.em ((v1 : Int32) = 4) with z6 | z6
          · have h := ob_t h z6
            refine lv_tableIn (x := v1) (off := 81) (tgt := 82) hx hb dX11_count_1 (by rw [z6]; decide) (by rw [z6]; decide) (by rw [z6]; decide) (by decide) ?_
            refine lv_aload_n hx hb dX11_count_82 rfl (lv_at hl 0 rfl) ?_
            refine x_get C0 hP (lay_X11 B ct S) rfl inG11 0 (by decide) wd_219 (fun _ h => h) rfl dX11_count_83 ?_
            refine x_get C0 hP (lay_X10 B ct S (Or.inl rfl)) rfl inG10 18 (by decide) wd_107 (fun _ h => h) rfl dX11_count_86 ?_
            refine lv_iconst (v := 1) hx hb dX11_count_89 (by decide) ?_
            obtain ⟨g7, h⟩ := ob_gd h
            refine x_iald C0 hP ((fun S => lay_t17 B ct S (Or.inl rfl)) S) g7 dX11_count_90 ?_
            exact r_I C0 hP hS h dX11_count_91
          · have h := ob_f h z6
            rcases Decidable.em ((v1 : Int32) = 5) with z8 | z8
            · have h := ob_t h z8
              refine lv_tableIn (x := v1) (off := 91) (tgt := 92) hx hb dX11_count_1 (by rw [z8]; decide) (by rw [z8]; decide) (by rw [z8]; decide) (by decide) ?_
              refine lv_aload_n hx hb dX11_count_92 rfl (lv_at hl 0 rfl) ?_
              refine x_get C0 hP (lay_X11 B ct S) rfl inG11 0 (by decide) wd_219 (fun _ h => h) rfl dX11_count_93 ?_
              refine x_get C0 hP (lay_X10 B ct S (Or.inl rfl)) rfl inG10 18 (by decide) wd_107 (fun _ h => h) rfl dX11_count_96 ?_
              refine lv_iconst (v := 2) hx hb dX11_count_99 (by decide) ?_
              obtain ⟨g9, h⟩ := ob_gd h
              refine x_iald C0 hP ((fun S => lay_t17 B ct S (Or.inl rfl)) S) g9 dX11_count_100 ?_
              exact r_I C0 hP hS h dX11_count_101
            · have h := ob_f h z8
              rcases Decidable.em ((v1 : Int32) = 6) with z10 | z10
              · have h := ob_t h z10
                refine lv_tableIn (x := v1) (off := 101) (tgt := 102) hx hb dX11_count_1 (by rw [z10]; decide) (by rw [z10]; decide) (by rw [z10]; decide) (by decide) ?_
                refine lv_aload_n hx hb dX11_count_102 rfl (lv_at hl 0 rfl) ?_
                refine x_get C0 hP (lay_X11 B ct S) rfl inG11 0 (by decide) wd_219 (fun _ h => h) rfl dX11_count_103 ?_
                obtain ⟨r11, hr11, h⟩ := ob_bd h
                refine n_I (kV (As := []) C0 (c_X10_allCoins l 1 (Or.inl rfl) hr11) ⟨wd_929, wd_926, wd_927, wd_928, wd_2⟩ kd_X10_allCoins ⟨Nat.le_of_ble_eq_true rfl, Nat.le_of_ble_eq_true rfl⟩ hP (lay_X10 B ct S (Or.inl rfl)) rfl rfl hl.1 rfl (Nat.le_of_ble_eq_true rfl) dX11_count_106 ⟨Nat.le_of_ble_eq_true rfl, Nat.le_of_ble_eq_true rfl⟩) hS (fun H locs hP hS => ?_)
                exact r_I C0 hP hS h dX11_count_109
              · have h := ob_f h z10
                rcases Decidable.em ((v1 : Int32) = 7) with z12 | z12
                · have h := ob_t h z12
                  refine lv_tableIn (x := v1) (off := 109) (tgt := 110) hx hb dX11_count_1 (by rw [z12]; decide) (by rw [z12]; decide) (by rw [z12]; decide) (by decide) ?_
                  refine lv_aload_n hx hb dX11_count_110 rfl (lv_at hl 0 rfl) ?_
                  refine x_get C0 hP (lay_X11 B ct S) rfl inG11 0 (by decide) wd_219 (fun _ h => h) rfl dX11_count_111 ?_
                  obtain ⟨r13, hr13, h⟩ := ob_bd h
                  refine n_I (kV (As := []) C0 (c_X10_pairsOfKin l 1 (Or.inl rfl) hr13) ⟨wd_933, wd_930, wd_931, wd_932, wd_2⟩ kd_X10_pairsOfKin ⟨Nat.le_of_ble_eq_true rfl, Nat.le_of_ble_eq_true rfl⟩ hP (lay_X10 B ct S (Or.inl rfl)) rfl rfl hl.1 rfl (Nat.le_of_ble_eq_true rfl) dX11_count_114 ⟨Nat.le_of_ble_eq_true rfl, Nat.le_of_ble_eq_true rfl⟩) hS (fun H locs hP hS => ?_)
                  exact r_I C0 hP hS h dX11_count_117
                · have h := ob_f h z12
                  refine lv_tableOut (x := v1) (tgt := 118) hx hb dX11_count_1 (sw_0_8 z1 z2 z3 z4 z6 z8 z10 z12) (by decide) ?_
                  refine lv_iconst (v := (-1)) hx hb dX11_count_118 (by decide) ?_
                  exact r_I C0 hP hS h dX11_count_119
set_option maxRecDepth 100000 in
set_option maxHeartbeats 4000000 in
theorem c_X11_count (l : Launch) (a1 : Int32) {D : va_G} {ct : Nat → ClassId} {B : Nat} {Hb : Heap} {S : St} {V : Int32} (h : L_X11_count a1 S = some V) : Met l yX11_count (Cond.code yX11_count cX11_count 2 (some .int) :: tG) { frames := 2, cells := 0, slots := 0, locals := 45 } (va_Pc [.ref (B + 0), .int a1] (MPK D ct B Hb S)) (qI D ct B Hb S V) 0 0 (AB B) := by
  refine mk_met (by decide +kernel) (Nat.le_of_ble_eq_true rfl) (fun p e s m args below meth c ls C0 hP hl _ => ?_)
  have h := ob_of h
  exact w_X11_count_0 l C0 a1 S h hP va_S.rf (lv_sub hl [0, 1] rfl)
set_option maxRecDepth 100000 in
set_option maxHeartbeats 4000000 in
theorem w_X11_row_0 (l : Launch) {V : Int32 × St} (C0 : XC D ct p s m args meth c cX11_row 4 (some .int) RX11) (v1 : Int32) (v2 : Int32) (v3 : Int32) (S : St) {H : Heap} {locs : List Loc} {ls : Array Slot} (h : (b_X11_row_0 v1 v2 v3 S).bind some = some V) (hP : MP D ct B Hb S H) (hS : va_S (AB B) s.heap H locs) (hl : lv_has ls 4 [(0, .ref (B + 0)), (1, .int v1), (2, .int v2), (3, .int v3)]) : W p l e { frames := 1, cells := 0, slots := 0, locals := 23 } s m args below meth c H locs 0 0 (MQ below (qIw D ct B Hb V) args s 0 0 (AB B)) (F0 m 0 ls []) := by
  obtain ⟨hx, hb, hr, hml, hown, hts, hK, hlocks, hN⟩ := id C0
  unfold b_X11_row_0 at h
  refine lv_iload_n hx hb dX11_row_0 rfl (lv_at hl 1 rfl) ?_
  obtain ⟨r1, hr1, h⟩ := ob_bd h
  refine n_I (kS (As := [.int v1]) C0 (c_X11_isNoShelf l v1 hr1) ⟨wd_263, wd_261, wd_262, wd_1⟩ kd_X11_isNoShelf ⟨Nat.le_of_ble_eq_true rfl, Nat.le_of_ble_eq_true rfl⟩ hP rfl hl.1 rfl (Nat.le_of_ble_eq_true rfl) dX11_row_1 ⟨Nat.le_of_ble_eq_true rfl, Nat.le_of_ble_eq_true rfl⟩) hS (fun H locs hP hS => ?_)
  refine lv_if_ne (tgt := 22) hx hb dX11_row_4 (by decide) (fun z2 => ?_) (fun z2 => ?_)
  · have h := ob_f h z2
    refine lv_iconst (v := (-1)) hx hb dX11_row_22 (by decide) ?_
    exact r_Iw C0 hP hS h dX11_row_23
  · have h := ob_t h z2
    refine lv_iload_n hx hb dX11_row_7 rfl (lv_at hl 2 rfl) ?_
    refine lv_iconst (v := 0) hx hb dX11_row_8 (by decide) ?_
    refine lv_iconst (v := 2) hx hb dX11_row_9 (by decide) ?_
    obtain ⟨r3, hr3, h⟩ := ob_bd h
    refine n_I (kS (As := [.int v2, .int 0, .int 2]) C0 (c_X11_isOut l v2 0 2 hr3) ⟨wd_378, wd_500, wd_377, wd_1⟩ kd_X11_isOut ⟨Nat.le_of_ble_eq_true rfl, Nat.le_of_ble_eq_true rfl⟩ hP rfl hl.1 rfl (Nat.le_of_ble_eq_true rfl) dX11_row_10 ⟨Nat.le_of_ble_eq_true rfl, Nat.le_of_ble_eq_true rfl⟩) hS (fun H locs hP hS => ?_)
    refine lv_if_ne (tgt := 22) hx hb dX11_row_13 (by decide) (fun z4 => ?_) (fun z4 => ?_)
    · have h := ob_f h z4
      refine lv_iconst (v := (-1)) hx hb dX11_row_22 (by decide) ?_
      exact r_Iw C0 hP hS h dX11_row_23
    · have h := ob_t h z4
      refine lv_iload_n hx hb dX11_row_16 rfl (lv_at hl 3 rfl) ?_
      refine lv_bipush (v := 100) hx hb dX11_row_17 (by decide) ?_
      refine lv_icmp_le (tgt := 24) hx hb dX11_row_19 (by decide) (fun z5 => ?_) (fun z5 => ?_)
      · have h := ob_t h z5
        refine lv_iload_n hx hb dX11_row_24 rfl (lv_at hl 3 rfl) ?_
        refine lv_if_ge (tgt := 31) hx hb dX11_row_25 (by decide) (fun z6 => ?_) (fun z6 => ?_)
        · have h := ob_t h z6
          refine lv_aload_n hx hb dX11_row_31 rfl (lv_at hl 0 rfl) ?_
          refine x_get C0 hP (lay_X11 B ct S) rfl inG11 7 (by decide) wd_226 (fun _ h => h) rfl dX11_row_32 ?_
          refine lv_iload_n hx hb dX11_row_35 rfl (lv_at hl 1 rfl) ?_
          obtain ⟨g7, h⟩ := ob_gd h
          refine x_aald (v := .ref (B + (70 + 2 * v1.toNatClampNeg))) C0 hP (lay_68 B ct S) rfl rfl g7 rfl dX11_row_36 ?_
          refine lv_iload_n hx hb dX11_row_37 rfl (lv_at hl 2 rfl) ?_
          refine lv_iload_n hx hb dX11_row_38 rfl (lv_at hl 3 rfl) ?_
          obtain ⟨r8, hr8, h⟩ := ob_bd h
          refine n_Vw (kV (As := [.int v2, .int v3]) C0 (c_X8_begin l (70 + 2 * v1.toNatClampNeg) (isRow_of g7) v2 v3 hr8) ⟨wd_946, wd_943, wd_944, wd_945, wd_5⟩ kd_X8_begin ⟨Nat.le_of_ble_eq_true rfl, Nat.le_of_ble_eq_true rfl⟩ hP (lay_X8 B ct S (isRow_of g7)) rfl rfl hl.1 rfl (Nat.le_of_ble_eq_true rfl) dX11_row_39 ⟨Nat.le_of_ble_eq_true rfl, Nat.le_of_ble_eq_true rfl⟩) hS (fun H locs hP hS => ?_)
          refine lv_aload_n hx hb dX11_row_42 rfl (lv_at hl 0 rfl) ?_
          refine x_get C0 hP (lay_X11 B ct r8) rfl inG11 5 (by decide) wd_224 (fun _ h => h) rfl dX11_row_43 ?_
          refine lv_iload_n hx hb dX11_row_46 rfl (lv_at hl 1 rfl) ?_
          refine lv_iconst (v := 2) hx hb dX11_row_47 (by decide) ?_
          obtain ⟨g9, h⟩ := ob_gd h
          obtain ⟨S10, eS10, h⟩ := ob_nm h
          refine x_iast C0 hP hS (fun S => lay_66 B ct S) g9 dX11_row_48 (fun H locs hP hS => ?_)
          rw [← eS10] at hP
          refine lv_iconst (v := 0) hx hb dX11_row_49 (by decide) ?_
          exact r_Iw C0 hP hS h dX11_row_50
        · have h := ob_f h z6
          refine lv_bipush (v := (-14)) hx hb dX11_row_28 (by decide) ?_
          exact r_Iw C0 hP hS h dX11_row_30
      · have h := ob_f h z5
        refine lv_iconst (v := (-1)) hx hb dX11_row_22 (by decide) ?_
        exact r_Iw C0 hP hS h dX11_row_23
set_option maxRecDepth 100000 in
set_option maxHeartbeats 4000000 in
theorem c_X11_row (l : Launch) (a1 : Int32) (a2 : Int32) (a3 : Int32) {D : va_G} {ct : Nat → ClassId} {B : Nat} {Hb : Heap} {S : St} {V : Int32 × St} (h : L_X11_row a1 a2 a3 S = some V) : Met l yX11_row (Cond.code yX11_row cX11_row 4 (some .int) :: tG) { frames := 1, cells := 0, slots := 0, locals := 23 } (va_Pc [.ref (B + 0), .int a1, .int a2, .int a3] (MPK D ct B Hb S)) (qIw D ct B Hb V) 0 0 (AB B) := by
  refine mk_met (by decide +kernel) (Nat.le_of_ble_eq_true rfl) (fun p e s m args below meth c ls C0 hP hl _ => ?_)
  have h := ob_of h
  exact w_X11_row_0 l C0 a1 a2 a3 S h hP va_S.rf (lv_sub hl [0, 1, 2, 3] rfl)
set_option maxRecDepth 100000 in
set_option maxHeartbeats 4000000 in
theorem w_X11_put_0 (l : Launch) {V : Int32 × St} (C0 : XC D ct p s m args meth c cX11_put 5 (some .int) RX11) (v1 : Int32) (v2 : Int32) (v3 : Int32) (S : St) {H : Heap} {locs : List Loc} {ls : Array Slot} (h : (b_X11_put_0 v1 v2 v3 S).bind some = some V) (hP : MP D ct B Hb S H) (hS : va_S (AB B) s.heap H locs) (hl : lv_has ls 5 [(0, .ref (B + 0)), (1, .int v1), (2, .int v2), (3, .int v3)]) : W p l e { frames := 2, cells := 0, slots := 0, locals := 44 } s m args below meth c H locs 0 0 (MQ below (qIw D ct B Hb V) args s 0 0 (AB B)) (F0 m 0 ls []) := by
  obtain ⟨hx, hb, hr, hml, hown, hts, hK, hlocks, hN⟩ := id C0
  unfold b_X11_put_0 at h
  refine lv_aload_n hx hb dX11_put_0 rfl (lv_at hl 0 rfl) ?_
  refine lv_iload_n hx hb dX11_put_1 rfl (lv_at hl 1 rfl) ?_
  refine lv_iconst (v := 2) hx hb dX11_put_2 (by decide) ?_
  obtain ⟨r1, hr1, h⟩ := ob_bd h
  refine n_I (kV (As := [.int v1, .int 2]) C0 (c_X11_shelfRefusal l v1 2 hr1) ⟨wd_260, wd_257, wd_259, wp_0, wd_1⟩ kd_X11_shelfRefusal ⟨Nat.le_of_ble_eq_true rfl, Nat.le_of_ble_eq_true rfl⟩ hP (lay_X11 B ct S) rfl rfl hl.1 rfl (Nat.le_of_ble_eq_true rfl) dX11_put_3 ⟨Nat.le_of_ble_eq_true rfl, Nat.le_of_ble_eq_true rfl⟩) hS (fun H locs hP hS => ?_)
  refine lv_istore (lv' := [(4, .int r1), (0, .ref (B + 0)), (1, .int v1), (2, .int v2), (3, .int v3)]) hx hb dX11_put_6 hl (by decide) rfl (fun ls hl => ?_)
  refine lv_iload hx hb dX11_put_8 (lv_at hl 0 rfl) ?_
  refine lv_if_eq (tgt := 16) hx hb dX11_put_10 (by decide) (fun z2 => ?_) (fun z2 => ?_)
  · have h := ob_t h z2
    refine lv_aload_n hx hb dX11_put_16 rfl (lv_at hl 1 rfl) ?_
    refine x_get C0 hP (lay_X11 B ct S) rfl inG11 7 (by decide) wd_226 (fun _ h => h) rfl dX11_put_17 ?_
    refine lv_iload_n hx hb dX11_put_20 rfl (lv_at hl 2 rfl) ?_
    obtain ⟨g3, h⟩ := ob_gd h
    refine x_aald (v := .ref (B + (70 + 2 * v1.toNatClampNeg))) C0 hP (lay_68 B ct S) rfl rfl g3 rfl dX11_put_21 ?_
    refine lv_iload_n hx hb dX11_put_22 rfl (lv_at hl 3 rfl) ?_
    refine lv_iconst (v := 1) hx hb dX11_put_23 (by decide) ?_
    obtain ⟨r4, hr4, h⟩ := ob_bd h
    refine n_I (kV (As := [.int v2, .int 1]) C0 (c_X8_hasPlaces l (70 + 2 * v1.toNatClampNeg) (isRow_of g3) v2 1 hr4) ⟨wd_285, wd_951, wd_283, wd_284, wd_5⟩ kd_X8_hasPlaces ⟨Nat.le_of_ble_eq_true rfl, Nat.le_of_ble_eq_true rfl⟩ hP (lay_X8 B ct S (isRow_of g3)) rfl rfl hl.1 rfl (Nat.le_of_ble_eq_true rfl) dX11_put_24 ⟨Nat.le_of_ble_eq_true rfl, Nat.le_of_ble_eq_true rfl⟩) hS (fun H locs hP hS => ?_)
    refine lv_if_ne (tgt := 33) hx hb dX11_put_27 (by decide) (fun z5 => ?_) (fun z5 => ?_)
    · have h := ob_f h z5
      refine lv_aload_n hx hb dX11_put_33 rfl (lv_at hl 1 rfl) ?_
      refine x_get C0 hP (lay_X11 B ct S) rfl inG11 7 (by decide) wd_226 (fun _ h => h) rfl dX11_put_34 ?_
      refine lv_iload_n hx hb dX11_put_37 rfl (lv_at hl 2 rfl) ?_
      obtain ⟨g6, h⟩ := ob_gd h
      refine x_aald (v := .ref (B + (70 + 2 * v1.toNatClampNeg))) C0 hP (lay_68 B ct S) rfl rfl g6 rfl dX11_put_38 ?_
      refine lv_iload_n hx hb dX11_put_39 rfl (lv_at hl 3 rfl) ?_
      refine lv_iload_n hx hb dX11_put_40 rfl (lv_at hl 4 rfl) ?_
      obtain ⟨r7, hr7, h⟩ := ob_bd h
      refine n_Vw (kV (As := [.int v2, .int v3]) C0 (c_X8_write l (70 + 2 * v1.toNatClampNeg) (isRow_of g6) v2 v3 hr7) ⟨wd_955, wd_952, wd_953, wd_954, wd_5⟩ kd_X8_write ⟨Nat.le_of_ble_eq_true rfl, Nat.le_of_ble_eq_true rfl⟩ hP (lay_X8 B ct S (isRow_of g6)) rfl rfl hl.1 rfl (Nat.le_of_ble_eq_true rfl) dX11_put_41 ⟨Nat.le_of_ble_eq_true rfl, Nat.le_of_ble_eq_true rfl⟩) hS (fun H locs hP hS => ?_)
      refine lv_iconst (v := 0) hx hb dX11_put_44 (by decide) ?_
      exact r_Iw C0 hP hS h dX11_put_45
    · have h := ob_t h z5
      refine lv_bipush (v := (-13)) hx hb dX11_put_30 (by decide) ?_
      exact r_Iw C0 hP hS h dX11_put_32
  · have h := ob_f h z2
    refine lv_iload hx hb dX11_put_13 (lv_at hl 0 rfl) ?_
    exact r_Iw C0 hP hS h dX11_put_15
set_option maxRecDepth 100000 in
set_option maxHeartbeats 4000000 in
theorem c_X11_put (l : Launch) (a1 : Int32) (a2 : Int32) (a3 : Int32) {D : va_G} {ct : Nat → ClassId} {B : Nat} {Hb : Heap} {S : St} {V : Int32 × St} (h : L_X11_put a1 a2 a3 S = some V) : Met l yX11_put (Cond.code yX11_put cX11_put 5 (some .int) :: tG) { frames := 2, cells := 0, slots := 0, locals := 44 } (va_Pc [.ref (B + 0), .int a1, .int a2, .int a3] (MPK D ct B Hb S)) (qIw D ct B Hb V) 0 0 (AB B) := by
  refine mk_met (by decide +kernel) (Nat.le_of_ble_eq_true rfl) (fun p e s m args below meth c ls C0 hP hl _ => ?_)
  have h := ob_of h
  exact w_X11_put_0 l C0 a1 a2 a3 S h hP va_S.rf (lv_sub hl [0, 1, 2, 3] rfl)
set_option maxRecDepth 100000 in
set_option maxHeartbeats 4000000 in
theorem w_X11_copy_0 (l : Launch) {V : Int32 × St} (C0 : XC D ct p s m args meth c cX11_copy 6 (some .int) RX11) (v1 : Int32) (v2 : Int32) (v3 : Int32) (v4 : Int32) (v5 : Int32) (S : St) {H : Heap} {locs : List Loc} {ls : Array Slot} (h : (b_X11_copy_0 v1 v2 v3 v4 v5 S).bind some = some V) (hP : MP D ct B Hb S H) (hS : va_S (AB B) s.heap H locs) (hl : lv_has ls 6 [(0, .ref (B + 0)), (1, .int v1), (2, .int v2), (3, .int v3), (4, .int v4), (5, .int v5)]) : W p l e { frames := 1, cells := 0, slots := 0, locals := 54 } s m args below meth c H locs 0 0 (MQ below (qIw D ct B Hb V) args s 0 0 (AB B)) (F0 m 0 ls []) := by
  obtain ⟨hx, hb, hr, hml, hown, hts, hK, hlocks, hN⟩ := id C0
  unfold b_X11_copy_0 at h
  refine lv_iload_n hx hb dX11_copy_0 rfl (lv_at hl 1 rfl) ?_
  obtain ⟨r1, hr1, h⟩ := ob_bd h
  refine n_I (kS (As := [.int v1]) C0 (c_X11_isNoShelf l v1 hr1) ⟨wd_263, wd_261, wd_262, wd_1⟩ kd_X11_isNoShelf ⟨Nat.le_of_ble_eq_true rfl, Nat.le_of_ble_eq_true rfl⟩ hP rfl hl.1 rfl (Nat.le_of_ble_eq_true rfl) dX11_copy_1 ⟨Nat.le_of_ble_eq_true rfl, Nat.le_of_ble_eq_true rfl⟩) hS (fun H locs hP hS => ?_)
  refine lv_if_ne (tgt := 14) hx hb dX11_copy_4 (by decide) (fun z2 => ?_) (fun z2 => ?_)
  · have h := ob_f h z2
    refine lv_iconst (v := (-1)) hx hb dX11_copy_14 (by decide) ?_
    exact r_Iw C0 hP hS h dX11_copy_15
  · have h := ob_t h z2
    refine lv_iload_n hx hb dX11_copy_7 rfl (lv_at hl 3 rfl) ?_
    obtain ⟨r3, hr3, h⟩ := ob_bd h
    refine n_I (kS (As := [.int v3]) C0 (c_X11_isNoShelf l v3 hr3) ⟨wd_263, wd_261, wd_262, wd_1⟩ kd_X11_isNoShelf ⟨Nat.le_of_ble_eq_true rfl, Nat.le_of_ble_eq_true rfl⟩ hP rfl hl.1 rfl (Nat.le_of_ble_eq_true rfl) dX11_copy_8 ⟨Nat.le_of_ble_eq_true rfl, Nat.le_of_ble_eq_true rfl⟩) hS (fun H locs hP hS => ?_)
    refine lv_if_eq (tgt := 16) hx hb dX11_copy_11 (by decide) (fun z4 => ?_) (fun z4 => ?_)
    · have h := ob_t h z4
      refine lv_aload_n hx hb dX11_copy_16 rfl (lv_at hl 0 rfl) ?_
      refine x_get C0 hP (lay_X11 B ct S) rfl inG11 5 (by decide) wd_224 (fun _ h => h) rfl dX11_copy_17 ?_
      refine lv_iload_n hx hb dX11_copy_20 rfl (lv_at hl 1 rfl) ?_
      obtain ⟨g5, h⟩ := ob_gd h
      refine x_iald C0 hP ((fun S => lay_66 B ct S) S) g5 dX11_copy_21 ?_
      refine lv_if_eq (tgt := 34) hx hb dX11_copy_22 (by decide) (fun z6 => ?_) (fun z6 => ?_)
      · have h := ob_t h z6
        refine lv_bipush (v := (-11)) hx hb dX11_copy_34 (by decide) ?_
        exact r_Iw C0 hP hS h dX11_copy_36
      · have h := ob_f h z6
        refine lv_aload_n hx hb dX11_copy_25 rfl (lv_at hl 0 rfl) ?_
        refine x_get C0 hP (lay_X11 B ct S) rfl inG11 5 (by decide) wd_224 (fun _ h => h) rfl dX11_copy_26 ?_
        refine lv_iload_n hx hb dX11_copy_29 rfl (lv_at hl 3 rfl) ?_
        obtain ⟨g7, h⟩ := ob_gd h
        refine x_iald C0 hP ((fun S => lay_66 B ct S) S) g7 dX11_copy_30 ?_
        refine lv_if_ne (tgt := 37) hx hb dX11_copy_31 (by decide) (fun z8 => ?_) (fun z8 => ?_)
        · have h := ob_f h z8
          refine lv_aload_n hx hb dX11_copy_37 rfl (lv_at hl 0 rfl) ?_
          refine x_get C0 hP (lay_X11 B ct S) rfl inG11 5 (by decide) wd_224 (fun _ h => h) rfl dX11_copy_38 ?_
          refine lv_iload_n hx hb dX11_copy_41 rfl (lv_at hl 1 rfl) ?_
          obtain ⟨g9, h⟩ := ob_gd h
          refine x_iald C0 hP ((fun S => lay_66 B ct S) S) g9 dX11_copy_42 ?_
          refine lv_iconst (v := 2) hx hb dX11_copy_43 (by decide) ?_
          refine lv_icmp_ne (tgt := 78) hx hb dX11_copy_44 (by decide) (fun z10 => ?_) (fun z10 => ?_)
          · have h := ob_f h z10
            refine lv_bipush (v := (-12)) hx hb dX11_copy_78 (by decide) ?_
            exact r_Iw C0 hP hS h dX11_copy_80
          · have h := ob_t h z10
            refine lv_aload_n hx hb dX11_copy_47 rfl (lv_at hl 0 rfl) ?_
            refine x_get C0 hP (lay_X11 B ct S) rfl inG11 5 (by decide) wd_224 (fun _ h => h) rfl dX11_copy_48 ?_
            refine lv_iload_n hx hb dX11_copy_51 rfl (lv_at hl 3 rfl) ?_
            obtain ⟨g11, h⟩ := ob_gd h
            refine x_iald C0 hP ((fun S => lay_66 B ct S) S) g11 dX11_copy_52 ?_
            refine lv_iconst (v := 2) hx hb dX11_copy_53 (by decide) ?_
            refine lv_icmp_ne (tgt := 78) hx hb dX11_copy_54 (by decide) (fun z12 => ?_) (fun z12 => ?_)
            · have h := ob_f h z12
              refine lv_bipush (v := (-12)) hx hb dX11_copy_78 (by decide) ?_
              exact r_Iw C0 hP hS h dX11_copy_80
            · have h := ob_t h z12
              refine lv_aload_n hx hb dX11_copy_57 rfl (lv_at hl 0 rfl) ?_
              refine x_get C0 hP (lay_X11 B ct S) rfl inG11 7 (by decide) wd_226 (fun _ h => h) rfl dX11_copy_58 ?_
              refine lv_iload_n hx hb dX11_copy_61 rfl (lv_at hl 1 rfl) ?_
              obtain ⟨g13, h⟩ := ob_gd h
              refine x_aald (v := .ref (B + (70 + 2 * v1.toNatClampNeg))) C0 hP (lay_68 B ct S) rfl rfl g13 rfl dX11_copy_62 ?_
              refine x_get C0 hP (lay_X8 B ct S (isRow_of g13)) rfl inG8 0 (by decide) wd_204 (fun _ h => h) rfl dX11_copy_63 ?_
              refine lv_aload_n hx hb dX11_copy_66 rfl (lv_at hl 0 rfl) ?_
              refine x_get C0 hP (lay_X11 B ct S) rfl inG11 7 (by decide) wd_226 (fun _ h => h) rfl dX11_copy_67 ?_
              refine lv_iload_n hx hb dX11_copy_70 rfl (lv_at hl 3 rfl) ?_
              obtain ⟨g14, h⟩ := ob_gd h
              refine x_aald (v := .ref (B + (70 + 2 * v3.toNatClampNeg))) C0 hP (lay_68 B ct S) rfl rfl g14 rfl dX11_copy_71 ?_
              refine x_get C0 hP (lay_X8 B ct S (isRow_of g14)) rfl inG8 0 (by decide) wd_204 (fun _ h => h) rfl dX11_copy_72 ?_
              refine lv_icmp_eq (tgt := 81) hx hb dX11_copy_75 (by decide) (fun z15 => ?_) (fun z15 => ?_)
              · have h := ob_t h z15
                refine lv_aload_n hx hb dX11_copy_81 rfl (lv_at hl 0 rfl) ?_
                refine x_get C0 hP (lay_X11 B ct S) rfl inG11 7 (by decide) wd_226 (fun _ h => h) rfl dX11_copy_82 ?_
                refine lv_iload_n hx hb dX11_copy_85 rfl (lv_at hl 1 rfl) ?_
                obtain ⟨g16, h⟩ := ob_gd h
                refine x_aald (v := .ref (B + (70 + 2 * v1.toNatClampNeg))) C0 hP (lay_68 B ct S) rfl rfl g16 rfl dX11_copy_86 ?_
                refine lv_iload_n hx hb dX11_copy_87 rfl (lv_at hl 2 rfl) ?_
                refine lv_iload hx hb dX11_copy_88 (lv_at hl 5 rfl) ?_
                obtain ⟨r17, hr17, h⟩ := ob_bd h
                refine n_I (kV (As := [.int v2, .int v5]) C0 (c_X8_hasPlaces l (70 + 2 * v1.toNatClampNeg) (isRow_of g16) v2 v5 hr17) ⟨wd_285, wd_951, wd_283, wd_284, wd_5⟩ kd_X8_hasPlaces ⟨Nat.le_of_ble_eq_true rfl, Nat.le_of_ble_eq_true rfl⟩ hP (lay_X8 B ct S (isRow_of g16)) rfl rfl hl.1 rfl (Nat.le_of_ble_eq_true rfl) dX11_copy_90 ⟨Nat.le_of_ble_eq_true rfl, Nat.le_of_ble_eq_true rfl⟩) hS (fun H locs hP hS => ?_)
                refine lv_if_eq (tgt := 112) hx hb dX11_copy_93 (by decide) (fun z18 => ?_) (fun z18 => ?_)
                · have h := ob_t h z18
                  refine lv_bipush (v := (-13)) hx hb dX11_copy_112 (by decide) ?_
                  exact r_Iw C0 hP hS h dX11_copy_114
                · have h := ob_f h z18
                  refine lv_aload_n hx hb dX11_copy_96 rfl (lv_at hl 0 rfl) ?_
                  refine x_get C0 hP (lay_X11 B ct S) rfl inG11 7 (by decide) wd_226 (fun _ h => h) rfl dX11_copy_97 ?_
                  refine lv_iload_n hx hb dX11_copy_100 rfl (lv_at hl 3 rfl) ?_
                  obtain ⟨g19, h⟩ := ob_gd h
                  refine x_aald (v := .ref (B + (70 + 2 * v3.toNatClampNeg))) C0 hP (lay_68 B ct S) rfl rfl g19 rfl dX11_copy_101 ?_
                  refine lv_iload hx hb dX11_copy_102 (lv_at hl 4 rfl) ?_
                  refine lv_iload hx hb dX11_copy_104 (lv_at hl 5 rfl) ?_
                  obtain ⟨r20, hr20, h⟩ := ob_bd h
                  refine n_I (kV (As := [.int v4, .int v5]) C0 (c_X8_hasPlaces l (70 + 2 * v3.toNatClampNeg) (isRow_of g19) v4 v5 hr20) ⟨wd_285, wd_951, wd_283, wd_284, wd_5⟩ kd_X8_hasPlaces ⟨Nat.le_of_ble_eq_true rfl, Nat.le_of_ble_eq_true rfl⟩ hP (lay_X8 B ct S (isRow_of g19)) rfl rfl hl.1 rfl (Nat.le_of_ble_eq_true rfl) dX11_copy_106 ⟨Nat.le_of_ble_eq_true rfl, Nat.le_of_ble_eq_true rfl⟩) hS (fun H locs hP hS => ?_)
                  refine lv_if_ne (tgt := 115) hx hb dX11_copy_109 (by decide) (fun z21 => ?_) (fun z21 => ?_)
                  · have h := ob_f h z21
                    refine lv_aload_n hx hb dX11_copy_115 rfl (lv_at hl 0 rfl) ?_
                    refine x_get C0 hP (lay_X11 B ct S) rfl inG11 7 (by decide) wd_226 (fun _ h => h) rfl dX11_copy_116 ?_
                    refine lv_iload_n hx hb dX11_copy_119 rfl (lv_at hl 1 rfl) ?_
                    obtain ⟨g22, h⟩ := ob_gd h
                    refine x_aald (v := .ref (B + (70 + 2 * v1.toNatClampNeg))) C0 hP (lay_68 B ct S) rfl rfl g22 rfl dX11_copy_120 ?_
                    refine x_get C0 hP (lay_X8 B ct S (isRow_of g22)) rfl inG8 2 (by decide) wd_209 (fun _ h => h) rfl dX11_copy_121 ?_
                    refine lv_iload_n hx hb dX11_copy_124 rfl (lv_at hl 2 rfl) ?_
                    refine lv_aload_n hx hb dX11_copy_125 rfl (lv_at hl 0 rfl) ?_
                    refine x_get C0 hP (lay_X11 B ct S) rfl inG11 7 (by decide) wd_226 (fun _ h => h) rfl dX11_copy_126 ?_
                    refine lv_iload_n hx hb dX11_copy_129 rfl (lv_at hl 3 rfl) ?_
                    obtain ⟨g23, h⟩ := ob_gd h
                    refine x_aald (v := .ref (B + (70 + 2 * v3.toNatClampNeg))) C0 hP (lay_68 B ct S) rfl rfl g23 rfl dX11_copy_130 ?_
                    refine x_get C0 hP (lay_X8 B ct S (isRow_of g23)) rfl inG8 2 (by decide) wd_209 (fun _ h => h) rfl dX11_copy_131 ?_
                    refine lv_iload hx hb dX11_copy_134 (lv_at hl 4 rfl) ?_
                    refine lv_iload hx hb dX11_copy_136 (lv_at hl 5 rfl) ?_
                    obtain ⟨g24, h⟩ := ob_gd h
                    obtain ⟨S25, eS25, h⟩ := ob_nm h
                    refine x_copyi C0 hP hS hl.1 ⟨wd_874, wd_270, wd_269, wd_7⟩ (fun S => lay_w1 B ct S (isRow_of g22)) (fun S => lay_w1 B ct S (isRow_of g23)) g24 (Nat.le_of_ble_eq_true rfl) (Nat.le_trans (Nat.add_le_add_left cpy_room _) (Nat.le_of_ble_eq_true rfl)) dX11_copy_138 (fun H locs hP hS => ?_)
                    rw [← eS25] at hP
                    refine lv_iload hx hb dX11_copy_141 (lv_at hl 5 rfl) ?_
                    exact r_Iw C0 hP hS h dX11_copy_143
                  · have h := ob_t h z21
                    refine lv_bipush (v := (-13)) hx hb dX11_copy_112 (by decide) ?_
                    exact r_Iw C0 hP hS h dX11_copy_114
              · have h := ob_f h z15
                refine lv_bipush (v := (-12)) hx hb dX11_copy_78 (by decide) ?_
                exact r_Iw C0 hP hS h dX11_copy_80
        · have h := ob_t h z8
          refine lv_bipush (v := (-11)) hx hb dX11_copy_34 (by decide) ?_
          exact r_Iw C0 hP hS h dX11_copy_36
    · have h := ob_f h z4
      refine lv_iconst (v := (-1)) hx hb dX11_copy_14 (by decide) ?_
      exact r_Iw C0 hP hS h dX11_copy_15
set_option maxRecDepth 100000 in
set_option maxHeartbeats 4000000 in
theorem c_X11_copy (l : Launch) (a1 : Int32) (a2 : Int32) (a3 : Int32) (a4 : Int32) (a5 : Int32) {D : va_G} {ct : Nat → ClassId} {B : Nat} {Hb : Heap} {S : St} {V : Int32 × St} (h : L_X11_copy a1 a2 a3 a4 a5 S = some V) : Met l yX11_copy (Cond.code yX11_copy cX11_copy 6 (some .int) :: tG) { frames := 1, cells := 0, slots := 0, locals := 54 } (va_Pc [.ref (B + 0), .int a1, .int a2, .int a3, .int a4, .int a5] (MPK D ct B Hb S)) (qIw D ct B Hb V) 0 0 (AB B) := by
  refine mk_met (by decide +kernel) (Nat.le_of_ble_eq_true rfl) (fun p e s m args below meth c ls C0 hP hl _ => ?_)
  have h := ob_of h
  exact w_X11_copy_0 l C0 a1 a2 a3 a4 a5 S h hP va_S.rf (lv_sub hl [0, 1, 2, 3, 4, 5] rfl)
set_option maxRecDepth 100000 in
set_option maxHeartbeats 4000000 in
theorem w_X11_cost_0 (l : Launch) {V : Int32} (C0 : XC D ct p s m args meth c cX11_cost 3 (some .int) RX11) (v1 : Int32) (S : St) {H : Heap} {locs : List Loc} {ls : Array Slot} (h : (b_X11_cost_0 v1 S).bind some = some V) (hP : MP D ct B Hb S H) (hS : va_S (AB B) s.heap H locs) (hl : lv_has ls 3 [(0, .ref (B + 0)), (1, .int v1)]) : W p l e { frames := 3, cells := 0, slots := 0, locals := 60 } s m args below meth c H locs 0 0 (MQ below (qI D ct B Hb S V) args s 0 0 (AB B)) (F0 m 0 ls []) := by
  obtain ⟨hx, hb, hr, hml, hown, hts, hK, hlocks, hN⟩ := id C0
  unfold b_X11_cost_0 at h
  refine lv_aload_n hx hb dX11_cost_0 rfl (lv_at hl 0 rfl) ?_
  refine lv_iload_n hx hb dX11_cost_1 rfl (lv_at hl 1 rfl) ?_
  refine lv_iconst (v := 1) hx hb dX11_cost_2 (by decide) ?_
  obtain ⟨r1, hr1, h⟩ := ob_bd h
  refine n_I (kV (As := [.int v1, .int 1]) C0 (c_X11_shelfRefusal l v1 1 hr1) ⟨wd_260, wd_257, wd_259, wp_0, wd_1⟩ kd_X11_shelfRefusal ⟨Nat.le_of_ble_eq_true rfl, Nat.le_of_ble_eq_true rfl⟩ hP (lay_X11 B ct S) rfl rfl hl.1 rfl (Nat.le_of_ble_eq_true rfl) dX11_cost_3 ⟨Nat.le_of_ble_eq_true rfl, Nat.le_of_ble_eq_true rfl⟩) hS (fun H locs hP hS => ?_)
  refine lv_istore_n (lv' := [(2, .int r1), (0, .ref (B + 0)), (1, .int v1)]) hx hb dX11_cost_6 rfl hl (by decide) rfl (fun ls hl => ?_)
  refine lv_iload_n hx hb dX11_cost_7 rfl (lv_at hl 0 rfl) ?_
  refine lv_if_eq (tgt := 15) hx hb dX11_cost_8 (by decide) (fun z2 => ?_) (fun z2 => ?_)
  · have h := ob_t h z2
    refine lv_aload_n hx hb dX11_cost_15 rfl (lv_at hl 1 rfl) ?_
    refine x_get C0 hP (lay_X11 B ct S) rfl inG11 6 (by decide) wd_225 (fun _ h => h) rfl dX11_cost_16 ?_
    refine lv_iload_n hx hb dX11_cost_19 rfl (lv_at hl 2 rfl) ?_
    obtain ⟨g3, h⟩ := ob_gd h
    obtain ⟨q4, eq4, h⟩ := ob_bd h
    refine x_aald (v := .ref (B + q4)) C0 hP ((fun S => lay_67 B ct S) S) rfl rfl g3 (by show va_rf ((gr S 67 v1.toNatClampNeg).map (B + ·)) = _; rw [eq4]; rfl) dX11_cost_20 ?_
    obtain ⟨r5, hr5, h⟩ := ob_bd h
    refine n_I (kv_costOf l C0 wd_964 q4 hr5 ⟨Nat.le_of_ble_eq_true rfl, Nat.le_of_ble_eq_true rfl⟩ hP hl.1 rfl (Nat.le_of_ble_eq_true rfl) dX11_cost_21) hS (fun H locs hP hS => ?_)
    exact r_I C0 hP hS h dX11_cost_24
  · have h := ob_f h z2
    refine lv_iload_n hx hb dX11_cost_11 rfl (lv_at hl 0 rfl) ?_
    refine lv_goto (tgt := 24) hx hb dX11_cost_12 (by decide) ?_
    exact r_I C0 hP hS h dX11_cost_24
set_option maxRecDepth 100000 in
set_option maxHeartbeats 4000000 in
theorem c_X11_cost (l : Launch) (a1 : Int32) {D : va_G} {ct : Nat → ClassId} {B : Nat} {Hb : Heap} {S : St} {V : Int32} (h : L_X11_cost a1 S = some V) : Met l yX11_cost (Cond.code yX11_cost cX11_cost 3 (some .int) :: tG) { frames := 3, cells := 0, slots := 0, locals := 60 } (va_Pc [.ref (B + 0), .int a1] (MPK D ct B Hb S)) (qI D ct B Hb S V) 0 0 (AB B) := by
  refine mk_met (by decide +kernel) (Nat.le_of_ble_eq_true rfl) (fun p e s m args below meth c ls C0 hP hl _ => ?_)
  have h := ob_of h
  exact w_X11_cost_0 l C0 a1 S h hP va_S.rf (lv_sub hl [0, 1] rfl)
end WALKS
