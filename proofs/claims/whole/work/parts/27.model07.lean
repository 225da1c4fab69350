theorem dX12_turners_0 : decode cX12_turners 0 = .ok (.aload_n 0, 1) := by decide +kernel
theorem dX12_turners_1 : decode cX12_turners 1 = .ok (.iconst 0, 1) := by decide +kernel
theorem dX12_turners_2 : decode cX12_turners 2 = .ok (.putfield 160, 3) := by decide +kernel
theorem dX12_turners_5 : decode cX12_turners 5 = .ok (.aload_n 0, 1) := by decide +kernel
theorem dX12_turners_6 : decode cX12_turners 6 = .ok (.iload_n 1, 1) := by decide +kernel
theorem dX12_turners_7 : decode cX12_turners 7 = .ok (.invokevirtual 337, 3) := by decide +kernel
theorem dX12_turners_10 : decode cX12_turners 10 = .ok (.ifCond .ne 5, 3) := by decide +kernel
theorem dX12_turners_13 : decode cX12_turners 13 = .ok (.iconst (-1), 1) := by decide +kernel
theorem dX12_turners_14 : decode cX12_turners 14 = .ok (.ireturn, 1) := by decide +kernel
theorem dX12_turners_15 : decode cX12_turners 15 = .ok (.aload_n 0, 1) := by decide +kernel
theorem dX12_turners_16 : decode cX12_turners 16 = .ok (.iload_n 1, 1) := by decide +kernel
theorem dX12_turners_17 : decode cX12_turners 17 = .ok (.invokevirtual 383, 3) := by decide +kernel
theorem dX12_turners_20 : decode cX12_turners 20 = .ok (.istore_n 2, 1) := by decide +kernel
theorem dX12_turners_21 : decode cX12_turners 21 = .ok (.iconst 0, 1) := by decide +kernel
theorem dX12_turners_22 : decode cX12_turners 22 = .ok (.istore_n 3, 1) := by decide +kernel
theorem dX12_turners_23 : decode cX12_turners 23 = .ok (.iconst 0, 1) := by decide +kernel
theorem dX12_turners_24 : decode cX12_turners 24 = .ok (.istore 4, 2) := by decide +kernel
theorem dX12_turners_26 : decode cX12_turners 26 = .ok (.iload 4, 2) := by decide +kernel
theorem dX12_turners_28 : decode cX12_turners 28 = .ok (.aload_n 0, 1) := by decide +kernel
theorem dX12_turners_29 : decode cX12_turners 29 = .ok (.getfield 181, 3) := by decide +kernel
theorem dX12_turners_32 : decode cX12_turners 32 = .ok (.if_icmp .ge 42, 3) := by decide +kernel
theorem dX12_turners_35 : decode cX12_turners 35 = .ok (.aload_n 0, 1) := by decide +kernel
theorem dX12_turners_36 : decode cX12_turners 36 = .ok (.bipush 63, 2) := by decide +kernel
theorem dX12_turners_38 : decode cX12_turners 38 = .ok (.iconst 1, 1) := by decide +kernel
theorem dX12_turners_39 : decode cX12_turners 39 = .ok (.iload 4, 2) := by decide +kernel
theorem dX12_turners_41 : decode cX12_turners 41 = .ok (.ishl, 1) := by decide +kernel
theorem dX12_turners_42 : decode cX12_turners 42 = .ok (.iconst (-1), 1) := by decide +kernel
theorem dX12_turners_43 : decode cX12_turners 43 = .ok (.ixor, 1) := by decide +kernel
theorem dX12_turners_44 : decode cX12_turners 44 = .ok (.iand, 1) := by decide +kernel
theorem dX12_turners_45 : decode cX12_turners 45 = .ok (.putfield 87, 3) := by decide +kernel
theorem dX12_turners_48 : decode cX12_turners 48 = .ok (.iload_n 3, 1) := by decide +kernel
theorem dX12_turners_49 : decode cX12_turners 49 = .ok (.aload_n 0, 1) := by decide +kernel
theorem dX12_turners_50 : decode cX12_turners 50 = .ok (.iload_n 1, 1) := by decide +kernel
theorem dX12_turners_51 : decode cX12_turners 51 = .ok (.invokevirtual 383, 3) := by decide +kernel
theorem dX12_turners_54 : decode cX12_turners 54 = .ok (.iload_n 2, 1) := by decide +kernel
theorem dX12_turners_55 : decode cX12_turners 55 = .ok (.if_icmp .eq 10, 3) := by decide +kernel
theorem dX12_turners_58 : decode cX12_turners 58 = .ok (.iconst 1, 1) := by decide +kernel
theorem dX12_turners_59 : decode cX12_turners 59 = .ok (.iload 4, 2) := by decide +kernel
theorem dX12_turners_61 : decode cX12_turners 61 = .ok (.ishl, 1) := by decide +kernel
theorem dX12_turners_62 : decode cX12_turners 62 = .ok (.goto 4, 3) := by decide +kernel
theorem dX12_turners_65 : decode cX12_turners 65 = .ok (.iconst 0, 1) := by decide +kernel
theorem dX12_turners_66 : decode cX12_turners 66 = .ok (.ior, 1) := by decide +kernel
theorem dX12_turners_67 : decode cX12_turners 67 = .ok (.istore_n 3, 1) := by decide +kernel
theorem dX12_turners_68 : decode cX12_turners 68 = .ok (.iinc 4 1, 3) := by decide +kernel
theorem dX12_turners_71 : decode cX12_turners 71 = .ok (.goto (-45), 3) := by decide +kernel
theorem dX12_turners_74 : decode cX12_turners 74 = .ok (.aload_n 0, 1) := by decide +kernel
theorem dX12_turners_75 : decode cX12_turners 75 = .ok (.bipush 63, 2) := by decide +kernel
theorem dX12_turners_77 : decode cX12_turners 77 = .ok (.putfield 87, 3) := by decide +kernel
theorem dX12_turners_80 : decode cX12_turners 80 = .ok (.iload_n 3, 1) := by decide +kernel
theorem dX12_turners_81 : decode cX12_turners 81 = .ok (.ireturn, 1) := by decide +kernel
theorem dX12_yes_0 : decode cX12_yes 0 = .ok (.aload_n 0, 1) := by decide +kernel
theorem dX12_yes_1 : decode cX12_yes 1 = .ok (.iconst 0, 1) := by decide +kernel
theorem dX12_yes_2 : decode cX12_yes 2 = .ok (.putfield 160, 3) := by decide +kernel
theorem dX12_yes_5 : decode cX12_yes 5 = .ok (.aload_n 0, 1) := by decide +kernel
theorem dX12_yes_6 : decode cX12_yes 6 = .ok (.iload_n 1, 1) := by decide +kernel
theorem dX12_yes_7 : decode cX12_yes 7 = .ok (.invokevirtual 337, 3) := by decide +kernel
theorem dX12_yes_10 : decode cX12_yes 10 = .ok (.ifCond .ne 5, 3) := by decide +kernel
theorem dX12_yes_13 : decode cX12_yes 13 = .ok (.iconst (-1), 1) := by decide +kernel
theorem dX12_yes_14 : decode cX12_yes 14 = .ok (.ireturn, 1) := by decide +kernel
theorem dX12_yes_15 : decode cX12_yes 15 = .ok (.aload_n 0, 1) := by decide +kernel
theorem dX12_yes_16 : decode cX12_yes 16 = .ok (.getfield 59, 3) := by decide +kernel
theorem dX12_yes_19 : decode cX12_yes 19 = .ok (.iload_n 1, 1) := by decide +kernel
theorem dX12_yes_20 : decode cX12_yes 20 = .ok (.iaload, 1) := by decide +kernel
theorem dX12_yes_21 : decode cX12_yes 21 = .ok (.istore_n 2, 1) := by decide +kernel
theorem dX12_yes_22 : decode cX12_yes 22 = .ok (.iconst 0, 1) := by decide +kernel
theorem dX12_yes_23 : decode cX12_yes 23 = .ok (.istore_n 3, 1) := by decide +kernel
theorem dX12_yes_24 : decode cX12_yes 24 = .ok (.iconst 0, 1) := by decide +kernel
theorem dX12_yes_25 : decode cX12_yes 25 = .ok (.istore 4, 2) := by decide +kernel
theorem dX12_yes_27 : decode cX12_yes 27 = .ok (.iload 4, 2) := by decide +kernel
theorem dX12_yes_29 : decode cX12_yes 29 = .ok (.bipush 24, 2) := by decide +kernel
theorem dX12_yes_31 : decode cX12_yes 31 = .ok (.if_icmp .ge 37, 3) := by decide +kernel
theorem dX12_yes_34 : decode cX12_yes 34 = .ok (.aload_n 0, 1) := by decide +kernel
theorem dX12_yes_35 : decode cX12_yes 35 = .ok (.getfield 59, 3) := by decide +kernel
theorem dX12_yes_38 : decode cX12_yes 38 = .ok (.iload_n 1, 1) := by decide +kernel
theorem dX12_yes_39 : decode cX12_yes 39 = .ok (.iload 4, 2) := by decide +kernel
theorem dX12_yes_41 : decode cX12_yes 41 = .ok (.iastore, 1) := by decide +kernel
theorem dX12_yes_42 : decode cX12_yes 42 = .ok (.iload_n 3, 1) := by decide +kernel
theorem dX12_yes_43 : decode cX12_yes 43 = .ok (.aload_n 0, 1) := by decide +kernel
theorem dX12_yes_44 : decode cX12_yes 44 = .ok (.iload_n 1, 1) := by decide +kernel
theorem dX12_yes_45 : decode cX12_yes 45 = .ok (.invokevirtual 383, 3) := by decide +kernel
theorem dX12_yes_48 : decode cX12_yes 48 = .ok (.iconst 1, 1) := by decide +kernel
theorem dX12_yes_49 : decode cX12_yes 49 = .ok (.if_icmp .ne 10, 3) := by decide +kernel
theorem dX12_yes_52 : decode cX12_yes 52 = .ok (.iconst 1, 1) := by decide +kernel
theorem dX12_yes_53 : decode cX12_yes 53 = .ok (.iload 4, 2) := by decide +kernel
theorem dX12_yes_55 : decode cX12_yes 55 = .ok (.ishl, 1) := by decide +kernel
theorem dX12_yes_56 : decode cX12_yes 56 = .ok (.goto 4, 3) := by decide +kernel
theorem dX12_yes_59 : decode cX12_yes 59 = .ok (.iconst 0, 1) := by decide +kernel
theorem dX12_yes_60 : decode cX12_yes 60 = .ok (.ior, 1) := by decide +kernel
theorem dX12_yes_61 : decode cX12_yes 61 = .ok (.istore_n 3, 1) := by decide +kernel
theorem dX12_yes_62 : decode cX12_yes 62 = .ok (.iinc 4 1, 3) := by decide +kernel
theorem dX12_yes_65 : decode cX12_yes 65 = .ok (.goto (-38), 3) := by decide +kernel
theorem dX12_yes_68 : decode cX12_yes 68 = .ok (.aload_n 0, 1) := by decide +kernel
theorem dX12_yes_69 : decode cX12_yes 69 = .ok (.getfield 59, 3) := by decide +kernel
theorem dX12_yes_72 : decode cX12_yes 72 = .ok (.iload_n 1, 1) := by decide +kernel
theorem dX12_yes_73 : decode cX12_yes 73 = .ok (.iload_n 2, 1) := by decide +kernel
theorem dX12_yes_74 : decode cX12_yes 74 = .ok (.iastore, 1) := by decide +kernel
theorem dX12_yes_75 : decode cX12_yes 75 = .ok (.iload_n 3, 1) := by decide +kernel
theorem dX12_yes_76 : decode cX12_yes 76 = .ok (.ireturn, 1) := by decide +kernel
theorem dX12_moods_0 : decode cX12_moods 0 = .ok (.aload_n 0, 1) := by decide +kernel
theorem dX12_moods_1 : decode cX12_moods 1 = .ok (.iconst 0, 1) := by decide +kernel
theorem dX12_moods_2 : decode cX12_moods 2 = .ok (.putfield 160, 3) := by decide +kernel
theorem dX12_moods_5 : decode cX12_moods 5 = .ok (.aload_n 0, 1) := by decide +kernel
theorem dX12_moods_6 : decode cX12_moods 6 = .ok (.iload_n 1, 1) := by decide +kernel
theorem dX12_moods_7 : decode cX12_moods 7 = .ok (.invokevirtual 337, 3) := by decide +kernel
theorem dX12_moods_10 : decode cX12_moods 10 = .ok (.ifCond .eq 13, 3) := by decide +kernel
theorem dX12_moods_13 : decode cX12_moods 13 = .ok (.iload_n 2, 1) := by decide +kernel
theorem dX12_moods_14 : decode cX12_moods 14 = .ok (.i2l, 1) := by decide +kernel
theorem dX12_moods_15 : decode cX12_moods 15 = .ok (.lconst 0, 1) := by decide +kernel
theorem dX12_moods_16 : decode cX12_moods 16 = .ok (.lconst 1, 1) := by decide +kernel
theorem dX12_moods_17 : decode cX12_moods 17 = .ok (.invokestatic 165, 3) := by decide +kernel
theorem dX12_moods_20 : decode cX12_moods 20 = .ok (.ifCond .ne 5, 3) := by decide +kernel
theorem dX12_moods_23 : decode cX12_moods 23 = .ok (.iconst (-1), 1) := by decide +kernel
theorem dX12_moods_24 : decode cX12_moods 24 = .ok (.ireturn, 1) := by decide +kernel
theorem dX12_moods_25 : decode cX12_moods 25 = .ok (.aload_n 0, 1) := by decide +kernel
theorem dX12_moods_26 : decode cX12_moods 26 = .ok (.getfield 62, 3) := by decide +kernel
theorem dX12_moods_29 : decode cX12_moods 29 = .ok (.iload_n 1, 1) := by decide +kernel
theorem dX12_moods_30 : decode cX12_moods 30 = .ok (.iaload, 1) := by decide +kernel
theorem dX12_moods_31 : decode cX12_moods 31 = .ok (.istore_n 3, 1) := by decide +kernel
theorem dX12_moods_32 : decode cX12_moods 32 = .ok (.iconst 0, 1) := by decide +kernel
theorem dX12_moods_33 : decode cX12_moods 33 = .ok (.istore 4, 2) := by decide +kernel
theorem dX12_moods_35 : decode cX12_moods 35 = .ok (.bipush (-4), 2) := by decide +kernel
theorem dX12_moods_37 : decode cX12_moods 37 = .ok (.istore 5, 2) := by decide +kernel
theorem dX12_moods_39 : decode cX12_moods 39 = .ok (.bipush (-9), 2) := by decide +kernel
theorem dX12_moods_41 : decode cX12_moods 41 = .ok (.istore 6, 2) := by decide +kernel
theorem dX12_moods_43 : decode cX12_moods 43 = .ok (.iload 6, 2) := by decide +kernel
theorem dX12_moods_45 : decode cX12_moods 45 = .ok (.bipush 9, 2) := by decide +kernel
theorem dX12_moods_47 : decode cX12_moods 47 = .ok (.if_icmp .gt 70, 3) := by decide +kernel
theorem dX12_moods_50 : decode cX12_moods 50 = .ok (.aload_n 0, 1) := by decide +kernel
theorem dX12_moods_51 : decode cX12_moods 51 = .ok (.getfield 62, 3) := by decide +kernel
theorem dX12_moods_54 : decode cX12_moods 54 = .ok (.iload_n 1, 1) := by decide +kernel
theorem dX12_moods_55 : decode cX12_moods 55 = .ok (.iload 6, 2) := by decide +kernel
theorem dX12_moods_57 : decode cX12_moods 57 = .ok (.iastore, 1) := by decide +kernel
theorem dX12_moods_58 : decode cX12_moods 58 = .ok (.aload_n 0, 1) := by decide +kernel
theorem dX12_moods_59 : decode cX12_moods 59 = .ok (.iload_n 1, 1) := by decide +kernel
theorem dX12_moods_60 : decode cX12_moods 60 = .ok (.invokevirtual 383, 3) := by decide +kernel
theorem dX12_moods_63 : decode cX12_moods 63 = .ok (.iconst 1, 1) := by decide +kernel
theorem dX12_moods_64 : decode cX12_moods 64 = .ok (.if_icmp .ne 7, 3) := by decide +kernel
theorem dX12_moods_67 : decode cX12_moods 67 = .ok (.iconst 1, 1) := by decide +kernel
theorem dX12_moods_68 : decode cX12_moods 68 = .ok (.goto 4, 3) := by decide +kernel
theorem dX12_moods_71 : decode cX12_moods 71 = .ok (.iconst 0, 1) := by decide +kernel
theorem dX12_moods_72 : decode cX12_moods 72 = .ok (.istore 7, 2) := by decide +kernel
theorem dX12_moods_74 : decode cX12_moods 74 = .ok (.iload 4, 2) := by decide +kernel
theorem dX12_moods_76 : decode cX12_moods 76 = .ok (.iload 7, 2) := by decide +kernel
theorem dX12_moods_78 : decode cX12_moods 78 = .ok (.ifCond .eq 7, 3) := by decide +kernel
theorem dX12_moods_81 : decode cX12_moods 81 = .ok (.iconst 1, 1) := by decide +kernel
theorem dX12_moods_82 : decode cX12_moods 82 = .ok (.goto 4, 3) := by decide +kernel
theorem dX12_moods_85 : decode cX12_moods 85 = .ok (.iconst 0, 1) := by decide +kernel
theorem dX12_moods_86 : decode cX12_moods 86 = .ok (.iadd, 1) := by decide +kernel
theorem dX12_moods_87 : decode cX12_moods 87 = .ok (.istore 4, 2) := by decide +kernel
theorem dX12_moods_89 : decode cX12_moods 89 = .ok (.iload 7, 2) := by decide +kernel
theorem dX12_moods_91 : decode cX12_moods 91 = .ok (.ifCond .eq 16, 3) := by decide +kernel
theorem dX12_moods_94 : decode cX12_moods 94 = .ok (.iload 5, 2) := by decide +kernel
theorem dX12_moods_96 : decode cX12_moods 96 = .ok (.ifCond .ge 11, 3) := by decide +kernel
theorem dX12_moods_99 : decode cX12_moods 99 = .ok (.iload 6, 2) := by decide +kernel
theorem dX12_moods_101 : decode cX12_moods 101 = .ok (.bipush 9, 2) := by decide +kernel
theorem dX12_moods_103 : decode cX12_moods 103 = .ok (.iadd, 1) := by decide +kernel
theorem dX12_moods_104 : decode cX12_moods 104 = .ok (.goto 5, 3) := by decide +kernel
theorem dX12_moods_107 : decode cX12_moods 107 = .ok (.iload 5, 2) := by decide +kernel
theorem dX12_moods_109 : decode cX12_moods 109 = .ok (.istore 5, 2) := by decide +kernel
theorem dX12_moods_111 : decode cX12_moods 111 = .ok (.iinc 6 1, 3) := by decide +kernel
theorem dX12_moods_114 : decode cX12_moods 114 = .ok (.goto (-71), 3) := by decide +kernel
theorem dX12_moods_117 : decode cX12_moods 117 = .ok (.aload_n 0, 1) := by decide +kernel
theorem dX12_moods_118 : decode cX12_moods 118 = .ok (.getfield 62, 3) := by decide +kernel
theorem dX12_moods_121 : decode cX12_moods 121 = .ok (.iload_n 1, 1) := by decide +kernel
theorem dX12_moods_122 : decode cX12_moods 122 = .ok (.iload_n 3, 1) := by decide +kernel
theorem dX12_moods_123 : decode cX12_moods 123 = .ok (.iastore, 1) := by decide +kernel
theorem dX12_moods_124 : decode cX12_moods 124 = .ok (.iload_n 2, 1) := by decide +kernel
theorem dX12_moods_125 : decode cX12_moods 125 = .ok (.ifCond .ne 8, 3) := by decide +kernel
theorem dX12_moods_128 : decode cX12_moods 128 = .ok (.iload 4, 2) := by decide +kernel
theorem dX12_moods_130 : decode cX12_moods 130 = .ok (.goto 5, 3) := by decide +kernel
theorem dX12_moods_133 : decode cX12_moods 133 = .ok (.iload 5, 2) := by decide +kernel
theorem dX12_moods_135 : decode cX12_moods 135 = .ok (.ireturn, 1) := by decide +kernel
theorem dX12_divisor_0 : decode cX12_divisor 0 = .ok (.lload_n 0, 1) := by decide +kernel
theorem dX12_divisor_1 : decode cX12_divisor 1 = .ok (.lstore 4, 2) := by decide +kernel
theorem dX12_divisor_3 : decode cX12_divisor 3 = .ok (.lload_n 2, 1) := by decide +kernel
theorem dX12_divisor_4 : decode cX12_divisor 4 = .ok (.lstore 6, 2) := by decide +kernel
theorem dX12_divisor_6 : decode cX12_divisor 6 = .ok (.lload 6, 2) := by decide +kernel
theorem dX12_divisor_8 : decode cX12_divisor 8 = .ok (.lconst 0, 1) := by decide +kernel
theorem dX12_divisor_9 : decode cX12_divisor 9 = .ok (.lcmp, 1) := by decide +kernel
theorem dX12_divisor_10 : decode cX12_divisor 10 = .ok (.ifCond .eq 21, 3) := by decide +kernel
theorem dX12_divisor_13 : decode cX12_divisor 13 = .ok (.lload 4, 2) := by decide +kernel
theorem dX12_divisor_15 : decode cX12_divisor 15 = .ok (.lload 6, 2) := by decide +kernel
theorem dX12_divisor_17 : decode cX12_divisor 17 = .ok (.lrem, 1) := by decide +kernel
theorem dX12_divisor_18 : decode cX12_divisor 18 = .ok (.lstore 8, 2) := by decide +kernel
theorem dX12_divisor_20 : decode cX12_divisor 20 = .ok (.lload 6, 2) := by decide +kernel
theorem dX12_divisor_22 : decode cX12_divisor 22 = .ok (.lstore 4, 2) := by decide +kernel
theorem dX12_divisor_24 : decode cX12_divisor 24 = .ok (.lload 8, 2) := by decide +kernel
theorem dX12_divisor_26 : decode cX12_divisor 26 = .ok (.lstore 6, 2) := by decide +kernel
theorem dX12_divisor_28 : decode cX12_divisor 28 = .ok (.goto (-22), 3) := by decide +kernel
theorem dX12_divisor_31 : decode cX12_divisor 31 = .ok (.lload 4, 2) := by decide +kernel
theorem dX12_divisor_33 : decode cX12_divisor 33 = .ok (.lreturn, 1) := by decide +kernel
theorem dX12_partOf_0 : decode cX12_partOf 0 = .ok (.lload_n 0, 1) := by decide +kernel
theorem dX12_partOf_1 : decode cX12_partOf 1 = .ok (.lconst 0, 1) := by decide +kernel
theorem dX12_partOf_2 : decode cX12_partOf 2 = .ok (.lcmp, 1) := by decide +kernel
theorem dX12_partOf_3 : decode cX12_partOf 3 = .ok (.ifCond .ne 7, 3) := by decide +kernel
theorem dX12_partOf_6 : decode cX12_partOf 6 = .ok (.iload 4, 2) := by decide +kernel
theorem dX12_partOf_8 : decode cX12_partOf 8 = .ok (.i2l, 1) := by decide +kernel
theorem dX12_partOf_9 : decode cX12_partOf 9 = .ok (.lreturn, 1) := by decide +kernel
theorem dX12_partOf_10 : decode cX12_partOf 10 = .ok (.lload_n 0, 1) := by decide +kernel
theorem dX12_partOf_11 : decode cX12_partOf 11 = .ok (.lload_n 2, 1) := by decide +kernel
theorem dX12_partOf_12 : decode cX12_partOf 12 = .ok (.invokestatic 386, 3) := by decide +kernel
theorem dX12_partOf_15 : decode cX12_partOf 15 = .ok (.lstore 5, 2) := by decide +kernel
theorem dX12_partOf_17 : decode cX12_partOf 17 = .ok (.iload 4, 2) := by decide +kernel
theorem dX12_partOf_19 : decode cX12_partOf 19 = .ok (.ifCond .ne 10, 3) := by decide +kernel
theorem dX12_partOf_22 : decode cX12_partOf 22 = .ok (.lload_n 0, 1) := by decide +kernel
theorem dX12_partOf_23 : decode cX12_partOf 23 = .ok (.lload 5, 2) := by decide +kernel
theorem dX12_partOf_25 : decode cX12_partOf 25 = .ok (.ldiv, 1) := by decide +kernel
theorem dX12_partOf_26 : decode cX12_partOf 26 = .ok (.goto 7, 3) := by decide +kernel
theorem dX12_partOf_29 : decode cX12_partOf 29 = .ok (.lload_n 2, 1) := by decide +kernel
theorem dX12_partOf_30 : decode cX12_partOf 30 = .ok (.lload 5, 2) := by decide +kernel
theorem dX12_partOf_32 : decode cX12_partOf 32 = .ok (.ldiv, 1) := by decide +kernel
theorem dX12_partOf_33 : decode cX12_partOf 33 = .ok (.lreturn, 1) := by decide +kernel
theorem dX12_likelyPart_0 : decode cX12_likelyPart 0 = .ok (.lconst 0, 1) := by decide +kernel
theorem dX12_likelyPart_1 : decode cX12_likelyPart 1 = .ok (.lstore_n 3, 1) := by decide +kernel
theorem dX12_likelyPart_2 : decode cX12_likelyPart 2 = .ok (.lconst 1, 1) := by decide +kernel
theorem dX12_likelyPart_3 : decode cX12_likelyPart 3 = .ok (.lstore 5, 2) := by decide +kernel
theorem dX12_likelyPart_5 : decode cX12_likelyPart 5 = .ok (.iconst 0, 1) := by decide +kernel
theorem dX12_likelyPart_6 : decode cX12_likelyPart 6 = .ok (.istore 7, 2) := by decide +kernel
theorem dX12_likelyPart_8 : decode cX12_likelyPart 8 = .ok (.iload 7, 2) := by decide +kernel
theorem dX12_likelyPart_10 : decode cX12_likelyPart 10 = .ok (.aload_n 0, 1) := by decide +kernel
theorem dX12_likelyPart_11 : decode cX12_likelyPart 11 = .ok (.getfield 181, 3) := by decide +kernel
theorem dX12_likelyPart_14 : decode cX12_likelyPart 14 = .ok (.if_icmp .ge 17, 3) := by decide +kernel
theorem dX12_likelyPart_17 : decode cX12_likelyPart 17 = .ok (.lload 5, 2) := by decide +kernel
theorem dX12_likelyPart_19 : decode cX12_likelyPart 19 = .ok (.ldc2_w 358, 3) := by decide +kernel
theorem dX12_likelyPart_22 : decode cX12_likelyPart 22 = .ok (.lmul, 1) := by decide +kernel
theorem dX12_likelyPart_23 : decode cX12_likelyPart 23 = .ok (.lstore 5, 2) := by decide +kernel
theorem dX12_likelyPart_25 : decode cX12_likelyPart 25 = .ok (.iinc 7 1, 3) := by decide +kernel
theorem dX12_likelyPart_28 : decode cX12_likelyPart 28 = .ok (.goto (-20), 3) := by decide +kernel
theorem dX12_likelyPart_31 : decode cX12_likelyPart 31 = .ok (.iconst 0, 1) := by decide +kernel
theorem dX12_likelyPart_32 : decode cX12_likelyPart 32 = .ok (.istore 7, 2) := by decide +kernel
theorem dX12_likelyPart_34 : decode cX12_likelyPart 34 = .ok (.iload 7, 2) := by decide +kernel
theorem dX12_likelyPart_36 : decode cX12_likelyPart 36 = .ok (.iconst 1, 1) := by decide +kernel
theorem dX12_likelyPart_37 : decode cX12_likelyPart 37 = .ok (.aload_n 0, 1) := by decide +kernel
theorem dX12_likelyPart_38 : decode cX12_likelyPart 38 = .ok (.getfield 181, 3) := by decide +kernel
theorem dX12_likelyPart_41 : decode cX12_likelyPart 41 = .ok (.ishl, 1) := by decide +kernel
theorem dX12_likelyPart_42 : decode cX12_likelyPart 42 = .ok (.if_icmp .ge 119, 3) := by decide +kernel
theorem dX12_likelyPart_45 : decode cX12_likelyPart 45 = .ok (.lconst 1, 1) := by decide +kernel
theorem dX12_likelyPart_46 : decode cX12_likelyPart 46 = .ok (.lstore 8, 2) := by decide +kernel
theorem dX12_likelyPart_48 : decode cX12_likelyPart 48 = .ok (.iconst 0, 1) := by decide +kernel
theorem dX12_likelyPart_49 : decode cX12_likelyPart 49 = .ok (.istore 10, 2) := by decide +kernel
theorem dX12_likelyPart_51 : decode cX12_likelyPart 51 = .ok (.iload 10, 2) := by decide +kernel
theorem dX12_likelyPart_53 : decode cX12_likelyPart 53 = .ok (.aload_n 0, 1) := by decide +kernel
theorem dX12_likelyPart_54 : decode cX12_likelyPart 54 = .ok (.getfield 181, 3) := by decide +kernel
theorem dX12_likelyPart_57 : decode cX12_likelyPart 57 = .ok (.if_icmp .ge 47, 3) := by decide +kernel
theorem dX12_likelyPart_60 : decode cX12_likelyPart 60 = .ok (.lload 8, 2) := by decide +kernel
theorem dX12_likelyPart_62 : decode cX12_likelyPart 62 = .ok (.iload 7, 2) := by decide +kernel
theorem dX12_likelyPart_64 : decode cX12_likelyPart 64 = .ok (.iload 10, 2) := by decide +kernel
theorem dX12_likelyPart_66 : decode cX12_likelyPart 66 = .ok (.ishr, 1) := by decide +kernel
theorem dX12_likelyPart_67 : decode cX12_likelyPart 67 = .ok (.iconst 1, 1) := by decide +kernel
theorem dX12_likelyPart_68 : decode cX12_likelyPart 68 = .ok (.iand, 1) := by decide +kernel
theorem dX12_likelyPart_69 : decode cX12_likelyPart 69 = .ok (.iconst 1, 1) := by decide +kernel
theorem dX12_likelyPart_70 : decode cX12_likelyPart 70 = .ok (.if_icmp .ne 14, 3) := by decide +kernel
theorem dX12_likelyPart_73 : decode cX12_likelyPart 73 = .ok (.aload_n 0, 1) := by decide +kernel
theorem dX12_likelyPart_74 : decode cX12_likelyPart 74 = .ok (.getfield 22, 3) := by decide +kernel
theorem dX12_likelyPart_77 : decode cX12_likelyPart 77 = .ok (.iload 10, 2) := by decide +kernel
theorem dX12_likelyPart_79 : decode cX12_likelyPart 79 = .ok (.iaload, 1) := by decide +kernel
theorem dX12_likelyPart_80 : decode cX12_likelyPart 80 = .ok (.i2l, 1) := by decide +kernel
theorem dX12_likelyPart_81 : decode cX12_likelyPart 81 = .ok (.goto 14, 3) := by decide +kernel
theorem dX12_likelyPart_84 : decode cX12_likelyPart 84 = .ok (.bipush 10, 2) := by decide +kernel
theorem dX12_likelyPart_86 : decode cX12_likelyPart 86 = .ok (.aload_n 0, 1) := by decide +kernel
theorem dX12_likelyPart_87 : decode cX12_likelyPart 87 = .ok (.getfield 22, 3) := by decide +kernel
theorem dX12_likelyPart_90 : decode cX12_likelyPart 90 = .ok (.iload 10, 2) := by decide +kernel
theorem dX12_likelyPart_92 : decode cX12_likelyPart 92 = .ok (.iaload, 1) := by decide +kernel
theorem dX12_likelyPart_93 : decode cX12_likelyPart 93 = .ok (.isub, 1) := by decide +kernel
theorem dX12_likelyPart_94 : decode cX12_likelyPart 94 = .ok (.i2l, 1) := by decide +kernel
theorem dX12_likelyPart_95 : decode cX12_likelyPart 95 = .ok (.lmul, 1) := by decide +kernel
theorem dX12_likelyPart_96 : decode cX12_likelyPart 96 = .ok (.lstore 8, 2) := by decide +kernel
theorem dX12_likelyPart_98 : decode cX12_likelyPart 98 = .ok (.iinc 10 1, 3) := by decide +kernel
theorem dX12_likelyPart_101 : decode cX12_likelyPart 101 = .ok (.goto (-50), 3) := by decide +kernel
theorem dX12_likelyPart_104 : decode cX12_likelyPart 104 = .ok (.lload 8, 2) := by decide +kernel
theorem dX12_likelyPart_106 : decode cX12_likelyPart 106 = .ok (.lconst 0, 1) := by decide +kernel
theorem dX12_likelyPart_107 : decode cX12_likelyPart 107 = .ok (.lcmp, 1) := by decide +kernel
theorem dX12_likelyPart_108 : decode cX12_likelyPart 108 = .ok (.ifCond .le 47, 3) := by decide +kernel
theorem dX12_likelyPart_111 : decode cX12_likelyPart 111 = .ok (.aload_n 0, 1) := by decide +kernel
theorem dX12_likelyPart_112 : decode cX12_likelyPart 112 = .ok (.iload 7, 2) := by decide +kernel
theorem dX12_likelyPart_114 : decode cX12_likelyPart 114 = .ok (.putfield 87, 3) := by decide +kernel
theorem dX12_likelyPart_117 : decode cX12_likelyPart 117 = .ok (.aload_n 0, 1) := by decide +kernel
theorem dX12_likelyPart_118 : decode cX12_likelyPart 118 = .ok (.invokevirtual 362, 3) := by decide +kernel
theorem dX12_likelyPart_121 : decode cX12_likelyPart 121 = .ok (.lload_n 3, 1) := by decide +kernel
theorem dX12_likelyPart_122 : decode cX12_likelyPart 122 = .ok (.lload 8, 2) := by decide +kernel
theorem dX12_likelyPart_124 : decode cX12_likelyPart 124 = .ok (.iload_n 1, 1) := by decide +kernel
theorem dX12_likelyPart_125 : decode cX12_likelyPart 125 = .ok (.ifCond .ge 11, 3) := by decide +kernel
theorem dX12_likelyPart_128 : decode cX12_likelyPart 128 = .ok (.aload_n 0, 1) := by decide +kernel
theorem dX12_likelyPart_129 : decode cX12_likelyPart 129 = .ok (.iconst 1, 1) := by decide +kernel
theorem dX12_likelyPart_130 : decode cX12_likelyPart 130 = .ok (.invokevirtual 368, 3) := by decide +kernel
theorem dX12_likelyPart_133 : decode cX12_likelyPart 133 = .ok (.goto 18, 3) := by decide +kernel
theorem dX12_likelyPart_136 : decode cX12_likelyPart 136 = .ok (.aload_n 0, 1) := by decide +kernel
theorem dX12_likelyPart_137 : decode cX12_likelyPart 137 = .ok (.getfield 94, 3) := by decide +kernel
theorem dX12_likelyPart_140 : decode cX12_likelyPart 140 = .ok (.iload_n 1, 1) := by decide +kernel
theorem dX12_likelyPart_141 : decode cX12_likelyPart 141 = .ok (.iaload, 1) := by decide +kernel
theorem dX12_likelyPart_142 : decode cX12_likelyPart 142 = .ok (.iconst 1, 1) := by decide +kernel
theorem dX12_likelyPart_143 : decode cX12_likelyPart 143 = .ok (.if_icmp .ne 7, 3) := by decide +kernel
theorem dX12_likelyPart_146 : decode cX12_likelyPart 146 = .ok (.iconst 1, 1) := by decide +kernel
theorem dX12_likelyPart_147 : decode cX12_likelyPart 147 = .ok (.goto 4, 3) := by decide +kernel
theorem dX12_likelyPart_150 : decode cX12_likelyPart 150 = .ok (.iconst 0, 1) := by decide +kernel
theorem dX12_likelyPart_151 : decode cX12_likelyPart 151 = .ok (.i2l, 1) := by decide +kernel
theorem dX12_likelyPart_152 : decode cX12_likelyPart 152 = .ok (.lmul, 1) := by decide +kernel
theorem dX12_likelyPart_153 : decode cX12_likelyPart 153 = .ok (.ladd, 1) := by decide +kernel
theorem dX12_likelyPart_154 : decode cX12_likelyPart 154 = .ok (.lstore_n 3, 1) := by decide +kernel
theorem dX12_likelyPart_155 : decode cX12_likelyPart 155 = .ok (.iinc 7 1, 3) := by decide +kernel
theorem dX12_likelyPart_158 : decode cX12_likelyPart 158 = .ok (.goto (-124), 3) := by decide +kernel
theorem dX12_likelyPart_161 : decode cX12_likelyPart 161 = .ok (.aload_n 0, 1) := by decide +kernel
theorem dX12_likelyPart_162 : decode cX12_likelyPart 162 = .ok (.bipush 63, 2) := by decide +kernel
theorem dX12_likelyPart_164 : decode cX12_likelyPart 164 = .ok (.putfield 87, 3) := by decide +kernel
theorem dX12_likelyPart_167 : decode cX12_likelyPart 167 = .ok (.lload_n 3, 1) := by decide +kernel
theorem dX12_likelyPart_168 : decode cX12_likelyPart 168 = .ok (.lload 5, 2) := by decide +kernel
theorem dX12_likelyPart_170 : decode cX12_likelyPart 170 = .ok (.iload_n 2, 1) := by decide +kernel
theorem dX12_likelyPart_171 : decode cX12_likelyPart 171 = .ok (.invokestatic 390, 3) := by decide +kernel
theorem dX12_likelyPart_174 : decode cX12_likelyPart 174 = .ok (.lreturn, 1) := by decide +kernel
theorem dX12_likely_0 : decode cX12_likely 0 = .ok (.aload_n 0, 1) := by decide +kernel
theorem dX12_likely_1 : decode cX12_likely 1 = .ok (.iconst 0, 1) := by decide +kernel
theorem dX12_likely_2 : decode cX12_likely 2 = .ok (.putfield 160, 3) := by decide +kernel
theorem dX12_likely_5 : decode cX12_likely 5 = .ok (.aload_n 0, 1) := by decide +kernel
theorem dX12_likely_6 : decode cX12_likely 6 = .ok (.iload_n 1, 1) := by decide +kernel
theorem dX12_likely_7 : decode cX12_likely 7 = .ok (.invokevirtual 337, 3) := by decide +kernel
theorem dX12_likely_10 : decode cX12_likely 10 = .ok (.ifCond .eq 22, 3) := by decide +kernel
theorem dX12_likely_13 : decode cX12_likely 13 = .ok (.iload_n 2, 1) := by decide +kernel
theorem dX12_likely_14 : decode cX12_likely 14 = .ok (.i2l, 1) := by decide +kernel
theorem dX12_likely_15 : decode cX12_likely 15 = .ok (.lconst 0, 1) := by decide +kernel
theorem dX12_likely_16 : decode cX12_likely 16 = .ok (.lconst 1, 1) := by decide +kernel
theorem dX12_likely_17 : decode cX12_likely 17 = .ok (.invokestatic 165, 3) := by decide +kernel
theorem dX12_likely_20 : decode cX12_likely 20 = .ok (.ifCond .eq 12, 3) := by decide +kernel
theorem dX12_likely_23 : decode cX12_likely 23 = .ok (.aload_n 0, 1) := by decide +kernel
theorem dX12_likely_24 : decode cX12_likely 24 = .ok (.iload_n 1, 1) := by decide +kernel
theorem dX12_likely_25 : decode cX12_likely 25 = .ok (.iload_n 2, 1) := by decide +kernel
theorem dX12_likely_26 : decode cX12_likely 26 = .ok (.invokevirtual 394, 3) := by decide +kernel
theorem dX12_likely_29 : decode cX12_likely 29 = .ok (.goto 6, 3) := by decide +kernel
theorem dX12_likely_32 : decode cX12_likely 32 = .ok (.ldc2_w 398, 3) := by decide +kernel
theorem dX12_likely_35 : decode cX12_likely 35 = .ok (.lreturn, 1) := by decide +kernel
theorem dX12_mean_0 : decode cX12_mean 0 = .ok (.aload_n 0, 1) := by decide +kernel
theorem dX12_mean_1 : decode cX12_mean 1 = .ok (.iconst 0, 1) := by decide +kernel
theorem dX12_mean_2 : decode cX12_mean 2 = .ok (.putfield 160, 3) := by decide +kernel
theorem dX12_mean_5 : decode cX12_mean 5 = .ok (.iload_n 1, 1) := by decide +kernel
theorem dX12_mean_6 : decode cX12_mean 6 = .ok (.i2l, 1) := by decide +kernel
theorem dX12_mean_7 : decode cX12_mean 7 = .ok (.lconst 0, 1) := by decide +kernel
theorem dX12_mean_8 : decode cX12_mean 8 = .ok (.lconst 1, 1) := by decide +kernel
theorem dX12_mean_9 : decode cX12_mean 9 = .ok (.invokestatic 165, 3) := by decide +kernel
theorem dX12_mean_12 : decode cX12_mean 12 = .ok (.ifCond .eq 12, 3) := by decide +kernel
theorem dX12_mean_15 : decode cX12_mean 15 = .ok (.aload_n 0, 1) := by decide +kernel
theorem dX12_mean_16 : decode cX12_mean 16 = .ok (.iconst (-1), 1) := by decide +kernel
theorem dX12_mean_17 : decode cX12_mean 17 = .ok (.iload_n 1, 1) := by decide +kernel
theorem dX12_mean_18 : decode cX12_mean 18 = .ok (.invokevirtual 394, 3) := by decide +kernel
theorem dX12_mean_21 : decode cX12_mean 21 = .ok (.goto 6, 3) := by decide +kernel
theorem dX12_mean_24 : decode cX12_mean 24 = .ok (.ldc2_w 398, 3) := by decide +kernel
theorem dX12_mean_27 : decode cX12_mean 27 = .ok (.lreturn, 1) := by decide +kernel
theorem dX12_allYes_0 : decode cX12_allYes 0 = .ok (.aload_n 0, 1) := by decide +kernel
theorem dX12_allYes_1 : decode cX12_allYes 1 = .ok (.invokevirtual 362, 3) := by decide +kernel
theorem dX12_allYes_4 : decode cX12_allYes 4 = .ok (.iconst 1, 1) := by decide +kernel
theorem dX12_allYes_5 : decode cX12_allYes 5 = .ok (.istore_n 2, 1) := by decide +kernel
theorem dX12_allYes_6 : decode cX12_allYes 6 = .ok (.iconst 0, 1) := by decide +kernel
theorem dX12_allYes_7 : decode cX12_allYes 7 = .ok (.istore_n 3, 1) := by decide +kernel
theorem dX12_allYes_8 : decode cX12_allYes 8 = .ok (.iload_n 3, 1) := by decide +kernel
theorem dX12_allYes_9 : decode cX12_allYes 9 = .ok (.aload_n 0, 1) := by decide +kernel
theorem dX12_allYes_10 : decode cX12_allYes 10 = .ok (.getfield 171, 3) := by decide +kernel
theorem dX12_allYes_13 : decode cX12_allYes 13 = .ok (.if_icmp .ge 37, 3) := by decide +kernel
theorem dX12_allYes_16 : decode cX12_allYes 16 = .ok (.iload_n 2, 1) := by decide +kernel
theorem dX12_allYes_17 : decode cX12_allYes 17 = .ok (.ifCond .eq 25, 3) := by decide +kernel
theorem dX12_allYes_20 : decode cX12_allYes 20 = .ok (.iload_n 1, 1) := by decide +kernel
theorem dX12_allYes_21 : decode cX12_allYes 21 = .ok (.iload_n 3, 1) := by decide +kernel
theorem dX12_allYes_22 : decode cX12_allYes 22 = .ok (.ishr, 1) := by decide +kernel
theorem dX12_allYes_23 : decode cX12_allYes 23 = .ok (.iconst 1, 1) := by decide +kernel
theorem dX12_allYes_24 : decode cX12_allYes 24 = .ok (.iand, 1) := by decide +kernel
theorem dX12_allYes_25 : decode cX12_allYes 25 = .ok (.ifCond .eq 13, 3) := by decide +kernel
theorem dX12_allYes_28 : decode cX12_allYes 28 = .ok (.aload_n 0, 1) := by decide +kernel
theorem dX12_allYes_29 : decode cX12_allYes 29 = .ok (.getfield 94, 3) := by decide +kernel
theorem dX12_allYes_32 : decode cX12_allYes 32 = .ok (.iload_n 3, 1) := by decide +kernel
theorem dX12_allYes_33 : decode cX12_allYes 33 = .ok (.iaload, 1) := by decide +kernel
theorem dX12_allYes_34 : decode cX12_allYes 34 = .ok (.iconst 1, 1) := by decide +kernel
theorem dX12_allYes_35 : decode cX12_allYes 35 = .ok (.if_icmp .ne 7, 3) := by decide +kernel
theorem dX12_allYes_38 : decode cX12_allYes 38 = .ok (.iconst 1, 1) := by decide +kernel
theorem dX12_allYes_39 : decode cX12_allYes 39 = .ok (.goto 4, 3) := by decide +kernel
theorem dX12_allYes_42 : decode cX12_allYes 42 = .ok (.iconst 0, 1) := by decide +kernel
theorem dX12_allYes_43 : decode cX12_allYes 43 = .ok (.istore_n 2, 1) := by decide +kernel
theorem dX12_allYes_44 : decode cX12_allYes 44 = .ok (.iinc 3 1, 3) := by decide +kernel
theorem dX12_allYes_47 : decode cX12_allYes 47 = .ok (.goto (-39), 3) := by decide +kernel
theorem dX12_allYes_50 : decode cX12_allYes 50 = .ok (.iload_n 2, 1) := by decide +kernel
theorem dX12_allYes_51 : decode cX12_allYes 51 = .ok (.ireturn, 1) := by decide +kernel
def b_X12_turners_66 (v1 : Int32) (v2 : Int32) (v4 : Int32) (s0 : Int32) (s1 : Int32) (S : St) : Option ((Int32 × Int32 × Int32 × Int32 × St) ⊕ (Int32 × St)) := some (.inl (v1, v2, (s1 ||| s0), (v4 + 1), S))
def b_X12_turners_26 (v1 : Int32) (v2 : Int32) (v3 : Int32) (v4 : Int32) (S : St) : Option ((Int32 × Int32 × Int32 × Int32 × St) ⊕ (Int32 × St)) := (if (gi S 136 1 : Int32) ≤ v4 then nm (si S 136 29 63) fun S2 => some (.inr (v3, S2)) else nm (si S 136 29 (63 &&& (((1 : Int32) <<< (v4 &&& 31)) ^^^ ((-1))))) fun S3 => (L_X12_choiceOf v1 S3).bind fun r4 => (if (r4.1 : Int32) = v2 then (b_X12_turners_66 v1 v2 v4 0 v3 r4.2) else (b_X12_turners_66 v1 v2 v4 ((1 : Int32) <<< (v4 &&& 31)) v3 r4.2)))
def l_X12_turners_26 (x : (Int32 × Int32 × Int32 × Int32 × St)) : Option ((Int32 × Int32 × Int32 × Int32 × St) ⊕ (Int32 × St)) := b_X12_turners_26 x.1 x.2.1 x.2.2.1 x.2.2.2.1 x.2.2.2.2
def b_X12_turners_0 (v1 : Int32) (S : St) : Option (Int32 × St) := nm (si S 136 28 0) fun S1 => (L_X12_isOne v1 S1).bind fun r2 => (if (r2 : Int32) = 0 then some ((-1), S1) else (L_X12_choiceOf v1 S1).bind fun r4 => (lp 1000 (l_X12_turners_26) (v1, r4.1, 0, 0, r4.2)))
def L_X12_turners (a1 : Int32) (S : St) : Option (Int32 × St) := b_X12_turners_0 a1 S
def b_X12_yes_60 (v1 : Int32) (v2 : Int32) (v4 : Int32) (s0 : Int32) (s1 : Int32) (S : St) : Option ((Int32 × Int32 × Int32 × Int32 × St) ⊕ (Int32 × St)) := some (.inl (v1, v2, (s1 ||| s0), (v4 + 1), S))
def b_X12_yes_27 (v1 : Int32) (v2 : Int32) (v3 : Int32) (v4 : Int32) (S : St) : Option ((Int32 × Int32 × Int32 × Int32 × St) ⊕ (Int32 × St)) := (if (24 : Int32) ≤ v4 then gd (inb v1 8) (nm (si S 150 v1.toNatClampNeg v2) fun S3 => some (.inr (v3, S3))) else gd (inb v1 8) (nm (si S 150 v1.toNatClampNeg v4) fun S5 => (L_X12_choiceOf v1 S5).bind fun r6 => (if (r6.1 : Int32) = 1 then (b_X12_yes_60 v1 v2 v4 ((1 : Int32) <<< (v4 &&& 31)) v3 r6.2) else (b_X12_yes_60 v1 v2 v4 0 v3 r6.2))))
def l_X12_yes_27 (x : (Int32 × Int32 × Int32 × Int32 × St)) : Option ((Int32 × Int32 × Int32 × Int32 × St) ⊕ (Int32 × St)) := b_X12_yes_27 x.1 x.2.1 x.2.2.1 x.2.2.2.1 x.2.2.2.2
def b_X12_yes_0 (v1 : Int32) (S : St) : Option (Int32 × St) := nm (si S 136 28 0) fun S1 => (L_X12_isOne v1 S1).bind fun r2 => (if (r2 : Int32) = 0 then some ((-1), S1) else gd (inb v1 8) ((lp 1000 (l_X12_yes_27) (v1, (gi S1 150 v1.toNatClampNeg), 0, 0, S1))))
def L_X12_yes (a1 : Int32) (S : St) : Option (Int32 × St) := b_X12_yes_0 a1 S
def b_X12_moods_117 (v1 : Int32) (v2 : Int32) (v3 : Int32) (v4 : Int32) (v5 : Int32) (S : St) : Option (Int32 × St) := gd (inb v1 8) (nm (si S 151 v1.toNatClampNeg v3) fun S2 => (if (v2 : Int32) = 0 then some (v4, S2) else some (v5, S2)))
def b_X12_moods_109 (v1 : Int32) (v2 : Int32) (v3 : Int32) (v4 : Int32) (v6 : Int32) (s0 : Int32) (S : St) : Option ((Int32 × Int32 × Int32 × Int32 × Int32 × Int32 × St) ⊕ (Int32 × St)) := some (.inl (v1, v2, v3, v4, s0, (v6 + 1), S))
def b_X12_moods_107 (v1 : Int32) (v2 : Int32) (v3 : Int32) (v4 : Int32) (v5 : Int32) (v6 : Int32) (S : St) : Option ((Int32 × Int32 × Int32 × Int32 × Int32 × Int32 × St) ⊕ (Int32 × St)) := (b_X12_moods_109 v1 v2 v3 v4 v6 v5 S)
def b_X12_moods_86 (v1 : Int32) (v2 : Int32) (v3 : Int32) (v5 : Int32) (v6 : Int32) (v7 : Int32) (s0 : Int32) (s1 : Int32) (S : St) : Option ((Int32 × Int32 × Int32 × Int32 × Int32 × Int32 × St) ⊕ (Int32 × St)) := (if (v7 : Int32) = 0 then (b_X12_moods_107 v1 v2 v3 (s1 + s0) v5 v6 S) else (if (0 : Int32) ≤ v5 then (b_X12_moods_107 v1 v2 v3 (s1 + s0) v5 v6 S) else (b_X12_moods_109 v1 v2 v3 (s1 + s0) v6 (v6 + 9) S)))
def b_X12_moods_72 (v1 : Int32) (v2 : Int32) (v3 : Int32) (v4 : Int32) (v5 : Int32) (v6 : Int32) (s0 : Int32) (S : St) : Option ((Int32 × Int32 × Int32 × Int32 × Int32 × Int32 × St) ⊕ (Int32 × St)) := (if (s0 : Int32) = 0 then (b_X12_moods_86 v1 v2 v3 v5 v6 s0 0 v4 S) else (b_X12_moods_86 v1 v2 v3 v5 v6 s0 1 v4 S))
def b_X12_moods_43 (v1 : Int32) (v2 : Int32) (v3 : Int32) (v4 : Int32) (v5 : Int32) (v6 : Int32) (S : St) : Option ((Int32 × Int32 × Int32 × Int32 × Int32 × Int32 × St) ⊕ (Int32 × St)) := (if (9 : Int32) < v6 then ((b_X12_moods_117 v1 v2 v3 v4 v5 S).map Sum.inr) else gd (inb v1 8) (nm (si S 151 v1.toNatClampNeg v6) fun S3 => (L_X12_choiceOf v1 S3).bind fun r4 => (if (r4.1 : Int32) = 1 then (b_X12_moods_72 v1 v2 v3 v4 v5 v6 1 r4.2) else (b_X12_moods_72 v1 v2 v3 v4 v5 v6 0 r4.2))))
def l_X12_moods_43 (x : (Int32 × Int32 × Int32 × Int32 × Int32 × Int32 × St)) : Option ((Int32 × Int32 × Int32 × Int32 × Int32 × Int32 × St) ⊕ (Int32 × St)) := b_X12_moods_43 x.1 x.2.1 x.2.2.1 x.2.2.2.1 x.2.2.2.2.1 x.2.2.2.2.2.1 x.2.2.2.2.2.2
def b_X12_moods_0 (v1 : Int32) (v2 : Int32) (S : St) : Option (Int32 × St) := nm (si S 136 28 0) fun S1 => (L_X12_isOne v1 S1).bind fun r2 => (if (r2 : Int32) = 0 then some ((-1), S1) else (L_X12_in v2.toInt64 0 1 S1).bind fun r4 => (if (r4 : Int32) = 0 then some ((-1), S1) else gd (inb v1 8) ((lp 1000 (l_X12_moods_43) (v1, v2, (gi S1 151 v1.toNatClampNeg), 0, ((-4)), ((-9)), S1)))))
def L_X12_moods (a1 : Int32) (a2 : Int32) (S : St) : Option (Int32 × St) := b_X12_moods_0 a1 a2 S
def b_X12_divisor_6 (v4 : Int64) (v6 : Int64) (S : St) : Option ((Int64 × Int64) ⊕ Int64) := (if (lg_cmp v6 0 : Int32) = 0 then some (.inr v4) else gd (!((v6 : Int64) == 0)) (some (.inl (v6, (v4 - v4 / v6 * v6)))))
def l_X12_divisor_6 (S : St) (x : (Int64 × Int64)) : Option ((Int64 × Int64) ⊕ Int64) := b_X12_divisor_6 x.1 x.2 S
def b_X12_divisor_0 (v0 : Int64) (v2 : Int64) (S : St) : Option Int64 := (lp 1000 (l_X12_divisor_6 S) (v0, v2))
def L_X12_divisor (a0 : Int64) (a2 : Int64) (S : St) : Option Int64 := b_X12_divisor_0 a0 a2 S
def b_X12_partOf_0 (v0 : Int64) (v2 : Int64) (v4 : Int32) (S : St) : Option Int64 := (if (lg_cmp v0 0 : Int32) = 0 then some v4.toInt64 else (L_X12_divisor v0 v2 S).bind fun r2 => (if (v4 : Int32) = 0 then gd (!((r2 : Int64) == 0)) (some (v0 / r2)) else gd (!((r2 : Int64) == 0)) (some (v2 / r2))))
def L_X12_partOf (a0 : Int64) (a2 : Int64) (a4 : Int32) (S : St) : Option Int64 := b_X12_partOf_0 a0 a2 a4 S
def b_X12_likelyPart_155 (v1 : Int32) (v2 : Int32) (v3 : Int64) (v5 : Int64) (v7 : Int32) (S : St) : Option ((Int32 × Int32 × Int64 × Int64 × Int32 × St) ⊕ (Int64 × St)) := some (.inl (v1, v2, v3, v5, (v7 + 1), S))
def b_X12_likelyPart_151 (v1 : Int32) (v2 : Int32) (v5 : Int64) (v7 : Int32) (s0 : Int32) (s1 : Int64) (s2 : Int64) (S : St) : Option ((Int32 × Int32 × Int64 × Int64 × Int32 × St) ⊕ (Int64 × St)) := (b_X12_likelyPart_155 v1 v2 (s2 + (s1 * s0.toInt64)) v5 v7 S)
def b_X12_likelyPart_104 (v1 : Int32) (v2 : Int32) (v3 : Int64) (v5 : Int64) (v7 : Int32) (v8 : Int64) (S : St) : Option ((Int32 × Int32 × Int64 × Int64 × Int32 × St) ⊕ (Int64 × St)) := (if (lg_cmp v8 0 : Int32) ≤ 0 then (b_X12_likelyPart_155 v1 v2 v3 v5 v7 S) else nm (si S 136 29 v7) fun S2 => (L_X12_day S2).bind fun r3 => (if (0 : Int32) ≤ v1 then gd (inb v1 8) ((if (gi r3 160 v1.toNatClampNeg : Int32) = 1 then (b_X12_likelyPart_151 v1 v2 v5 v7 1 v8 v3 r3) else (b_X12_likelyPart_151 v1 v2 v5 v7 0 v8 v3 r3))) else (L_X12_chose 1 r3).bind fun r7 => (b_X12_likelyPart_151 v1 v2 v5 v7 r7 v8 v3 r3)))
def b_X12_likelyPart_95 (v1 : Int32) (v2 : Int32) (v3 : Int64) (v5 : Int64) (v7 : Int32) (v10 : Int32) (s0 : Int64) (s1 : Int64) (S : St) : Option ((Int32 × Int32 × Int64 × Int64 × Int32 × Int64 × Int32 × St) ⊕ ((Int32 × Int32 × Int64 × Int64 × Int32 × St) ⊕ (Int64 × St))) := some (.inl (v1, v2, v3, v5, v7, (s1 * s0), (v10 + 1), S))
def b_X12_likelyPart_51 (v1 : Int32) (v2 : Int32) (v3 : Int64) (v5 : Int64) (v7 : Int32) (v8 : Int64) (v10 : Int32) (S : St) : Option ((Int32 × Int32 × Int64 × Int64 × Int32 × Int64 × Int32 × St) ⊕ ((Int32 × Int32 × Int64 × Int64 × Int32 × St) ⊕ (Int64 × St))) := (if (gi S 136 1 : Int32) ≤ v10 then ((b_X12_likelyPart_104 v1 v2 v3 v5 v7 v8 S).map Sum.inr) else (if ((v7 >>> (v10 &&& 31)) &&& 1 : Int32) = 1 then gd (inb v10 6) ((b_X12_likelyPart_95 v1 v2 v3 v5 v7 v10 ((gi S 141 v10.toNatClampNeg).toInt64) v8 S)) else gd (inb v10 6) ((b_X12_likelyPart_95 v1 v2 v3 v5 v7 v10 ((10 - (gi S 141 v10.toNatClampNeg)).toInt64) v8 S))))
def l_X12_likelyPart_51 (x : (Int32 × Int32 × Int64 × Int64 × Int32 × Int64 × Int32 × St)) : Option ((Int32 × Int32 × Int64 × Int64 × Int32 × Int64 × Int32 × St) ⊕ ((Int32 × Int32 × Int64 × Int64 × Int32 × St) ⊕ (Int64 × St))) := b_X12_likelyPart_51 x.1 x.2.1 x.2.2.1 x.2.2.2.1 x.2.2.2.2.1 x.2.2.2.2.2.1 x.2.2.2.2.2.2.1 x.2.2.2.2.2.2.2
def b_X12_likelyPart_34 (v1 : Int32) (v2 : Int32) (v3 : Int64) (v5 : Int64) (v7 : Int32) (S : St) : Option ((Int32 × Int32 × Int64 × Int64 × Int32 × St) ⊕ (Int64 × St)) := (if ((1 : Int32) <<< ((gi S 136 1) &&& 31) : Int32) ≤ v7 then nm (si S 136 29 63) fun S2 => (L_X12_partOf v3 v5 v2 S2).bind fun r3 => some (.inr (r3, S2)) else (lp 1000 (l_X12_likelyPart_51) (v1, v2, v3, v5, v7, 1, 0, S)))
def l_X12_likelyPart_34 (x : (Int32 × Int32 × Int64 × Int64 × Int32 × St)) : Option ((Int32 × Int32 × Int64 × Int64 × Int32 × St) ⊕ (Int64 × St)) := b_X12_likelyPart_34 x.1 x.2.1 x.2.2.1 x.2.2.2.1 x.2.2.2.2.1 x.2.2.2.2.2
def b_X12_likelyPart_31 (v1 : Int32) (v2 : Int32) (v3 : Int64) (v5 : Int64) (S : St) : Option (Int64 × St) := (lp 1000 (l_X12_likelyPart_34) (v1, v2, v3, v5, 0, S))
def b_X12_likelyPart_8 (v1 : Int32) (v2 : Int32) (v3 : Int64) (v5 : Int64) (v7 : Int32) (S : St) : Option ((Int32 × Int32 × Int64 × Int64 × Int32 × St) ⊕ (Int64 × St)) := (if (gi S 136 1 : Int32) ≤ v7 then ((b_X12_likelyPart_31 v1 v2 v3 v5 S).map Sum.inr) else some (.inl (v1, v2, v3, (v5 * 10), (v7 + 1), S)))
def l_X12_likelyPart_8 (x : (Int32 × Int32 × Int64 × Int64 × Int32 × St)) : Option ((Int32 × Int32 × Int64 × Int64 × Int32 × St) ⊕ (Int64 × St)) := b_X12_likelyPart_8 x.1 x.2.1 x.2.2.1 x.2.2.2.1 x.2.2.2.2.1 x.2.2.2.2.2
def b_X12_likelyPart_0 (v1 : Int32) (v2 : Int32) (S : St) : Option (Int64 × St) := (lp 1000 (l_X12_likelyPart_8) (v1, v2, 0, 1, 0, S))
def L_X12_likelyPart (a1 : Int32) (a2 : Int32) (S : St) : Option (Int64 × St) := b_X12_likelyPart_0 a1 a2 S
def b_X12_likely_32 (S : St) : Option (Int64 × St) := some ((-1000000001), S)
def b_X12_likely_0 (v1 : Int32) (v2 : Int32) (S : St) : Option (Int64 × St) := nm (si S 136 28 0) fun S1 => (L_X12_isOne v1 S1).bind fun r2 => (if (r2 : Int32) = 0 then (b_X12_likely_32 S1) else (L_X12_in v2.toInt64 0 1 S1).bind fun r4 => (if (r4 : Int32) = 0 then (b_X12_likely_32 S1) else (L_X12_likelyPart v1 v2 S1).bind fun r6 => some (r6.1, r6.2)))
def L_X12_likely (a1 : Int32) (a2 : Int32) (S : St) : Option (Int64 × St) := b_X12_likely_0 a1 a2 S
def b_X12_mean_0 (v1 : Int32) (S : St) : Option (Int64 × St) := nm (si S 136 28 0) fun S1 => (L_X12_in v1.toInt64 0 1 S1).bind fun r2 => (if (r2 : Int32) = 0 then some ((-1000000001), S1) else (L_X12_likelyPart ((-1)) v1 S1).bind fun r4 => some (r4.1, r4.2))
def L_X12_mean (a1 : Int32) (S : St) : Option (Int64 × St) := b_X12_mean_0 a1 S
def b_X12_allYes_43 (v1 : Int32) (v3 : Int32) (s0 : Int32) (S : St) : Option ((Int32 × Int32 × Int32 × St) ⊕ (Int32 × St)) := some (.inl (v1, s0, (v3 + 1), S))
def b_X12_allYes_42 (v1 : Int32) (v3 : Int32) (S : St) : Option ((Int32 × Int32 × Int32 × St) ⊕ (Int32 × St)) := (b_X12_allYes_43 v1 v3 0 S)
def b_X12_allYes_38 (v1 : Int32) (v3 : Int32) (S : St) : Option ((Int32 × Int32 × Int32 × St) ⊕ (Int32 × St)) := (b_X12_allYes_43 v1 v3 1 S)
def b_X12_allYes_8 (v1 : Int32) (v2 : Int32) (v3 : Int32) (S : St) : Option ((Int32 × Int32 × Int32 × St) ⊕ (Int32 × St)) := (if (gi S 136 15 : Int32) ≤ v3 then gd ((v2 : Int32) == 0 || (v2 : Int32) == 1) (some (.inr (v2, S))) else (if (v2 : Int32) = 0 then (b_X12_allYes_42 v1 v3 S) else (if ((v1 >>> (v3 &&& 31)) &&& 1 : Int32) = 0 then (b_X12_allYes_38 v1 v3 S) else gd (inb v3 8) ((if (gi S 160 v3.toNatClampNeg : Int32) = 1 then (b_X12_allYes_38 v1 v3 S) else (b_X12_allYes_42 v1 v3 S))))))
def l_X12_allYes_8 (x : (Int32 × Int32 × Int32 × St)) : Option ((Int32 × Int32 × Int32 × St) ⊕ (Int32 × St)) := b_X12_allYes_8 x.1 x.2.1 x.2.2.1 x.2.2.2
def b_X12_allYes_0 (v1 : Int32) (S : St) : Option (Int32 × St) := (L_X12_day S).bind fun r1 => (lp 1000 (l_X12_allYes_8) (v1, 1, 0, r1))
def L_X12_allYes (a1 : Int32) (S : St) : Option (Int32 × St) := b_X12_allYes_0 a1 S
section WALKS
variable {p : Program} {e : Env} {s : State} {m : MethodId} {args : Array Value} {below : List Frame} {meth : Method} {c : Code} {D : va_G} {ct : Nat → ClassId} {B : Nat} {Hb : Heap}
set_option maxRecDepth 100000 in
set_option maxHeartbeats 4000000 in
theorem w_X12_turners_66 (l : Launch) {V : Int32 × St} (C0 : XC D ct p s m args meth c cX12_turners 5 (some .int) RX12) (n0 : Nat) (ih0 : ∀ (v1 : Int32) (v2 : Int32) (v3 : Int32) (v4 : Int32) (S : St) (H : Heap) (locs : List Loc) (ls : Array Slot), (lp n0 (l_X12_turners_26) (v1, v2, v3, v4, S)).bind some = some V → MP D ct B Hb S H → va_S (AB B) s.heap H locs → lv_has ls 5 [(0, .ref (B + 136)), (1, .int v1), (2, .int v2), (3, .int v3), (4, .int v4)] → W p l e { frames := 8, cells := 0, slots := 0, locals := 181 } s m args below meth c H locs 0 0 (MQ below (qIw D ct B Hb V) args s 0 0 (AB B)) (F0 m 26 ls [])) (v1 : Int32) (v2 : Int32) (v4 : Int32) (s0 : Int32) (s1 : Int32) (S : St) {H : Heap} {locs : List Loc} {ls : Array Slot} (h : (b_X12_turners_66 v1 v2 v4 s0 s1 S).bind (lpF n0 (l_X12_turners_26) some) = some V) (hP : MP D ct B Hb S H) (hS : va_S (AB B) s.heap H locs) (hl : lv_has ls 5 [(0, .ref (B + 136)), (1, .int v1), (2, .int v2), (4, .int v4)]) : W p l e { frames := 8, cells := 0, slots := 0, locals := 181 } s m args below meth c H locs 0 0 (MQ below (qIw D ct B Hb V) args s 0 0 (AB B)) (F0 m 66 ls [.int s0, .int s1]) := by
  obtain ⟨hx, hb, hr, hml, hown, hts, hK, hlocks, hN⟩ := id C0
  unfold b_X12_turners_66 at h
  refine lv_ior hx hb dX12_turners_66 ?_
  refine lv_istore_n (lv' := [(3, .int (s1 ||| s0)), (0, .ref (B + 136)), (1, .int v1), (2, .int v2), (4, .int v4)]) hx hb dX12_turners_67 rfl hl (by decide) rfl (fun ls hl => ?_)
  refine lv_iinc (v := v4 + 1) (lv' := [(4, .int (v4 + 1)), (3, .int (s1 ||| s0)), (0, .ref (B + 136)), (1, .int v1), (2, .int v2)]) hx hb dX12_turners_68 hl (k := 4) rfl rfl (by decide) rfl (fun ls hl => ?_)
  refine lv_goto (tgt := 26) hx hb dX12_turners_71 (by decide) ?_
  exact ih0 v1 v2 (s1 ||| s0) (v4 + 1) S _ _ _ h hP hS (lv_sub hl [2, 3, 4, 1, 0] rfl)
set_option maxRecDepth 100000 in
set_option maxHeartbeats 4000000 in
theorem w_X12_turners_26 (l : Launch) {V : Int32 × St} (C0 : XC D ct p s m args meth c cX12_turners 5 (some .int) RX12) (n0 : Nat) (ih0 : ∀ (v1 : Int32) (v2 : Int32) (v3 : Int32) (v4 : Int32) (S : St) (H : Heap) (locs : List Loc) (ls : Array Slot), (lp n0 (l_X12_turners_26) (v1, v2, v3, v4, S)).bind some = some V → MP D ct B Hb S H → va_S (AB B) s.heap H locs → lv_has ls 5 [(0, .ref (B + 136)), (1, .int v1), (2, .int v2), (3, .int v3), (4, .int v4)] → W p l e { frames := 8, cells := 0, slots := 0, locals := 181 } s m args below meth c H locs 0 0 (MQ below (qIw D ct B Hb V) args s 0 0 (AB B)) (F0 m 26 ls [])) (v1 : Int32) (v2 : Int32) (v3 : Int32) (v4 : Int32) (S : St) {H : Heap} {locs : List Loc} {ls : Array Slot} (h : (b_X12_turners_26 v1 v2 v3 v4 S).bind (lpF n0 (l_X12_turners_26) some) = some V) (hP : MP D ct B Hb S H) (hS : va_S (AB B) s.heap H locs) (hl : lv_has ls 5 [(0, .ref (B + 136)), (1, .int v1), (2, .int v2), (3, .int v3), (4, .int v4)]) : W p l e { frames := 8, cells := 0, slots := 0, locals := 181 } s m args below meth c H locs 0 0 (MQ below (qIw D ct B Hb V) args s 0 0 (AB B)) (F0 m 26 ls []) := by
  obtain ⟨hx, hb, hr, hml, hown, hts, hK, hlocks, hN⟩ := id C0
  unfold b_X12_turners_26 at h
  refine lv_iload hx hb dX12_turners_26 (lv_at hl 4 rfl) ?_
  refine lv_aload_n hx hb dX12_turners_28 rfl (lv_at hl 0 rfl) ?_
  refine x_get C0 hP (lay_X12 B ct S) rfl inG12 1 (by decide) wd_1142 (fun _ h => h) rfl dX12_turners_29 ?_
  refine lv_icmp_ge (tgt := 74) hx hb dX12_turners_32 (by decide) (fun z1 => ?_) (fun z1 => ?_)
  · have h := ob_t h z1
    refine lv_aload_n hx hb dX12_turners_74 rfl (lv_at hl 0 rfl) ?_
    refine lv_bipush (v := 63) hx hb dX12_turners_75 (by decide) ?_
    obtain ⟨S2, eS2, h⟩ := ob_nm h
    refine x_put (S' := si S 136 29 63) (FS := (fs12 B)) C0 hP hS (fun S => lay_X12 B ct S) rfl inG12 tyX12 tyX12_ok nmX12 29 (by decide) wd_1170 rfl rfl (fun a ha => lay_local (gi_si_n _ _ _ ha) rfl rfl rfl) (put_12_29 B _ _) rfl rfl (Nat.le_of_ble_eq_true rfl) dX12_turners_77 (fun H locs hP hS => ?_)
    rw [← eS2] at hP
    refine lv_iload_n hx hb dX12_turners_80 rfl (lv_at hl 3 rfl) ?_
    exact r_Iw C0 hP hS h dX12_turners_81
  · have h := ob_f h z1
    refine lv_aload_n hx hb dX12_turners_35 rfl (lv_at hl 0 rfl) ?_
    refine lv_bipush (v := 63) hx hb dX12_turners_36 (by decide) ?_
    refine lv_iconst (v := 1) hx hb dX12_turners_38 (by decide) ?_
    refine lv_iload hx hb dX12_turners_39 (lv_at hl 4 rfl) ?_
    refine lv_ishl hx hb dX12_turners_41 ?_
    refine lv_iconst (v := (-1)) hx hb dX12_turners_42 (by decide) ?_
    refine lv_ixor hx hb dX12_turners_43 ?_
    refine lv_iand hx hb dX12_turners_44 ?_
    obtain ⟨S3, eS3, h⟩ := ob_nm h
    refine x_put (S' := si S 136 29 (63 &&& (((1 : Int32) <<< (v4 &&& 31)) ^^^ ((-1))))) (FS := (fs12 B)) C0 hP hS (fun S => lay_X12 B ct S) rfl inG12 tyX12 tyX12_ok nmX12 29 (by decide) wd_1170 rfl rfl (fun a ha => lay_local (gi_si_n _ _ _ ha) rfl rfl rfl) (put_12_29 B _ _) rfl rfl (Nat.le_of_ble_eq_true rfl) dX12_turners_45 (fun H locs hP hS => ?_)
    rw [← eS3] at hP
    refine lv_iload_n hx hb dX12_turners_48 rfl (lv_at hl 3 rfl) ?_
    refine lv_aload_n hx hb dX12_turners_49 rfl (lv_at hl 0 rfl) ?_
    refine lv_iload_n hx hb dX12_turners_50 rfl (lv_at hl 1 rfl) ?_
    obtain ⟨r4, hr4, h⟩ := ob_bd h
    refine n_Iw (kV (As := [.int v1]) C0 (c_X12_choiceOf l v1 hr4) ⟨wd_1633, wd_1630, wd_1632, wp_59, wd_6⟩ kd_X12_choiceOf ⟨Nat.le_of_ble_eq_true rfl, Nat.le_of_ble_eq_true rfl⟩ hP (lay_X12 B ct S3) rfl rfl hl.1 rfl (Nat.le_of_ble_eq_true rfl) dX12_turners_51 ⟨Nat.le_of_ble_eq_true rfl, Nat.le_of_ble_eq_true rfl⟩) hS (fun H locs hP hS => ?_)
    refine lv_iload_n hx hb dX12_turners_54 rfl (lv_at hl 2 rfl) ?_
    refine lv_icmp_eq (tgt := 65) hx hb dX12_turners_55 (by decide) (fun z5 => ?_) (fun z5 => ?_)
    · have h := ob_t h z5
      refine lv_iconst (v := 0) hx hb dX12_turners_65 (by decide) ?_
      exact w_X12_turners_66 l C0 n0 ih0 v1 v2 v4 0 v3 r4.2 h hP hS (lv_sub hl [0, 1, 2, 4] rfl)
    · have h := ob_f h z5
      refine lv_iconst (v := 1) hx hb dX12_turners_58 (by decide) ?_
      refine lv_iload hx hb dX12_turners_59 (lv_at hl 4 rfl) ?_
      refine lv_ishl hx hb dX12_turners_61 ?_
      refine lv_goto (tgt := 66) hx hb dX12_turners_62 (by decide) ?_
      exact w_X12_turners_66 l C0 n0 ih0 v1 v2 v4 ((1 : Int32) <<< (v4 &&& 31)) v3 r4.2 h hP hS (lv_sub hl [0, 1, 2, 4] rfl)
set_option maxRecDepth 100000 in
set_option maxHeartbeats 4000000 in
theorem wl_X12_turners_26 (l : Launch) {V : Int32 × St} (C0 : XC D ct p s m args meth c cX12_turners 5 (some .int) RX12)  : ∀ (n0 : Nat) (v1 : Int32) (v2 : Int32) (v3 : Int32) (v4 : Int32) (S : St) {H : Heap} {locs : List Loc} {ls : Array Slot}, (lp n0 (l_X12_turners_26) (v1, v2, v3, v4, S)).bind some = some V → MP D ct B Hb S H → va_S (AB B) s.heap H locs → lv_has ls 5 [(0, .ref (B + 136)), (1, .int v1), (2, .int v2), (3, .int v3), (4, .int v4)] → W p l e { frames := 8, cells := 0, slots := 0, locals := 181 } s m args below meth c H locs 0 0 (MQ below (qIw D ct B Hb V) args s 0 0 (AB B)) (F0 m 26 ls []) := by
  intro n0
  induction n0 with
  | zero =>
    intro v1 v2 v3 v4 S H locs ls h hP hS hl
    exact (lp_0 h).elim
  | succ n0 ih0 =>
    intro v1 v2 v3 v4 S H locs ls h hP hS hl
    have h := lp_s h
    exact w_X12_turners_26 l C0 n0 (fun v1 v2 v3 v4 S H locs ls h hP hS hl => ih0 v1 v2 v3 v4 S h hP hS hl) v1 v2 v3 v4 S h hP hS hl
set_option maxRecDepth 100000 in
set_option maxHeartbeats 4000000 in
theorem w_X12_turners_0 (l : Launch) {V : Int32 × St} (C0 : XC D ct p s m args meth c cX12_turners 5 (some .int) RX12) (v1 : Int32) (S : St) {H : Heap} {locs : List Loc} {ls : Array Slot} (h : (b_X12_turners_0 v1 S).bind some = some V) (hP : MP D ct B Hb S H) (hS : va_S (AB B) s.heap H locs) (hl : lv_has ls 5 [(0, .ref (B + 136)), (1, .int v1)]) : W p l e { frames := 8, cells := 0, slots := 0, locals := 181 } s m args below meth c H locs 0 0 (MQ below (qIw D ct B Hb V) args s 0 0 (AB B)) (F0 m 0 ls []) := by
  obtain ⟨hx, hb, hr, hml, hown, hts, hK, hlocks, hN⟩ := id C0
  unfold b_X12_turners_0 at h
  refine lv_aload_n hx hb dX12_turners_0 rfl (lv_at hl 0 rfl) ?_
  refine lv_iconst (v := 0) hx hb dX12_turners_1 (by decide) ?_
  obtain ⟨S1, eS1, h⟩ := ob_nm h
  refine x_put (S' := si S 136 28 0) (FS := (fs12 B)) C0 hP hS (fun S => lay_X12 B ct S) rfl inG12 tyX12 tyX12_ok nmX12 28 (by decide) wd_1169 rfl rfl (fun a ha => lay_local (gi_si_n _ _ _ ha) rfl rfl rfl) (put_12_28 B _ _) rfl rfl (Nat.le_of_ble_eq_true rfl) dX12_turners_2 (fun H locs hP hS => ?_)
  rw [← eS1] at hP
  refine lv_aload_n hx hb dX12_turners_5 rfl (lv_at hl 0 rfl) ?_
  refine lv_iload_n hx hb dX12_turners_6 rfl (lv_at hl 1 rfl) ?_
  obtain ⟨r2, hr2, h⟩ := ob_bd h
  refine n_I (kV (As := [.int v1]) C0 (c_X12_isOne l v1 hr2) ⟨wd_1448, wd_1445, wd_1447, wp_37, wd_6⟩ kd_X12_isOne ⟨Nat.le_of_ble_eq_true rfl, Nat.le_of_ble_eq_true rfl⟩ hP (lay_X12 B ct S1) rfl rfl hl.1 rfl (Nat.le_of_ble_eq_true rfl) dX12_turners_7 ⟨Nat.le_of_ble_eq_true rfl, Nat.le_of_ble_eq_true rfl⟩) hS (fun H locs hP hS => ?_)
  refine lv_if_ne (tgt := 15) hx hb dX12_turners_10 (by decide) (fun z3 => ?_) (fun z3 => ?_)
  · have h := ob_f h z3
    refine lv_aload_n hx hb dX12_turners_15 rfl (lv_at hl 0 rfl) ?_
    refine lv_iload_n hx hb dX12_turners_16 rfl (lv_at hl 1 rfl) ?_
    obtain ⟨r4, hr4, h⟩ := ob_bd h
    refine n_Iw (kV (As := [.int v1]) C0 (c_X12_choiceOf l v1 hr4) ⟨wd_1633, wd_1630, wd_1632, wp_59, wd_6⟩ kd_X12_choiceOf ⟨Nat.le_of_ble_eq_true rfl, Nat.le_of_ble_eq_true rfl⟩ hP (lay_X12 B ct S1) rfl rfl hl.1 rfl (Nat.le_of_ble_eq_true rfl) dX12_turners_17 ⟨Nat.le_of_ble_eq_true rfl, Nat.le_of_ble_eq_true rfl⟩) hS (fun H locs hP hS => ?_)
    refine lv_istore_n (lv' := [(2, .int r4.1), (0, .ref (B + 136)), (1, .int v1)]) hx hb dX12_turners_20 rfl hl (by decide) rfl (fun ls hl => ?_)
    refine lv_iconst (v := 0) hx hb dX12_turners_21 (by decide) ?_
    refine lv_istore_n (lv' := [(3, .int 0), (2, .int r4.1), (0, .ref (B + 136)), (1, .int v1)]) hx hb dX12_turners_22 rfl hl (by decide) rfl (fun ls hl => ?_)
    refine lv_iconst (v := 0) hx hb dX12_turners_23 (by decide) ?_
    refine lv_istore (lv' := [(4, .int 0), (3, .int 0), (2, .int r4.1), (0, .ref (B + 136)), (1, .int v1)]) hx hb dX12_turners_24 hl (by decide) rfl (fun ls hl => ?_)
    exact wl_X12_turners_26 l C0 1000 v1 r4.1 0 0 r4.2 h hP hS (lv_sub hl [3, 4, 2, 1, 0] rfl)
  · have h := ob_t h z3
    refine lv_iconst (v := (-1)) hx hb dX12_turners_13 (by decide) ?_
    exact r_Iw C0 hP hS h dX12_turners_14
set_option maxRecDepth 100000 in
set_option maxHeartbeats 4000000 in
theorem c_X12_turners (l : Launch) (a1 : Int32) {D : va_G} {ct : Nat → ClassId} {B : Nat} {Hb : Heap} {S : St} {V : Int32 × St} (h : L_X12_turners a1 S = some V) : Met l yX12_turners (Cond.code yX12_turners cX12_turners 5 (some .int) :: tG) { frames := 8, cells := 0, slots := 0, locals := 181 } (va_Pc [.ref (B + 136), .int a1] (MPK D ct B Hb S)) (qIw D ct B Hb V) 0 0 (AB B) := by
  refine mk_met (by decide +kernel) (Nat.le_of_ble_eq_true rfl) (fun p e s m args below meth c ls C0 hP hl _ => ?_)
  have h := ob_of h
  exact w_X12_turners_0 l C0 a1 S h hP va_S.rf (lv_sub hl [0, 1] rfl)
set_option maxRecDepth 100000 in
set_option maxHeartbeats 4000000 in
theorem w_X12_yes_60 (l : Launch) {V : Int32 × St} (C0 : XC D ct p s m args meth c cX12_yes 5 (some .int) RX12) (n0 : Nat) (ih0 : ∀ (v1 : Int32) (v2 : Int32) (v3 : Int32) (v4 : Int32) (S : St) (H : Heap) (locs : List Loc) (ls : Array Slot), (lp n0 (l_X12_yes_27) (v1, v2, v3, v4, S)).bind some = some V → MP D ct B Hb S H → va_S (AB B) s.heap H locs → lv_has ls 5 [(0, .ref (B + 136)), (1, .int v1), (2, .int v2), (3, .int v3), (4, .int v4)] → W p l e { frames := 8, cells := 0, slots := 0, locals := 181 } s m args below meth c H locs 0 0 (MQ below (qIw D ct B Hb V) args s 0 0 (AB B)) (F0 m 27 ls [])) (v1 : Int32) (v2 : Int32) (v4 : Int32) (s0 : Int32) (s1 : Int32) (S : St) {H : Heap} {locs : List Loc} {ls : Array Slot} (h : (b_X12_yes_60 v1 v2 v4 s0 s1 S).bind (lpF n0 (l_X12_yes_27) some) = some V) (hP : MP D ct B Hb S H) (hS : va_S (AB B) s.heap H locs) (hl : lv_has ls 5 [(0, .ref (B + 136)), (1, .int v1), (2, .int v2), (4, .int v4)]) : W p l e { frames := 8, cells := 0, slots := 0, locals := 181 } s m args below meth c H locs 0 0 (MQ below (qIw D ct B Hb V) args s 0 0 (AB B)) (F0 m 60 ls [.int s0, .int s1]) := by
  obtain ⟨hx, hb, hr, hml, hown, hts, hK, hlocks, hN⟩ := id C0
  unfold b_X12_yes_60 at h
  refine lv_ior hx hb dX12_yes_60 ?_
  refine lv_istore_n (lv' := [(3, .int (s1 ||| s0)), (0, .ref (B + 136)), (1, .int v1), (2, .int v2), (4, .int v4)]) hx hb dX12_yes_61 rfl hl (by decide) rfl (fun ls hl => ?_)
  refine lv_iinc (v := v4 + 1) (lv' := [(4, .int (v4 + 1)), (3, .int (s1 ||| s0)), (0, .ref (B + 136)), (1, .int v1), (2, .int v2)]) hx hb dX12_yes_62 hl (k := 4) rfl rfl (by decide) rfl (fun ls hl => ?_)
  refine lv_goto (tgt := 27) hx hb dX12_yes_65 (by decide) ?_
  exact ih0 v1 v2 (s1 ||| s0) (v4 + 1) S _ _ _ h hP hS (lv_sub hl [2, 3, 4, 1, 0] rfl)
set_option maxRecDepth 100000 in
set_option maxHeartbeats 4000000 in
theorem w_X12_yes_27 (l : Launch) {V : Int32 × St} (C0 : XC D ct p s m args meth c cX12_yes 5 (some .int) RX12) (n0 : Nat) (ih0 : ∀ (v1 : Int32) (v2 : Int32) (v3 : Int32) (v4 : Int32) (S : St) (H : Heap) (locs : List Loc) (ls : Array Slot), (lp n0 (l_X12_yes_27) (v1, v2, v3, v4, S)).bind some = some V → MP D ct B Hb S H → va_S (AB B) s.heap H locs → lv_has ls 5 [(0, .ref (B + 136)), (1, .int v1), (2, .int v2), (3, .int v3), (4, .int v4)] → W p l e { frames := 8, cells := 0, slots := 0, locals := 181 } s m args below meth c H locs 0 0 (MQ below (qIw D ct B Hb V) args s 0 0 (AB B)) (F0 m 27 ls [])) (v1 : Int32) (v2 : Int32) (v3 : Int32) (v4 : Int32) (S : St) {H : Heap} {locs : List Loc} {ls : Array Slot} (h : (b_X12_yes_27 v1 v2 v3 v4 S).bind (lpF n0 (l_X12_yes_27) some) = some V) (hP : MP D ct B Hb S H) (hS : va_S (AB B) s.heap H locs) (hl : lv_has ls 5 [(0, .ref (B + 136)), (1, .int v1), (2, .int v2), (3, .int v3), (4, .int v4)]) : W p l e { frames := 8, cells := 0, slots := 0, locals := 181 } s m args below meth c H locs 0 0 (MQ below (qIw D ct B Hb V) args s 0 0 (AB B)) (F0 m 27 ls []) := by
  obtain ⟨hx, hb, hr, hml, hown, hts, hK, hlocks, hN⟩ := id C0
  unfold b_X12_yes_27 at h
  refine lv_iload hx hb dX12_yes_27 (lv_at hl 4 rfl) ?_
  refine lv_bipush (v := 24) hx hb dX12_yes_29 (by decide) ?_
  refine lv_icmp_ge (tgt := 68) hx hb dX12_yes_31 (by decide) (fun z1 => ?_) (fun z1 => ?_)
  · have h := ob_t h z1
    refine lv_aload_n hx hb dX12_yes_68 rfl (lv_at hl 0 rfl) ?_
    refine x_get C0 hP (lay_X12 B ct S) rfl inG12 19 (by decide) wd_1160 (fun _ h => h) rfl dX12_yes_69 ?_
    refine lv_iload_n hx hb dX12_yes_72 rfl (lv_at hl 1 rfl) ?_
    refine lv_iload_n hx hb dX12_yes_73 rfl (lv_at hl 2 rfl) ?_
    obtain ⟨g2, h⟩ := ob_gd h
    obtain ⟨S3, eS3, h⟩ := ob_nm h
    refine x_iast C0 hP hS (fun S => lay_150 B ct S) g2 dX12_yes_74 (fun H locs hP hS => ?_)
    rw [← eS3] at hP
    refine lv_iload_n hx hb dX12_yes_75 rfl (lv_at hl 3 rfl) ?_
    exact r_Iw C0 hP hS h dX12_yes_76
  · have h := ob_f h z1
    refine lv_aload_n hx hb dX12_yes_34 rfl (lv_at hl 0 rfl) ?_
    refine x_get C0 hP (lay_X12 B ct S) rfl inG12 19 (by decide) wd_1160 (fun _ h => h) rfl dX12_yes_35 ?_
    refine lv_iload_n hx hb dX12_yes_38 rfl (lv_at hl 1 rfl) ?_
    refine lv_iload hx hb dX12_yes_39 (lv_at hl 4 rfl) ?_
    obtain ⟨g4, h⟩ := ob_gd h
    obtain ⟨S5, eS5, h⟩ := ob_nm h
    refine x_iast C0 hP hS (fun S => lay_150 B ct S) g4 dX12_yes_41 (fun H locs hP hS => ?_)
    rw [← eS5] at hP
    refine lv_iload_n hx hb dX12_yes_42 rfl (lv_at hl 3 rfl) ?_
    refine lv_aload_n hx hb dX12_yes_43 rfl (lv_at hl 0 rfl) ?_
    refine lv_iload_n hx hb dX12_yes_44 rfl (lv_at hl 1 rfl) ?_
    obtain ⟨r6, hr6, h⟩ := ob_bd h
    refine n_Iw (kV (As := [.int v1]) C0 (c_X12_choiceOf l v1 hr6) ⟨wd_1633, wd_1630, wd_1632, wp_59, wd_6⟩ kd_X12_choiceOf ⟨Nat.le_of_ble_eq_true rfl, Nat.le_of_ble_eq_true rfl⟩ hP (lay_X12 B ct S5) rfl rfl hl.1 rfl (Nat.le_of_ble_eq_true rfl) dX12_yes_45 ⟨Nat.le_of_ble_eq_true rfl, Nat.le_of_ble_eq_true rfl⟩) hS (fun H locs hP hS => ?_)
    refine lv_iconst (v := 1) hx hb dX12_yes_48 (by decide) ?_
    refine lv_icmp_ne (tgt := 59) hx hb dX12_yes_49 (by decide) (fun z7 => ?_) (fun z7 => ?_)
    · have h := ob_f h z7
      refine lv_iconst (v := 0) hx hb dX12_yes_59 (by decide) ?_
      exact w_X12_yes_60 l C0 n0 ih0 v1 v2 v4 0 v3 r6.2 h hP hS (lv_sub hl [0, 1, 2, 4] rfl)
    · have h := ob_t h z7
      refine lv_iconst (v := 1) hx hb dX12_yes_52 (by decide) ?_
      refine lv_iload hx hb dX12_yes_53 (lv_at hl 4 rfl) ?_
      refine lv_ishl hx hb dX12_yes_55 ?_
      refine lv_goto (tgt := 60) hx hb dX12_yes_56 (by decide) ?_
      exact w_X12_yes_60 l C0 n0 ih0 v1 v2 v4 ((1 : Int32) <<< (v4 &&& 31)) v3 r6.2 h hP hS (lv_sub hl [0, 1, 2, 4] rfl)
set_option maxRecDepth 100000 in
set_option maxHeartbeats 4000000 in
theorem wl_X12_yes_27 (l : Launch) {V : Int32 × St} (C0 : XC D ct p s m args meth c cX12_yes 5 (some .int) RX12)  : ∀ (n0 : Nat) (v1 : Int32) (v2 : Int32) (v3 : Int32) (v4 : Int32) (S : St) {H : Heap} {locs : List Loc} {ls : Array Slot}, (lp n0 (l_X12_yes_27) (v1, v2, v3, v4, S)).bind some = some V → MP D ct B Hb S H → va_S (AB B) s.heap H locs → lv_has ls 5 [(0, .ref (B + 136)), (1, .int v1), (2, .int v2), (3, .int v3), (4, .int v4)] → W p l e { frames := 8, cells := 0, slots := 0, locals := 181 } s m args below meth c H locs 0 0 (MQ below (qIw D ct B Hb V) args s 0 0 (AB B)) (F0 m 27 ls []) := by
  intro n0
  induction n0 with
  | zero =>
    intro v1 v2 v3 v4 S H locs ls h hP hS hl
    exact (lp_0 h).elim
  | succ n0 ih0 =>
    intro v1 v2 v3 v4 S H locs ls h hP hS hl
    have h := lp_s h
    exact w_X12_yes_27 l C0 n0 (fun v1 v2 v3 v4 S H locs ls h hP hS hl => ih0 v1 v2 v3 v4 S h hP hS hl) v1 v2 v3 v4 S h hP hS hl
set_option maxRecDepth 100000 in
set_option maxHeartbeats 4000000 in
theorem w_X12_yes_0 (l : Launch) {V : Int32 × St} (C0 : XC D ct p s m args meth c cX12_yes 5 (some .int) RX12) (v1 : Int32) (S : St) {H : Heap} {locs : List Loc} {ls : Array Slot} (h : (b_X12_yes_0 v1 S).bind some = some V) (hP : MP D ct B Hb S H) (hS : va_S (AB B) s.heap H locs) (hl : lv_has ls 5 [(0, .ref (B + 136)), (1, .int v1)]) : W p l e { frames := 8, cells := 0, slots := 0, locals := 181 } s m args below meth c H locs 0 0 (MQ below (qIw D ct B Hb V) args s 0 0 (AB B)) (F0 m 0 ls []) := by
  obtain ⟨hx, hb, hr, hml, hown, hts, hK, hlocks, hN⟩ := id C0
  unfold b_X12_yes_0 at h
  refine lv_aload_n hx hb dX12_yes_0 rfl (lv_at hl 0 rfl) ?_
  refine lv_iconst (v := 0) hx hb dX12_yes_1 (by decide) ?_
  obtain ⟨S1, eS1, h⟩ := ob_nm h
  refine x_put (S' := si S 136 28 0) (FS := (fs12 B)) C0 hP hS (fun S => lay_X12 B ct S) rfl inG12 tyX12 tyX12_ok nmX12 28 (by decide) wd_1169 rfl rfl (fun a ha => lay_local (gi_si_n _ _ _ ha) rfl rfl rfl) (put_12_28 B _ _) rfl rfl (Nat.le_of_ble_eq_true rfl) dX12_yes_2 (fun H locs hP hS => ?_)
  rw [← eS1] at hP
  refine lv_aload_n hx hb dX12_yes_5 rfl (lv_at hl 0 rfl) ?_
  refine lv_iload_n hx hb dX12_yes_6 rfl (lv_at hl 1 rfl) ?_
  obtain ⟨r2, hr2, h⟩ := ob_bd h
  refine n_I (kV (As := [.int v1]) C0 (c_X12_isOne l v1 hr2) ⟨wd_1448, wd_1445, wd_1447, wp_37, wd_6⟩ kd_X12_isOne ⟨Nat.le_of_ble_eq_true rfl, Nat.le_of_ble_eq_true rfl⟩ hP (lay_X12 B ct S1) rfl rfl hl.1 rfl (Nat.le_of_ble_eq_true rfl) dX12_yes_7 ⟨Nat.le_of_ble_eq_true rfl, Nat.le_of_ble_eq_true rfl⟩) hS (fun H locs hP hS => ?_)
  refine lv_if_ne (tgt := 15) hx hb dX12_yes_10 (by decide) (fun z3 => ?_) (fun z3 => ?_)
  · have h := ob_f h z3
    refine lv_aload_n hx hb dX12_yes_15 rfl (lv_at hl 0 rfl) ?_
    refine x_get C0 hP (lay_X12 B ct S1) rfl inG12 19 (by decide) wd_1160 (fun _ h => h) rfl dX12_yes_16 ?_
    refine lv_iload_n hx hb dX12_yes_19 rfl (lv_at hl 1 rfl) ?_
    obtain ⟨g4, h⟩ := ob_gd h
    refine x_iald C0 hP ((fun S => lay_150 B ct S) S1) g4 dX12_yes_20 ?_
    refine lv_istore_n (lv' := [(2, .int (gi S1 150 v1.toNatClampNeg)), (0, .ref (B + 136)), (1, .int v1)]) hx hb dX12_yes_21 rfl hl (by decide) rfl (fun ls hl => ?_)
    refine lv_iconst (v := 0) hx hb dX12_yes_22 (by decide) ?_
    refine lv_istore_n (lv' := [(3, .int 0), (2, .int (gi S1 150 v1.toNatClampNeg)), (0, .ref (B + 136)), (1, .int v1)]) hx hb dX12_yes_23 rfl hl (by decide) rfl (fun ls hl => ?_)
    refine lv_iconst (v := 0) hx hb dX12_yes_24 (by decide) ?_
    refine lv_istore (lv' := [(4, .int 0), (3, .int 0), (2, .int (gi S1 150 v1.toNatClampNeg)), (0, .ref (B + 136)), (1, .int v1)]) hx hb dX12_yes_25 hl (by decide) rfl (fun ls hl => ?_)
    exact wl_X12_yes_27 l C0 1000 v1 (gi S1 150 v1.toNatClampNeg) 0 0 S1 h hP hS (lv_sub hl [3, 4, 2, 1, 0] rfl)
  · have h := ob_t h z3
    refine lv_iconst (v := (-1)) hx hb dX12_yes_13 (by decide) ?_
    exact r_Iw C0 hP hS h dX12_yes_14
set_option maxRecDepth 100000 in
set_option maxHeartbeats 4000000 in
theorem c_X12_yes (l : Launch) (a1 : Int32) {D : va_G} {ct : Nat → ClassId} {B : Nat} {Hb : Heap} {S : St} {V : Int32 × St} (h : L_X12_yes a1 S = some V) : Met l yX12_yes (Cond.code yX12_yes cX12_yes 5 (some .int) :: tG) { frames := 8, cells := 0, slots := 0, locals := 181 } (va_Pc [.ref (B + 136), .int a1] (MPK D ct B Hb S)) (qIw D ct B Hb V) 0 0 (AB B) := by
  refine mk_met (by decide +kernel) (Nat.le_of_ble_eq_true rfl) (fun p e s m args below meth c ls C0 hP hl _ => ?_)
  have h := ob_of h
  exact w_X12_yes_0 l C0 a1 S h hP va_S.rf (lv_sub hl [0, 1] rfl)
set_option maxRecDepth 100000 in
set_option maxHeartbeats 4000000 in
theorem w_X12_moods_117 (l : Launch) {V : Int32 × St} (C0 : XC D ct p s m args meth c cX12_moods 8 (some .int) RX12) (v1 : Int32) (v2 : Int32) (v3 : Int32) (v4 : Int32) (v5 : Int32) (S : St) {H : Heap} {locs : List Loc} {ls : Array Slot} (h : (b_X12_moods_117 v1 v2 v3 v4 v5 S).bind some = some V) (hP : MP D ct B Hb S H) (hS : va_S (AB B) s.heap H locs) (hl : lv_has ls 8 [(0, .ref (B + 136)), (1, .int v1), (2, .int v2), (3, .int v3), (4, .int v4), (5, .int v5)]) : W p l e { frames := 8, cells := 0, slots := 0, locals := 181 } s m args below meth c H locs 0 0 (MQ below (qIw D ct B Hb V) args s 0 0 (AB B)) (F0 m 117 ls []) := by
  obtain ⟨hx, hb, hr, hml, hown, hts, hK, hlocks, hN⟩ := id C0
  unfold b_X12_moods_117 at h
  refine lv_aload_n hx hb dX12_moods_117 rfl (lv_at hl 0 rfl) ?_
  refine x_get C0 hP (lay_X12 B ct S) rfl inG12 20 (by decide) wd_1161 (fun _ h => h) rfl dX12_moods_118 ?_
  refine lv_iload_n hx hb dX12_moods_121 rfl (lv_at hl 1 rfl) ?_
  refine lv_iload_n hx hb dX12_moods_122 rfl (lv_at hl 3 rfl) ?_
  obtain ⟨g1, h⟩ := ob_gd h
  obtain ⟨S2, eS2, h⟩ := ob_nm h
  refine x_iast C0 hP hS (fun S => lay_151 B ct S) g1 dX12_moods_123 (fun H locs hP hS => ?_)
  rw [← eS2] at hP
  refine lv_iload_n hx hb dX12_moods_124 rfl (lv_at hl 2 rfl) ?_
  refine lv_if_ne (tgt := 133) hx hb dX12_moods_125 (by decide) (fun z3 => ?_) (fun z3 => ?_)
  · have h := ob_f h z3
    refine lv_iload hx hb dX12_moods_133 (lv_at hl 5 rfl) ?_
    exact r_Iw C0 hP hS h dX12_moods_135
  · have h := ob_t h z3
    refine lv_iload hx hb dX12_moods_128 (lv_at hl 4 rfl) ?_
    refine lv_goto (tgt := 135) hx hb dX12_moods_130 (by decide) ?_
    exact r_Iw C0 hP hS h dX12_moods_135
set_option maxRecDepth 100000 in
set_option maxHeartbeats 4000000 in
theorem w_X12_moods_109 (l : Launch) {V : Int32 × St} (C0 : XC D ct p s m args meth c cX12_moods 8 (some .int) RX12) (n0 : Nat) (ih0 : ∀ (v1 : Int32) (v2 : Int32) (v3 : Int32) (v4 : Int32) (v5 : Int32) (v6 : Int32) (S : St) (H : Heap) (locs : List Loc) (ls : Array Slot), (lp n0 (l_X12_moods_43) (v1, v2, v3, v4, v5, v6, S)).bind some = some V → MP D ct B Hb S H → va_S (AB B) s.heap H locs → lv_has ls 8 [(0, .ref (B + 136)), (1, .int v1), (2, .int v2), (3, .int v3), (4, .int v4), (5, .int v5), (6, .int v6)] → W p l e { frames := 8, cells := 0, slots := 0, locals := 181 } s m args below meth c H locs 0 0 (MQ below (qIw D ct B Hb V) args s 0 0 (AB B)) (F0 m 43 ls [])) (v1 : Int32) (v2 : Int32) (v3 : Int32) (v4 : Int32) (v6 : Int32) (s0 : Int32) (S : St) {H : Heap} {locs : List Loc} {ls : Array Slot} (h : (b_X12_moods_109 v1 v2 v3 v4 v6 s0 S).bind (lpF n0 (l_X12_moods_43) some) = some V) (hP : MP D ct B Hb S H) (hS : va_S (AB B) s.heap H locs) (hl : lv_has ls 8 [(0, .ref (B + 136)), (1, .int v1), (2, .int v2), (3, .int v3), (4, .int v4), (6, .int v6)]) : W p l e { frames := 8, cells := 0, slots := 0, locals := 181 } s m args below meth c H locs 0 0 (MQ below (qIw D ct B Hb V) args s 0 0 (AB B)) (F0 m 109 ls [.int s0]) := by
  obtain ⟨hx, hb, hr, hml, hown, hts, hK, hlocks, hN⟩ := id C0
  unfold b_X12_moods_109 at h
  refine lv_istore (lv' := [(5, .int s0), (0, .ref (B + 136)), (1, .int v1), (2, .int v2), (3, .int v3), (4, .int v4), (6, .int v6)]) hx hb dX12_moods_109 hl (by decide) rfl (fun ls hl => ?_)
  refine lv_iinc (v := v6 + 1) (lv' := [(6, .int (v6 + 1)), (5, .int s0), (0, .ref (B + 136)), (1, .int v1), (2, .int v2), (3, .int v3), (4, .int v4)]) hx hb dX12_moods_111 hl (k := 6) rfl rfl (by decide) rfl (fun ls hl => ?_)
  refine lv_goto (tgt := 43) hx hb dX12_moods_114 (by decide) ?_
  exact ih0 v1 v2 v3 v4 s0 (v6 + 1) S _ _ _ h hP hS (lv_sub hl [2, 3, 4, 5, 6, 1, 0] rfl)
set_option maxRecDepth 100000 in
set_option maxHeartbeats 4000000 in
theorem w_X12_moods_107 (l : Launch) {V : Int32 × St} (C0 : XC D ct p s m args meth c cX12_moods 8 (some .int) RX12) (n0 : Nat) (ih0 : ∀ (v1 : Int32) (v2 : Int32) (v3 : Int32) (v4 : Int32) (v5 : Int32) (v6 : Int32) (S : St) (H : Heap) (locs : List Loc) (ls : Array Slot), (lp n0 (l_X12_moods_43) (v1, v2, v3, v4, v5, v6, S)).bind some = some V → MP D ct B Hb S H → va_S (AB B) s.heap H locs → lv_has ls 8 [(0, .ref (B + 136)), (1, .int v1), (2, .int v2), (3, .int v3), (4, .int v4), (5, .int v5), (6, .int v6)] → W p l e { frames := 8, cells := 0, slots := 0, locals := 181 } s m args below meth c H locs 0 0 (MQ below (qIw D ct B Hb V) args s 0 0 (AB B)) (F0 m 43 ls [])) (v1 : Int32) (v2 : Int32) (v3 : Int32) (v4 : Int32) (v5 : Int32) (v6 : Int32) (S : St) {H : Heap} {locs : List Loc} {ls : Array Slot} (h : (b_X12_moods_107 v1 v2 v3 v4 v5 v6 S).bind (lpF n0 (l_X12_moods_43) some) = some V) (hP : MP D ct B Hb S H) (hS : va_S (AB B) s.heap H locs) (hl : lv_has ls 8 [(0, .ref (B + 136)), (1, .int v1), (2, .int v2), (3, .int v3), (4, .int v4), (5, .int v5), (6, .int v6)]) : W p l e { frames := 8, cells := 0, slots := 0, locals := 181 } s m args below meth c H locs 0 0 (MQ below (qIw D ct B Hb V) args s 0 0 (AB B)) (F0 m 107 ls []) := by
  obtain ⟨hx, hb, hr, hml, hown, hts, hK, hlocks, hN⟩ := id C0
  unfold b_X12_moods_107 at h
  refine lv_iload hx hb dX12_moods_107 (lv_at hl 5 rfl) ?_
  exact w_X12_moods_109 l C0 n0 ih0 v1 v2 v3 v4 v6 v5 S h hP hS (lv_sub hl [0, 1, 2, 3, 4, 6] rfl)
set_option maxRecDepth 100000 in
set_option maxHeartbeats 4000000 in
theorem w_X12_moods_86 (l : Launch) {V : Int32 × St} (C0 : XC D ct p s m args meth c cX12_moods 8 (some .int) RX12) (n0 : Nat) (ih0 : ∀ (v1 : Int32) (v2 : Int32) (v3 : Int32) (v4 : Int32) (v5 : Int32) (v6 : Int32) (S : St) (H : Heap) (locs : List Loc) (ls : Array Slot), (lp n0 (l_X12_moods_43) (v1, v2, v3, v4, v5, v6, S)).bind some = some V → MP D ct B Hb S H → va_S (AB B) s.heap H locs → lv_has ls 8 [(0, .ref (B + 136)), (1, .int v1), (2, .int v2), (3, .int v3), (4, .int v4), (5, .int v5), (6, .int v6)] → W p l e { frames := 8, cells := 0, slots := 0, locals := 181 } s m args below meth c H locs 0 0 (MQ below (qIw D ct B Hb V) args s 0 0 (AB B)) (F0 m 43 ls [])) (v1 : Int32) (v2 : Int32) (v3 : Int32) (v5 : Int32) (v6 : Int32) (v7 : Int32) (s0 : Int32) (s1 : Int32) (S : St) {H : Heap} {locs : List Loc} {ls : Array Slot} (h : (b_X12_moods_86 v1 v2 v3 v5 v6 v7 s0 s1 S).bind (lpF n0 (l_X12_moods_43) some) = some V) (hP : MP D ct B Hb S H) (hS : va_S (AB B) s.heap H locs) (hl : lv_has ls 8 [(0, .ref (B + 136)), (1, .int v1), (2, .int v2), (3, .int v3), (5, .int v5), (6, .int v6), (7, .int v7)]) : W p l e { frames := 8, cells := 0, slots := 0, locals := 181 } s m args below meth c H locs 0 0 (MQ below (qIw D ct B Hb V) args s 0 0 (AB B)) (F0 m 86 ls [.int s0, .int s1]) := by
  obtain ⟨hx, hb, hr, hml, hown, hts, hK, hlocks, hN⟩ := id C0
  unfold b_X12_moods_86 at h
  refine lv_iadd hx hb dX12_moods_86 ?_
  refine lv_istore (lv' := [(4, .int (s1 + s0)), (0, .ref (B + 136)), (1, .int v1), (2, .int v2), (3, .int v3), (5, .int v5), (6, .int v6), (7, .int v7)]) hx hb dX12_moods_87 hl (by decide) rfl (fun ls hl => ?_)
  refine lv_iload hx hb dX12_moods_89 (lv_at hl 7 rfl) ?_
  refine lv_if_eq (tgt := 107) hx hb dX12_moods_91 (by decide) (fun z1 => ?_) (fun z1 => ?_)
  · have h := ob_t h z1
    exact w_X12_moods_107 l C0 n0 ih0 v1 v2 v3 (s1 + s0) v5 v6 S h hP hS (lv_sub hl [1, 2, 3, 4, 0, 5, 6] rfl)
  · have h := ob_f h z1
    refine lv_iload hx hb dX12_moods_94 (lv_at hl 5 rfl) ?_
    refine lv_if_ge (tgt := 107) hx hb dX12_moods_96 (by decide) (fun z2 => ?_) (fun z2 => ?_)
    · have h := ob_t h z2
      exact w_X12_moods_107 l C0 n0 ih0 v1 v2 v3 (s1 + s0) v5 v6 S h hP hS (lv_sub hl [1, 2, 3, 4, 0, 5, 6] rfl)
    · have h := ob_f h z2
      refine lv_iload hx hb dX12_moods_99 (lv_at hl 6 rfl) ?_
      refine lv_bipush (v := 9) hx hb dX12_moods_101 (by decide) ?_
      refine lv_iadd hx hb dX12_moods_103 ?_
      refine lv_goto (tgt := 109) hx hb dX12_moods_104 (by decide) ?_
      exact w_X12_moods_109 l C0 n0 ih0 v1 v2 v3 (s1 + s0) v6 (v6 + 9) S h hP hS (lv_sub hl [1, 2, 3, 4, 0, 6] rfl)
set_option maxRecDepth 100000 in
set_option maxHeartbeats 4000000 in
theorem w_X12_moods_72 (l : Launch) {V : Int32 × St} (C0 : XC D ct p s m args meth c cX12_moods 8 (some .int) RX12) (n0 : Nat) (ih0 : ∀ (v1 : Int32) (v2 : Int32) (v3 : Int32) (v4 : Int32) (v5 : Int32) (v6 : Int32) (S : St) (H : Heap) (locs : List Loc) (ls : Array Slot), (lp n0 (l_X12_moods_43) (v1, v2, v3, v4, v5, v6, S)).bind some = some V → MP D ct B Hb S H → va_S (AB B) s.heap H locs → lv_has ls 8 [(0, .ref (B + 136)), (1, .int v1), (2, .int v2), (3, .int v3), (4, .int v4), (5, .int v5), (6, .int v6)] → W p l e { frames := 8, cells := 0, slots := 0, locals := 181 } s m args below meth c H locs 0 0 (MQ below (qIw D ct B Hb V) args s 0 0 (AB B)) (F0 m 43 ls [])) (v1 : Int32) (v2 : Int32) (v3 : Int32) (v4 : Int32) (v5 : Int32) (v6 : Int32) (s0 : Int32) (S : St) {H : Heap} {locs : List Loc} {ls : Array Slot} (h : (b_X12_moods_72 v1 v2 v3 v4 v5 v6 s0 S).bind (lpF n0 (l_X12_moods_43) some) = some V) (hP : MP D ct B Hb S H) (hS : va_S (AB B) s.heap H locs) (hl : lv_has ls 8 [(0, .ref (B + 136)), (1, .int v1), (2, .int v2), (3, .int v3), (4, .int v4), (5, .int v5), (6, .int v6)]) : W p l e { frames := 8, cells := 0, slots := 0, locals := 181 } s m args below meth c H locs 0 0 (MQ below (qIw D ct B Hb V) args s 0 0 (AB B)) (F0 m 72 ls [.int s0]) := by
  obtain ⟨hx, hb, hr, hml, hown, hts, hK, hlocks, hN⟩ := id C0
  unfold b_X12_moods_72 at h
  refine lv_istore (lv' := [(7, .int s0), (0, .ref (B + 136)), (1, .int v1), (2, .int v2), (3, .int v3), (4, .int v4), (5, .int v5), (6, .int v6)]) hx hb dX12_moods_72 hl (by decide) rfl (fun ls hl => ?_)
  refine lv_iload hx hb dX12_moods_74 (lv_at hl 5 rfl) ?_
  refine lv_iload hx hb dX12_moods_76 (lv_at hl 0 rfl) ?_
  refine lv_if_eq (tgt := 85) hx hb dX12_moods_78 (by decide) (fun z1 => ?_) (fun z1 => ?_)
  · have h := ob_t h z1
    refine lv_iconst (v := 0) hx hb dX12_moods_85 (by decide) ?_
    exact w_X12_moods_86 l C0 n0 ih0 v1 v2 v3 v5 v6 s0 0 v4 S h hP hS (lv_sub hl [1, 2, 3, 4, 6, 7, 0] rfl)
  · have h := ob_f h z1
    refine lv_iconst (v := 1) hx hb dX12_moods_81 (by decide) ?_
    refine lv_goto (tgt := 86) hx hb dX12_moods_82 (by decide) ?_
    exact w_X12_moods_86 l C0 n0 ih0 v1 v2 v3 v5 v6 s0 1 v4 S h hP hS (lv_sub hl [1, 2, 3, 4, 6, 7, 0] rfl)
set_option maxRecDepth 100000 in
set_option maxHeartbeats 4000000 in
theorem w_X12_moods_43 (l : Launch) {V : Int32 × St} (C0 : XC D ct p s m args meth c cX12_moods 8 (some .int) RX12) (n0 : Nat) (ih0 : ∀ (v1 : Int32) (v2 : Int32) (v3 : Int32) (v4 : Int32) (v5 : Int32) (v6 : Int32) (S : St) (H : Heap) (locs : List Loc) (ls : Array Slot), (lp n0 (l_X12_moods_43) (v1, v2, v3, v4, v5, v6, S)).bind some = some V → MP D ct B Hb S H → va_S (AB B) s.heap H locs → lv_has ls 8 [(0, .ref (B + 136)), (1, .int v1), (2, .int v2), (3, .int v3), (4, .int v4), (5, .int v5), (6, .int v6)] → W p l e { frames := 8, cells := 0, slots := 0, locals := 181 } s m args below meth c H locs 0 0 (MQ below (qIw D ct B Hb V) args s 0 0 (AB B)) (F0 m 43 ls [])) (v1 : Int32) (v2 : Int32) (v3 : Int32) (v4 : Int32) (v5 : Int32) (v6 : Int32) (S : St) {H : Heap} {locs : List Loc} {ls : Array Slot} (h : (b_X12_moods_43 v1 v2 v3 v4 v5 v6 S).bind (lpF n0 (l_X12_moods_43) some) = some V) (hP : MP D ct B Hb S H) (hS : va_S (AB B) s.heap H locs) (hl : lv_has ls 8 [(0, .ref (B + 136)), (1, .int v1), (2, .int v2), (3, .int v3), (4, .int v4), (5, .int v5), (6, .int v6)]) : W p l e { frames := 8, cells := 0, slots := 0, locals := 181 } s m args below meth c H locs 0 0 (MQ below (qIw D ct B Hb V) args s 0 0 (AB B)) (F0 m 43 ls []) := by
  obtain ⟨hx, hb, hr, hml, hown, hts, hK, hlocks, hN⟩ := id C0
  unfold b_X12_moods_43 at h
  refine lv_iload hx hb dX12_moods_43 (lv_at hl 6 rfl) ?_
  refine lv_bipush (v := 9) hx hb dX12_moods_45 (by decide) ?_
  refine lv_icmp_gt (tgt := 117) hx hb dX12_moods_47 (by decide) (fun z1 => ?_) (fun z1 => ?_)
  · have h := ob_t h z1
    have h := ob_mp h
    exact w_X12_moods_117 l C0 v1 v2 v3 v4 v5 S h hP hS (lv_sub hl [0, 1, 2, 3, 4, 5] rfl)
  · have h := ob_f h z1
    refine lv_aload_n hx hb dX12_moods_50 rfl (lv_at hl 0 rfl) ?_
    refine x_get C0 hP (lay_X12 B ct S) rfl inG12 20 (by decide) wd_1161 (fun _ h => h) rfl dX12_moods_51 ?_
    refine lv_iload_n hx hb dX12_moods_54 rfl (lv_at hl 1 rfl) ?_
    refine lv_iload hx hb dX12_moods_55 (lv_at hl 6 rfl) ?_
    obtain ⟨g2, h⟩ := ob_gd h
    obtain ⟨S3, eS3, h⟩ := ob_nm h
    refine x_iast C0 hP hS (fun S => lay_151 B ct S) g2 dX12_moods_57 (fun H locs hP hS => ?_)
    rw [← eS3] at hP
    refine lv_aload_n hx hb dX12_moods_58 rfl (lv_at hl 0 rfl) ?_
    refine lv_iload_n hx hb dX12_moods_59 rfl (lv_at hl 1 rfl) ?_
    obtain ⟨r4, hr4, h⟩ := ob_bd h
    refine n_Iw (kV (As := [.int v1]) C0 (c_X12_choiceOf l v1 hr4) ⟨wd_1633, wd_1630, wd_1632, wp_59, wd_6⟩ kd_X12_choiceOf ⟨Nat.le_of_ble_eq_true rfl, Nat.le_of_ble_eq_true rfl⟩ hP (lay_X12 B ct S3) rfl rfl hl.1 rfl (Nat.le_of_ble_eq_true rfl) dX12_moods_60 ⟨Nat.le_of_ble_eq_true rfl, Nat.le_of_ble_eq_true rfl⟩) hS (fun H locs hP hS => ?_)
    refine lv_iconst (v := 1) hx hb dX12_moods_63 (by decide) ?_
    refine lv_icmp_ne (tgt := 71) hx hb dX12_moods_64 (by decide) (fun z5 => ?_) (fun z5 => ?_)
    · have h := ob_f h z5
      refine lv_iconst (v := 0) hx hb dX12_moods_71 (by decide) ?_
      exact w_X12_moods_72 l C0 n0 ih0 v1 v2 v3 v4 v5 v6 0 r4.2 h hP hS (lv_sub hl [0, 1, 2, 3, 4, 5, 6] rfl)
    · have h := ob_t h z5
      refine lv_iconst (v := 1) hx hb dX12_moods_67 (by decide) ?_
      refine lv_goto (tgt := 72) hx hb dX12_moods_68 (by decide) ?_
      exact w_X12_moods_72 l C0 n0 ih0 v1 v2 v3 v4 v5 v6 1 r4.2 h hP hS (lv_sub hl [0, 1, 2, 3, 4, 5, 6] rfl)
set_option maxRecDepth 100000 in
set_option maxHeartbeats 4000000 in
theorem wl_X12_moods_43 (l : Launch) {V : Int32 × St} (C0 : XC D ct p s m args meth c cX12_moods 8 (some .int) RX12)  : ∀ (n0 : Nat) (v1 : Int32) (v2 : Int32) (v3 : Int32) (v4 : Int32) (v5 : Int32) (v6 : Int32) (S : St) {H : Heap} {locs : List Loc} {ls : Array Slot}, (lp n0 (l_X12_moods_43) (v1, v2, v3, v4, v5, v6, S)).bind some = some V → MP D ct B Hb S H → va_S (AB B) s.heap H locs → lv_has ls 8 [(0, .ref (B + 136)), (1, .int v1), (2, .int v2), (3, .int v3), (4, .int v4), (5, .int v5), (6, .int v6)] → W p l e { frames := 8, cells := 0, slots := 0, locals := 181 } s m args below meth c H locs 0 0 (MQ below (qIw D ct B Hb V) args s 0 0 (AB B)) (F0 m 43 ls []) := by
  intro n0
  induction n0 with
  | zero =>
    intro v1 v2 v3 v4 v5 v6 S H locs ls h hP hS hl
    exact (lp_0 h).elim
  | succ n0 ih0 =>
    intro v1 v2 v3 v4 v5 v6 S H locs ls h hP hS hl
    have h := lp_s h
    exact w_X12_moods_43 l C0 n0 (fun v1 v2 v3 v4 v5 v6 S H locs ls h hP hS hl => ih0 v1 v2 v3 v4 v5 v6 S h hP hS hl) v1 v2 v3 v4 v5 v6 S h hP hS hl
set_option maxRecDepth 100000 in
set_option maxHeartbeats 4000000 in
theorem w_X12_moods_0 (l : Launch) {V : Int32 × St} (C0 : XC D ct p s m args meth c cX12_moods 8 (some .int) RX12) (v1 : Int32) (v2 : Int32) (S : St) {H : Heap} {locs : List Loc} {ls : Array Slot} (h : (b_X12_moods_0 v1 v2 S).bind some = some V) (hP : MP D ct B Hb S H) (hS : va_S (AB B) s.heap H locs) (hl : lv_has ls 8 [(0, .ref (B + 136)), (1, .int v1), (2, .int v2)]) : W p l e { frames := 8, cells := 0, slots := 0, locals := 181 } s m args below meth c H locs 0 0 (MQ below (qIw D ct B Hb V) args s 0 0 (AB B)) (F0 m 0 ls []) := by
  obtain ⟨hx, hb, hr, hml, hown, hts, hK, hlocks, hN⟩ := id C0
  unfold b_X12_moods_0 at h
  refine lv_aload_n hx hb dX12_moods_0 rfl (lv_at hl 0 rfl) ?_
  refine lv_iconst (v := 0) hx hb dX12_moods_1 (by decide) ?_
  obtain ⟨S1, eS1, h⟩ := ob_nm h
  refine x_put (S' := si S 136 28 0) (FS := (fs12 B)) C0 hP hS (fun S => lay_X12 B ct S) rfl inG12 tyX12 tyX12_ok nmX12 28 (by decide) wd_1169 rfl rfl (fun a ha => lay_local (gi_si_n _ _ _ ha) rfl rfl rfl) (put_12_28 B _ _) rfl rfl (Nat.le_of_ble_eq_true rfl) dX12_moods_2 (fun H locs hP hS => ?_)
  rw [← eS1] at hP
  refine lv_aload_n hx hb dX12_moods_5 rfl (lv_at hl 0 rfl) ?_
  refine lv_iload_n hx hb dX12_moods_6 rfl (lv_at hl 1 rfl) ?_
  obtain ⟨r2, hr2, h⟩ := ob_bd h
  refine n_I (kV (As := [.int v1]) C0 (c_X12_isOne l v1 hr2) ⟨wd_1448, wd_1445, wd_1447, wp_37, wd_6⟩ kd_X12_isOne ⟨Nat.le_of_ble_eq_true rfl, Nat.le_of_ble_eq_true rfl⟩ hP (lay_X12 B ct S1) rfl rfl hl.1 rfl (Nat.le_of_ble_eq_true rfl) dX12_moods_7 ⟨Nat.le_of_ble_eq_true rfl, Nat.le_of_ble_eq_true rfl⟩) hS (fun H locs hP hS => ?_)
  refine lv_if_eq (tgt := 23) hx hb dX12_moods_10 (by decide) (fun z3 => ?_) (fun z3 => ?_)
  · have h := ob_t h z3
    refine lv_iconst (v := (-1)) hx hb dX12_moods_23 (by decide) ?_
    exact r_Iw C0 hP hS h dX12_moods_24
  · have h := ob_f h z3
    refine lv_iload_n hx hb dX12_moods_13 rfl (lv_at hl 2 rfl) ?_
    refine lv_i2l hx hb dX12_moods_14 rfl ?_
    refine lv_lconst (v := 0) hx hb dX12_moods_15 (by decide) ?_
    refine lv_lconst (v := 1) hx hb dX12_moods_16 (by decide) ?_
    obtain ⟨r4, hr4, h⟩ := ob_bd h
    refine n_I (kS (As := [.long v2.toInt64, .long 0, .long 1]) C0 (c_X12_in l v2.toInt64 0 1 hr4) ⟨wd_1370, wd_1368, wd_1369, wd_6⟩ kd_X12_in ⟨Nat.le_of_ble_eq_true rfl, Nat.le_of_ble_eq_true rfl⟩ hP rfl hl.1 rfl (Nat.le_of_ble_eq_true rfl) dX12_moods_17 ⟨Nat.le_of_ble_eq_true rfl, Nat.le_of_ble_eq_true rfl⟩) hS (fun H locs hP hS => ?_)
    refine lv_if_ne (tgt := 25) hx hb dX12_moods_20 (by decide) (fun z5 => ?_) (fun z5 => ?_)
    · have h := ob_f h z5
      refine lv_aload_n hx hb dX12_moods_25 rfl (lv_at hl 0 rfl) ?_
      refine x_get C0 hP (lay_X12 B ct S1) rfl inG12 20 (by decide) wd_1161 (fun _ h => h) rfl dX12_moods_26 ?_
      refine lv_iload_n hx hb dX12_moods_29 rfl (lv_at hl 1 rfl) ?_
      obtain ⟨g6, h⟩ := ob_gd h
      refine x_iald C0 hP ((fun S => lay_151 B ct S) S1) g6 dX12_moods_30 ?_
      refine lv_istore_n (lv' := [(3, .int (gi S1 151 v1.toNatClampNeg)), (0, .ref (B + 136)), (1, .int v1), (2, .int v2)]) hx hb dX12_moods_31 rfl hl (by decide) rfl (fun ls hl => ?_)
      refine lv_iconst (v := 0) hx hb dX12_moods_32 (by decide) ?_
      refine lv_istore (lv' := [(4, .int 0), (3, .int (gi S1 151 v1.toNatClampNeg)), (0, .ref (B + 136)), (1, .int v1), (2, .int v2)]) hx hb dX12_moods_33 hl (by decide) rfl (fun ls hl => ?_)
      refine lv_bipush (v := (-4)) hx hb dX12_moods_35 (by decide) ?_
      refine lv_istore (lv' := [(5, .int ((-4))), (4, .int 0), (3, .int (gi S1 151 v1.toNatClampNeg)), (0, .ref (B + 136)), (1, .int v1), (2, .int v2)]) hx hb dX12_moods_37 hl (by decide) rfl (fun ls hl => ?_)
      refine lv_bipush (v := (-9)) hx hb dX12_moods_39 (by decide) ?_
      refine lv_istore (lv' := [(6, .int ((-9))), (5, .int ((-4))), (4, .int 0), (3, .int (gi S1 151 v1.toNatClampNeg)), (0, .ref (B + 136)), (1, .int v1), (2, .int v2)]) hx hb dX12_moods_41 hl (by decide) rfl (fun ls hl => ?_)
      exact wl_X12_moods_43 l C0 1000 v1 v2 (gi S1 151 v1.toNatClampNeg) 0 ((-4)) ((-9)) S1 h hP hS (lv_sub hl [4, 5, 6, 3, 2, 1, 0] rfl)
    · have h := ob_t h z5
      refine lv_iconst (v := (-1)) hx hb dX12_moods_23 (by decide) ?_
      exact r_Iw C0 hP hS h dX12_moods_24
set_option maxRecDepth 100000 in
set_option maxHeartbeats 4000000 in
theorem c_X12_moods (l : Launch) (a1 : Int32) (a2 : Int32) {D : va_G} {ct : Nat → ClassId} {B : Nat} {Hb : Heap} {S : St} {V : Int32 × St} (h : L_X12_moods a1 a2 S = some V) : Met l yX12_moods (Cond.code yX12_moods cX12_moods 8 (some .int) :: tG) { frames := 8, cells := 0, slots := 0, locals := 181 } (va_Pc [.ref (B + 136), .int a1, .int a2] (MPK D ct B Hb S)) (qIw D ct B Hb V) 0 0 (AB B) := by
  refine mk_met (by decide +kernel) (Nat.le_of_ble_eq_true rfl) (fun p e s m args below meth c ls C0 hP hl _ => ?_)
  have h := ob_of h
  exact w_X12_moods_0 l C0 a1 a2 S h hP va_S.rf (lv_sub hl [0, 1, 2] rfl)
set_option maxRecDepth 100000 in
set_option maxHeartbeats 4000000 in
theorem w_X12_divisor_6 (l : Launch) {V : Int64} (C0 : XC D ct p s m args meth c cX12_divisor 10 (some .long) RX12) (v4 : Int64) (v6 : Int64) (S : St) (n0 : Nat) (ih0 : ∀ (v4 : Int64) (v6 : Int64) (H : Heap) (locs : List Loc) (ls : Array Slot), (lp n0 (l_X12_divisor_6 S) (v4, v6)).bind some = some V → MP D ct B Hb S H → va_S (AB B) s.heap H locs → lv_has ls 10 [(4, .long v4), (6, .long v6)] → W p l e { frames := 0, cells := 0, slots := 0, locals := 0 } s m args below meth c H locs 0 0 (MQ below (qL D ct B Hb S V) args s 0 0 (AB B)) (F0 m 6 ls [])) {H : Heap} {locs : List Loc} {ls : Array Slot} (h : (b_X12_divisor_6 v4 v6 S).bind (lpF n0 (l_X12_divisor_6 S) some) = some V) (hP : MP D ct B Hb S H) (hS : va_S (AB B) s.heap H locs) (hl : lv_has ls 10 [(4, .long v4), (6, .long v6)]) : W p l e { frames := 0, cells := 0, slots := 0, locals := 0 } s m args below meth c H locs 0 0 (MQ below (qL D ct B Hb S V) args s 0 0 (AB B)) (F0 m 6 ls []) := by
  obtain ⟨hx, hb, hr, hml, hown, hts, hK, hlocks, hN⟩ := id C0
  unfold b_X12_divisor_6 at h
  refine lv_lload hx hb dX12_divisor_6 (lv_at hl 1 rfl) ?_
  refine lv_lconst (v := 0) hx hb dX12_divisor_8 (by decide) ?_
  refine W.lcmp hx hb dX12_divisor_9 ?_
  refine lv_if_eq (tgt := 31) hx hb dX12_divisor_10 (by decide) (fun z1 => ?_) (fun z1 => ?_)
  · have h := ob_t h z1
    refine lv_lload hx hb dX12_divisor_31 (lv_at hl 0 rfl) ?_
    exact r_L C0 hP hS h dX12_divisor_33
  · have h := ob_f h z1
    refine lv_lload hx hb dX12_divisor_13 (lv_at hl 0 rfl) ?_
    refine lv_lload hx hb dX12_divisor_15 (lv_at hl 1 rfl) ?_
    obtain ⟨g2, h⟩ := ob_gd h
    refine lv_lrem hx hb dX12_divisor_17 (by simpa using g2) ?_
    refine lv_lstore (lv' := [(8, .long (v4 - v4 / v6 * v6)), (4, .long v4), (6, .long v6)]) hx hb dX12_divisor_18 hl (by decide) rfl (fun ls hl => ?_)
    refine lv_lload hx hb dX12_divisor_20 (lv_at hl 2 rfl) ?_
    refine lv_lstore (lv' := [(4, .long v6), (8, .long (v4 - v4 / v6 * v6)), (6, .long v6)]) hx hb dX12_divisor_22 hl (by decide) rfl (fun ls hl => ?_)
    refine lv_lload hx hb dX12_divisor_24 (lv_at hl 1 rfl) ?_
    refine lv_lstore (lv' := [(6, .long (v4 - v4 / v6 * v6)), (4, .long v6), (8, .long (v4 - v4 / v6 * v6))]) hx hb dX12_divisor_26 hl (by decide) rfl (fun ls hl => ?_)
    refine lv_goto (tgt := 6) hx hb dX12_divisor_28 (by decide) ?_
    exact ih0 v6 (v4 - v4 / v6 * v6) _ _ _ h hP hS (lv_sub hl [1, 0] rfl)
set_option maxRecDepth 100000 in
set_option maxHeartbeats 4000000 in
theorem wl_X12_divisor_6 (l : Launch) {V : Int64} (C0 : XC D ct p s m args meth c cX12_divisor 10 (some .long) RX12) (S : St)  : ∀ (n0 : Nat) (v4 : Int64) (v6 : Int64) {H : Heap} {locs : List Loc} {ls : Array Slot}, (lp n0 (l_X12_divisor_6 S) (v4, v6)).bind some = some V → MP D ct B Hb S H → va_S (AB B) s.heap H locs → lv_has ls 10 [(4, .long v4), (6, .long v6)] → W p l e { frames := 0, cells := 0, slots := 0, locals := 0 } s m args below meth c H locs 0 0 (MQ below (qL D ct B Hb S V) args s 0 0 (AB B)) (F0 m 6 ls []) := by
  intro n0
  induction n0 with
  | zero =>
    intro v4 v6 H locs ls h hP hS hl
    exact (lp_0 h).elim
  | succ n0 ih0 =>
    intro v4 v6 H locs ls h hP hS hl
    have h := lp_s h
    exact w_X12_divisor_6 l C0 v4 v6 S n0 (fun v4 v6 H locs ls h hP hS hl => ih0 v4 v6 h hP hS hl) h hP hS hl
set_option maxRecDepth 100000 in
set_option maxHeartbeats 4000000 in
theorem w_X12_divisor_0 (l : Launch) {V : Int64} (C0 : XC D ct p s m args meth c cX12_divisor 10 (some .long) RX12) (v0 : Int64) (v2 : Int64) (S : St) {H : Heap} {locs : List Loc} {ls : Array Slot} (h : (b_X12_divisor_0 v0 v2 S).bind some = some V) (hP : MP D ct B Hb S H) (hS : va_S (AB B) s.heap H locs) (hl : lv_has ls 10 [(0, .long v0), (2, .long v2)]) : W p l e { frames := 0, cells := 0, slots := 0, locals := 0 } s m args below meth c H locs 0 0 (MQ below (qL D ct B Hb S V) args s 0 0 (AB B)) (F0 m 0 ls []) := by
  obtain ⟨hx, hb, hr, hml, hown, hts, hK, hlocks, hN⟩ := id C0
  unfold b_X12_divisor_0 at h
  refine lv_lload_n hx hb dX12_divisor_0 rfl (lv_at hl 0 rfl) ?_
  refine lv_lstore (lv' := [(4, .long v0), (0, .long v0), (2, .long v2)]) hx hb dX12_divisor_1 hl (by decide) rfl (fun ls hl => ?_)
  refine lv_lload_n hx hb dX12_divisor_3 rfl (lv_at hl 2 rfl) ?_
  refine lv_lstore (lv' := [(6, .long v2), (4, .long v0), (0, .long v0), (2, .long v2)]) hx hb dX12_divisor_4 hl (by decide) rfl (fun ls hl => ?_)
  exact wl_X12_divisor_6 l C0 S 1000 v0 v2 h hP hS (lv_sub hl [1, 0] rfl)
set_option maxRecDepth 100000 in
set_option maxHeartbeats 4000000 in
theorem c_X12_divisor (l : Launch) (a0 : Int64) (a2 : Int64) {D : va_G} {ct : Nat → ClassId} {B : Nat} {Hb : Heap} {S : St} {V : Int64} (h : L_X12_divisor a0 a2 S = some V) : Met l yX12_divisor (Cond.code yX12_divisor cX12_divisor 10 (some .long) :: tG) { frames := 0, cells := 0, slots := 0, locals := 0 } (va_Pc [.long a0, .long a2] (MPK D ct B Hb S)) (qL D ct B Hb S V) 0 0 (AB B) := by
  refine mk_met (by decide +kernel) (Nat.le_of_ble_eq_true rfl) (fun p e s m args below meth c ls C0 hP hl _ => ?_)
  have h := ob_of h
  exact w_X12_divisor_0 l C0 a0 a2 S h hP va_S.rf (lv_sub hl [0, 1] rfl)
set_option maxRecDepth 100000 in
set_option maxHeartbeats 4000000 in
theorem w_X12_partOf_0 (l : Launch) {V : Int64} (C0 : XC D ct p s m args meth c cX12_partOf 7 (some .long) RX12) (v0 : Int64) (v2 : Int64) (v4 : Int32) (S : St) {H : Heap} {locs : List Loc} {ls : Array Slot} (h : (b_X12_partOf_0 v0 v2 v4 S).bind some = some V) (hP : MP D ct B Hb S H) (hS : va_S (AB B) s.heap H locs) (hl : lv_has ls 7 [(0, .long v0), (2, .long v2), (4, .int v4)]) : W p l e { frames := 1, cells := 0, slots := 0, locals := 29 } s m args below meth c H locs 0 0 (MQ below (qL D ct B Hb S V) args s 0 0 (AB B)) (F0 m 0 ls []) := by
  obtain ⟨hx, hb, hr, hml, hown, hts, hK, hlocks, hN⟩ := id C0
  unfold b_X12_partOf_0 at h
  refine lv_lload_n hx hb dX12_partOf_0 rfl (lv_at hl 0 rfl) ?_
  refine lv_lconst (v := 0) hx hb dX12_partOf_1 (by decide) ?_
  refine W.lcmp hx hb dX12_partOf_2 ?_
  refine lv_if_ne (tgt := 10) hx hb dX12_partOf_3 (by decide) (fun z1 => ?_) (fun z1 => ?_)
  · have h := ob_f h z1
    refine lv_lload_n hx hb dX12_partOf_10 rfl (lv_at hl 0 rfl) ?_
    refine lv_lload_n hx hb dX12_partOf_11 rfl (lv_at hl 1 rfl) ?_
    obtain ⟨r2, hr2, h⟩ := ob_bd h
    refine n_L (kS (As := [.long v0, .long v2]) C0 (c_X12_divisor l v0 v2 hr2) ⟨wd_1655, wd_1653, wd_1654, wd_6⟩ kd_X12_divisor ⟨Nat.le_of_ble_eq_true rfl, Nat.le_of_ble_eq_true rfl⟩ hP rfl hl.1 rfl (Nat.le_of_ble_eq_true rfl) dX12_partOf_12 ⟨Nat.le_of_ble_eq_true rfl, Nat.le_of_ble_eq_true rfl⟩) hS (fun H locs hP hS => ?_)
    refine lv_lstore (lv' := [(5, .long r2), (0, .long v0), (2, .long v2), (4, .int v4)]) hx hb dX12_partOf_15 hl (by decide) rfl (fun ls hl => ?_)
    refine lv_iload hx hb dX12_partOf_17 (lv_at hl 3 rfl) ?_
    refine lv_if_ne (tgt := 29) hx hb dX12_partOf_19 (by decide) (fun z3 => ?_) (fun z3 => ?_)
    · have h := ob_f h z3
      refine lv_lload_n hx hb dX12_partOf_29 rfl (lv_at hl 2 rfl) ?_
      refine lv_lload hx hb dX12_partOf_30 (lv_at hl 0 rfl) ?_
      obtain ⟨g4, h⟩ := ob_gd h
      refine lv_ldiv hx hb dX12_partOf_32 (by simpa using g4) ?_
      exact r_L C0 hP hS h dX12_partOf_33
    · have h := ob_t h z3
      refine lv_lload_n hx hb dX12_partOf_22 rfl (lv_at hl 1 rfl) ?_
      refine lv_lload hx hb dX12_partOf_23 (lv_at hl 0 rfl) ?_
      obtain ⟨g5, h⟩ := ob_gd h
      refine lv_ldiv hx hb dX12_partOf_25 (by simpa using g5) ?_
      refine lv_goto (tgt := 33) hx hb dX12_partOf_26 (by decide) ?_
      exact r_L C0 hP hS h dX12_partOf_33
  · have h := ob_t h z1
    refine lv_iload hx hb dX12_partOf_6 (lv_at hl 2 rfl) ?_
    refine lv_i2l hx hb dX12_partOf_8 rfl ?_
    exact r_L C0 hP hS h dX12_partOf_9
set_option maxRecDepth 100000 in
set_option maxHeartbeats 4000000 in
theorem c_X12_partOf (l : Launch) (a0 : Int64) (a2 : Int64) (a4 : Int32) {D : va_G} {ct : Nat → ClassId} {B : Nat} {Hb : Heap} {S : St} {V : Int64} (h : L_X12_partOf a0 a2 a4 S = some V) : Met l yX12_partOf (Cond.code yX12_partOf cX12_partOf 7 (some .long) :: tG) { frames := 1, cells := 0, slots := 0, locals := 29 } (va_Pc [.long a0, .long a2, .int a4] (MPK D ct B Hb S)) (qL D ct B Hb S V) 0 0 (AB B) := by
  refine mk_met (by decide +kernel) (Nat.le_of_ble_eq_true rfl) (fun p e s m args below meth c ls C0 hP hl _ => ?_)
  have h := ob_of h
  exact w_X12_partOf_0 l C0 a0 a2 a4 S h hP va_S.rf (lv_sub hl [0, 1, 2] rfl)
set_option maxRecDepth 100000 in
set_option maxHeartbeats 4000000 in
theorem w_X12_likelyPart_155 (l : Launch) {V : Int64 × St} (C0 : XC D ct p s m args meth c cX12_likelyPart 11 (some .long) RX12) (n0 : Nat) (ih0 : ∀ (v1 : Int32) (v2 : Int32) (v3 : Int64) (v5 : Int64) (v7 : Int32) (S : St) (H : Heap) (locs : List Loc) (ls : Array Slot), (lp n0 (l_X12_likelyPart_34) (v1, v2, v3, v5, v7, S)).bind some = some V → MP D ct B Hb S H → va_S (AB B) s.heap H locs → lv_has ls 11 [(0, .ref (B + 136)), (1, .int v1), (2, .int v2), (3, .long v3), (5, .long v5), (7, .int v7)] → W p l e { frames := 7, cells := 0, slots := 0, locals := 160 } s m args below meth c H locs 0 0 (MQ below (qLw D ct B Hb V) args s 0 0 (AB B)) (F0 m 34 ls [])) (v1 : Int32) (v2 : Int32) (v3 : Int64) (v5 : Int64) (v7 : Int32) (S : St) {H : Heap} {locs : List Loc} {ls : Array Slot} (h : (b_X12_likelyPart_155 v1 v2 v3 v5 v7 S).bind (lpF n0 (l_X12_likelyPart_34) some) = some V) (hP : MP D ct B Hb S H) (hS : va_S (AB B) s.heap H locs) (hl : lv_has ls 11 [(0, .ref (B + 136)), (1, .int v1), (2, .int v2), (3, .long v3), (5, .long v5), (7, .int v7)]) : W p l e { frames := 7, cells := 0, slots := 0, locals := 160 } s m args below meth c H locs 0 0 (MQ below (qLw D ct B Hb V) args s 0 0 (AB B)) (F0 m 155 ls []) := by
  obtain ⟨hx, hb, hr, hml, hown, hts, hK, hlocks, hN⟩ := id C0
  unfold b_X12_likelyPart_155 at h
  refine lv_iinc (v := v7 + 1) (lv' := [(7, .int (v7 + 1)), (0, .ref (B + 136)), (1, .int v1), (2, .int v2), (3, .long v3), (5, .long v5)]) hx hb dX12_likelyPart_155 hl (k := 5) rfl rfl (by decide) rfl (fun ls hl => ?_)
  refine lv_goto (tgt := 34) hx hb dX12_likelyPart_158 (by decide) ?_
  exact ih0 v1 v2 v3 v5 (v7 + 1) S _ _ _ h hP hS (lv_sub hl [1, 2, 3, 4, 5, 0] rfl)
set_option maxRecDepth 100000 in
set_option maxHeartbeats 4000000 in
theorem w_X12_likelyPart_151 (l : Launch) {V : Int64 × St} (C0 : XC D ct p s m args meth c cX12_likelyPart 11 (some .long) RX12) (n0 : Nat) (ih0 : ∀ (v1 : Int32) (v2 : Int32) (v3 : Int64) (v5 : Int64) (v7 : Int32) (S : St) (H : Heap) (locs : List Loc) (ls : Array Slot), (lp n0 (l_X12_likelyPart_34) (v1, v2, v3, v5, v7, S)).bind some = some V → MP D ct B Hb S H → va_S (AB B) s.heap H locs → lv_has ls 11 [(0, .ref (B + 136)), (1, .int v1), (2, .int v2), (3, .long v3), (5, .long v5), (7, .int v7)] → W p l e { frames := 7, cells := 0, slots := 0, locals := 160 } s m args below meth c H locs 0 0 (MQ below (qLw D ct B Hb V) args s 0 0 (AB B)) (F0 m 34 ls [])) (v1 : Int32) (v2 : Int32) (v5 : Int64) (v7 : Int32) (s0 : Int32) (s1 : Int64) (s2 : Int64) (S : St) {H : Heap} {locs : List Loc} {ls : Array Slot} (h : (b_X12_likelyPart_151 v1 v2 v5 v7 s0 s1 s2 S).bind (lpF n0 (l_X12_likelyPart_34) some) = some V) (hP : MP D ct B Hb S H) (hS : va_S (AB B) s.heap H locs) (hl : lv_has ls 11 [(0, .ref (B + 136)), (1, .int v1), (2, .int v2), (5, .long v5), (7, .int v7)]) : W p l e { frames := 7, cells := 0, slots := 0, locals := 160 } s m args below meth c H locs 0 0 (MQ below (qLw D ct B Hb V) args s 0 0 (AB B)) (F0 m 151 ls [.int s0, .long s1, .long s2]) := by
  obtain ⟨hx, hb, hr, hml, hown, hts, hK, hlocks, hN⟩ := id C0
  unfold b_X12_likelyPart_151 at h
  refine lv_i2l hx hb dX12_likelyPart_151 rfl ?_
  refine lv_lmul hx hb dX12_likelyPart_152 ?_
  refine lv_ladd hx hb dX12_likelyPart_153 ?_
  refine lv_lstore_n (lv' := [(3, .long (s2 + (s1 * s0.toInt64))), (0, .ref (B + 136)), (1, .int v1), (2, .int v2), (5, .long v5), (7, .int v7)]) hx hb dX12_likelyPart_154 rfl hl (by decide) rfl (fun ls hl => ?_)
  exact w_X12_likelyPart_155 l C0 n0 ih0 v1 v2 (s2 + (s1 * s0.toInt64)) v5 v7 S h hP hS (lv_sub hl [1, 2, 3, 0, 4, 5] rfl)
set_option maxRecDepth 100000 in
set_option maxHeartbeats 4000000 in
theorem w_X12_likelyPart_104 (l : Launch) {V : Int64 × St} (C0 : XC D ct p s m args meth c cX12_likelyPart 11 (some .long) RX12) (n0 : Nat) (ih0 : ∀ (v1 : Int32) (v2 : Int32) (v3 : Int64) (v5 : Int64) (v7 : Int32) (S : St) (H : Heap) (locs : List Loc) (ls : Array Slot), (lp n0 (l_X12_likelyPart_34) (v1, v2, v3, v5, v7, S)).bind some = some V → MP D ct B Hb S H → va_S (AB B) s.heap H locs → lv_has ls 11 [(0, .ref (B + 136)), (1, .int v1), (2, .int v2), (3, .long v3), (5, .long v5), (7, .int v7)] → W p l e { frames := 7, cells := 0, slots := 0, locals := 160 } s m args below meth c H locs 0 0 (MQ below (qLw D ct B Hb V) args s 0 0 (AB B)) (F0 m 34 ls [])) (v1 : Int32) (v2 : Int32) (v3 : Int64) (v5 : Int64) (v7 : Int32) (v8 : Int64) (S : St) {H : Heap} {locs : List Loc} {ls : Array Slot} (h : (b_X12_likelyPart_104 v1 v2 v3 v5 v7 v8 S).bind (lpF n0 (l_X12_likelyPart_34) some) = some V) (hP : MP D ct B Hb S H) (hS : va_S (AB B) s.heap H locs) (hl : lv_has ls 11 [(0, .ref (B + 136)), (1, .int v1), (2, .int v2), (3, .long v3), (5, .long v5), (7, .int v7), (8, .long v8)]) : W p l e { frames := 7, cells := 0, slots := 0, locals := 160 } s m args below meth c H locs 0 0 (MQ below (qLw D ct B Hb V) args s 0 0 (AB B)) (F0 m 104 ls []) := by
  obtain ⟨hx, hb, hr, hml, hown, hts, hK, hlocks, hN⟩ := id C0
  unfold b_X12_likelyPart_104 at h
  refine lv_lload hx hb dX12_likelyPart_104 (lv_at hl 6 rfl) ?_
  refine lv_lconst (v := 0) hx hb dX12_likelyPart_106 (by decide) ?_
  refine W.lcmp hx hb dX12_likelyPart_107 ?_
  refine lv_if_le (tgt := 155) hx hb dX12_likelyPart_108 (by decide) (fun z1 => ?_) (fun z1 => ?_)
  · have h := ob_t h z1
    exact w_X12_likelyPart_155 l C0 n0 ih0 v1 v2 v3 v5 v7 S h hP hS (lv_sub hl [0, 1, 2, 3, 4, 5] rfl)
  · have h := ob_f h z1
    refine lv_aload_n hx hb dX12_likelyPart_111 rfl (lv_at hl 0 rfl) ?_
    refine lv_iload hx hb dX12_likelyPart_112 (lv_at hl 5 rfl) ?_
    obtain ⟨S2, eS2, h⟩ := ob_nm h
    refine x_put (S' := si S 136 29 v7) (FS := (fs12 B)) C0 hP hS (fun S => lay_X12 B ct S) rfl inG12 tyX12 tyX12_ok nmX12 29 (by decide) wd_1170 rfl rfl (fun a ha => lay_local (gi_si_n _ _ _ ha) rfl rfl rfl) (put_12_29 B _ _) rfl rfl (Nat.le_of_ble_eq_true rfl) dX12_likelyPart_114 (fun H locs hP hS => ?_)
    rw [← eS2] at hP
    refine lv_aload_n hx hb dX12_likelyPart_117 rfl (lv_at hl 0 rfl) ?_
    obtain ⟨r3, hr3, h⟩ := ob_bd h
    refine n_Vw (kV (As := []) C0 (c_X12_day l hr3) ⟨wd_1539, wd_1536, wd_1538, wp_43, wd_6⟩ kd_X12_day ⟨Nat.le_of_ble_eq_true rfl, Nat.le_of_ble_eq_true rfl⟩ hP (lay_X12 B ct S2) rfl rfl hl.1 rfl (Nat.le_of_ble_eq_true rfl) dX12_likelyPart_118 ⟨Nat.le_of_ble_eq_true rfl, Nat.le_of_ble_eq_true rfl⟩) hS (fun H locs hP hS => ?_)
    refine lv_lload_n hx hb dX12_likelyPart_121 rfl (lv_at hl 3 rfl) ?_
    refine lv_lload hx hb dX12_likelyPart_122 (lv_at hl 6 rfl) ?_
    refine lv_iload_n hx hb dX12_likelyPart_124 rfl (lv_at hl 1 rfl) ?_
    refine lv_if_ge (tgt := 136) hx hb dX12_likelyPart_125 (by decide) (fun z4 => ?_) (fun z4 => ?_)
    · have h := ob_t h z4
      refine lv_aload_n hx hb dX12_likelyPart_136 rfl (lv_at hl 0 rfl) ?_
      refine x_get C0 hP (lay_X12 B ct r3) rfl inG12 32 (by decide) wd_1173 (fun _ h => h) rfl dX12_likelyPart_137 ?_
      refine lv_iload_n hx hb dX12_likelyPart_140 rfl (lv_at hl 1 rfl) ?_
      obtain ⟨g5, h⟩ := ob_gd h
      refine x_iald C0 hP ((fun S => lay_160 B ct S) r3) g5 dX12_likelyPart_141 ?_
      refine lv_iconst (v := 1) hx hb dX12_likelyPart_142 (by decide) ?_
      refine lv_icmp_ne (tgt := 150) hx hb dX12_likelyPart_143 (by decide) (fun z6 => ?_) (fun z6 => ?_)
      · have h := ob_f h z6
        refine lv_iconst (v := 0) hx hb dX12_likelyPart_150 (by decide) ?_
        exact w_X12_likelyPart_151 l C0 n0 ih0 v1 v2 v5 v7 0 v8 v3 r3 h hP hS (lv_sub hl [0, 1, 2, 4, 5] rfl)
      · have h := ob_t h z6
        refine lv_iconst (v := 1) hx hb dX12_likelyPart_146 (by decide) ?_
        refine lv_goto (tgt := 151) hx hb dX12_likelyPart_147 (by decide) ?_
        exact w_X12_likelyPart_151 l C0 n0 ih0 v1 v2 v5 v7 1 v8 v3 r3 h hP hS (lv_sub hl [0, 1, 2, 4, 5] rfl)
    · have h := ob_f h z4
      refine lv_aload_n hx hb dX12_likelyPart_128 rfl (lv_at hl 0 rfl) ?_
      refine lv_iconst (v := 1) hx hb dX12_likelyPart_129 (by decide) ?_
      obtain ⟨r7, hr7, h⟩ := ob_bd h
      refine n_I (kV (As := [.int 1]) C0 (c_X12_chose l 1 hr7) ⟨wd_1597, wd_1594, wd_1596, wp_54, wd_6⟩ kd_X12_chose ⟨Nat.le_of_ble_eq_true rfl, Nat.le_of_ble_eq_true rfl⟩ hP (lay_X12 B ct r3) rfl rfl hl.1 rfl (Nat.le_of_ble_eq_true rfl) dX12_likelyPart_130 ⟨Nat.le_of_ble_eq_true rfl, Nat.le_of_ble_eq_true rfl⟩) hS (fun H locs hP hS => ?_)
      refine lv_goto (tgt := 151) hx hb dX12_likelyPart_133 (by decide) ?_
      exact w_X12_likelyPart_151 l C0 n0 ih0 v1 v2 v5 v7 r7 v8 v3 r3 h hP hS (lv_sub hl [0, 1, 2, 4, 5] rfl)
set_option maxRecDepth 100000 in
set_option maxHeartbeats 4000000 in
theorem w_X12_likelyPart_95 (l : Launch) {V : Int64 × St} (C0 : XC D ct p s m args meth c cX12_likelyPart 11 (some .long) RX12) (n0 : Nat) (ih0 : ∀ (v1 : Int32) (v2 : Int32) (v3 : Int64) (v5 : Int64) (v7 : Int32) (S : St) (H : Heap) (locs : List Loc) (ls : Array Slot), (lp n0 (l_X12_likelyPart_34) (v1, v2, v3, v5, v7, S)).bind some = some V → MP D ct B Hb S H → va_S (AB B) s.heap H locs → lv_has ls 11 [(0, .ref (B + 136)), (1, .int v1), (2, .int v2), (3, .long v3), (5, .long v5), (7, .int v7)] → W p l e { frames := 7, cells := 0, slots := 0, locals := 160 } s m args below meth c H locs 0 0 (MQ below (qLw D ct B Hb V) args s 0 0 (AB B)) (F0 m 34 ls [])) (n1 : Nat) (ih1 : ∀ (v1 : Int32) (v2 : Int32) (v3 : Int64) (v5 : Int64) (v7 : Int32) (v8 : Int64) (v10 : Int32) (S : St) (H : Heap) (locs : List Loc) (ls : Array Slot), (lp n1 (l_X12_likelyPart_51) (v1, v2, v3, v5, v7, v8, v10, S)).bind (lpF n0 (l_X12_likelyPart_34) some) = some V → MP D ct B Hb S H → va_S (AB B) s.heap H locs → lv_has ls 11 [(0, .ref (B + 136)), (1, .int v1), (2, .int v2), (3, .long v3), (5, .long v5), (7, .int v7), (8, .long v8), (10, .int v10)] → W p l e { frames := 7, cells := 0, slots := 0, locals := 160 } s m args below meth c H locs 0 0 (MQ below (qLw D ct B Hb V) args s 0 0 (AB B)) (F0 m 51 ls [])) (v1 : Int32) (v2 : Int32) (v3 : Int64) (v5 : Int64) (v7 : Int32) (v10 : Int32) (s0 : Int64) (s1 : Int64) (S : St) {H : Heap} {locs : List Loc} {ls : Array Slot} (h : (b_X12_likelyPart_95 v1 v2 v3 v5 v7 v10 s0 s1 S).bind (lpF n1 (l_X12_likelyPart_51) (lpF n0 (l_X12_likelyPart_34) some)) = some V) (hP : MP D ct B Hb S H) (hS : va_S (AB B) s.heap H locs) (hl : lv_has ls 11 [(0, .ref (B + 136)), (1, .int v1), (2, .int v2), (3, .long v3), (5, .long v5), (7, .int v7), (10, .int v10)]) : W p l e { frames := 7, cells := 0, slots := 0, locals := 160 } s m args below meth c H locs 0 0 (MQ below (qLw D ct B Hb V) args s 0 0 (AB B)) (F0 m 95 ls [.long s0, .long s1]) := by
  obtain ⟨hx, hb, hr, hml, hown, hts, hK, hlocks, hN⟩ := id C0
  unfold b_X12_likelyPart_95 at h
  refine lv_lmul hx hb dX12_likelyPart_95 ?_
  refine lv_lstore (lv' := [(8, .long (s1 * s0)), (0, .ref (B + 136)), (1, .int v1), (2, .int v2), (3, .long v3), (5, .long v5), (7, .int v7), (10, .int v10)]) hx hb dX12_likelyPart_96 hl (by decide) rfl (fun ls hl => ?_)
  refine lv_iinc (v := v10 + 1) (lv' := [(10, .int (v10 + 1)), (8, .long (s1 * s0)), (0, .ref (B + 136)), (1, .int v1), (2, .int v2), (3, .long v3), (5, .long v5), (7, .int v7)]) hx hb dX12_likelyPart_98 hl (k := 7) rfl rfl (by decide) rfl (fun ls hl => ?_)
  refine lv_goto (tgt := 51) hx hb dX12_likelyPart_101 (by decide) ?_
  exact ih1 v1 v2 v3 v5 v7 (s1 * s0) (v10 + 1) S _ _ _ h hP hS (lv_sub hl [2, 3, 4, 5, 6, 7, 1, 0] rfl)
set_option maxRecDepth 100000 in
set_option maxHeartbeats 4000000 in
theorem w_X12_likelyPart_51 (l : Launch) {V : Int64 × St} (C0 : XC D ct p s m args meth c cX12_likelyPart 11 (some .long) RX12) (n0 : Nat) (ih0 : ∀ (v1 : Int32) (v2 : Int32) (v3 : Int64) (v5 : Int64) (v7 : Int32) (S : St) (H : Heap) (locs : List Loc) (ls : Array Slot), (lp n0 (l_X12_likelyPart_34) (v1, v2, v3, v5, v7, S)).bind some = some V → MP D ct B Hb S H → va_S (AB B) s.heap H locs → lv_has ls 11 [(0, .ref (B + 136)), (1, .int v1), (2, .int v2), (3, .long v3), (5, .long v5), (7, .int v7)] → W p l e { frames := 7, cells := 0, slots := 0, locals := 160 } s m args below meth c H locs 0 0 (MQ below (qLw D ct B Hb V) args s 0 0 (AB B)) (F0 m 34 ls [])) (n1 : Nat) (ih1 : ∀ (v1 : Int32) (v2 : Int32) (v3 : Int64) (v5 : Int64) (v7 : Int32) (v8 : Int64) (v10 : Int32) (S : St) (H : Heap) (locs : List Loc) (ls : Array Slot), (lp n1 (l_X12_likelyPart_51) (v1, v2, v3, v5, v7, v8, v10, S)).bind (lpF n0 (l_X12_likelyPart_34) some) = some V → MP D ct B Hb S H → va_S (AB B) s.heap H locs → lv_has ls 11 [(0, .ref (B + 136)), (1, .int v1), (2, .int v2), (3, .long v3), (5, .long v5), (7, .int v7), (8, .long v8), (10, .int v10)] → W p l e { frames := 7, cells := 0, slots := 0, locals := 160 } s m args below meth c H locs 0 0 (MQ below (qLw D ct B Hb V) args s 0 0 (AB B)) (F0 m 51 ls [])) (v1 : Int32) (v2 : Int32) (v3 : Int64) (v5 : Int64) (v7 : Int32) (v8 : Int64) (v10 : Int32) (S : St) {H : Heap} {locs : List Loc} {ls : Array Slot} (h : (b_X12_likelyPart_51 v1 v2 v3 v5 v7 v8 v10 S).bind (lpF n1 (l_X12_likelyPart_51) (lpF n0 (l_X12_likelyPart_34) some)) = some V) (hP : MP D ct B Hb S H) (hS : va_S (AB B) s.heap H locs) (hl : lv_has ls 11 [(0, .ref (B + 136)), (1, .int v1), (2, .int v2), (3, .long v3), (5, .long v5), (7, .int v7), (8, .long v8), (10, .int v10)]) : W p l e { frames := 7, cells := 0, slots := 0, locals := 160 } s m args below meth c H locs 0 0 (MQ below (qLw D ct B Hb V) args s 0 0 (AB B)) (F0 m 51 ls []) := by
  obtain ⟨hx, hb, hr, hml, hown, hts, hK, hlocks, hN⟩ := id C0
  unfold b_X12_likelyPart_51 at h
  refine lv_iload hx hb dX12_likelyPart_51 (lv_at hl 7 rfl) ?_
  refine lv_aload_n hx hb dX12_likelyPart_53 rfl (lv_at hl 0 rfl) ?_
  refine x_get C0 hP (lay_X12 B ct S) rfl inG12 1 (by decide) wd_1142 (fun _ h => h) rfl dX12_likelyPart_54 ?_
  refine lv_icmp_ge (tgt := 104) hx hb dX12_likelyPart_57 (by decide) (fun z1 => ?_) (fun z1 => ?_)
  · have h := ob_t h z1
    have h := ob_mp h
    exact w_X12_likelyPart_104 l C0 n0 ih0 v1 v2 v3 v5 v7 v8 S h hP hS (lv_sub hl [0, 1, 2, 3, 4, 5, 6] rfl)
  · have h := ob_f h z1
    refine lv_lload hx hb dX12_likelyPart_60 (lv_at hl 6 rfl) ?_
    refine lv_iload hx hb dX12_likelyPart_62 (lv_at hl 5 rfl) ?_
    refine lv_iload hx hb dX12_likelyPart_64 (lv_at hl 7 rfl) ?_
    refine lv_ishr hx hb dX12_likelyPart_66 ?_
    refine lv_iconst (v := 1) hx hb dX12_likelyPart_67 (by decide) ?_
    refine lv_iand hx hb dX12_likelyPart_68 ?_
    refine lv_iconst (v := 1) hx hb dX12_likelyPart_69 (by decide) ?_
    refine lv_icmp_ne (tgt := 84) hx hb dX12_likelyPart_70 (by decide) (fun z2 => ?_) (fun z2 => ?_)
    · have h := ob_f h z2
      refine lv_bipush (v := 10) hx hb dX12_likelyPart_84 (by decide) ?_
      refine lv_aload_n hx hb dX12_likelyPart_86 rfl (lv_at hl 0 rfl) ?_
      refine x_get C0 hP (lay_X12 B ct S) rfl inG12 5 (by decide) wd_1146 (fun _ h => h) rfl dX12_likelyPart_87 ?_
      refine lv_iload hx hb dX12_likelyPart_90 (lv_at hl 7 rfl) ?_
      obtain ⟨g3, h⟩ := ob_gd h
      refine x_iald C0 hP ((fun S => lay_141 B ct S) S) g3 dX12_likelyPart_92 ?_
      refine lv_isub hx hb dX12_likelyPart_93 ?_
      refine lv_i2l hx hb dX12_likelyPart_94 rfl ?_
      exact w_X12_likelyPart_95 l C0 n0 ih0 n1 ih1 v1 v2 v3 v5 v7 v10 ((10 - (gi S 141 v10.toNatClampNeg)).toInt64) v8 S h hP hS (lv_sub hl [0, 1, 2, 3, 4, 5, 7] rfl)
    · have h := ob_t h z2
      refine lv_aload_n hx hb dX12_likelyPart_73 rfl (lv_at hl 0 rfl) ?_
      refine x_get C0 hP (lay_X12 B ct S) rfl inG12 5 (by decide) wd_1146 (fun _ h => h) rfl dX12_likelyPart_74 ?_
      refine lv_iload hx hb dX12_likelyPart_77 (lv_at hl 7 rfl) ?_
      obtain ⟨g4, h⟩ := ob_gd h
      refine x_iald C0 hP ((fun S => lay_141 B ct S) S) g4 dX12_likelyPart_79 ?_
      refine lv_i2l hx hb dX12_likelyPart_80 rfl ?_
      refine lv_goto (tgt := 95) hx hb dX12_likelyPart_81 (by decide) ?_
      exact w_X12_likelyPart_95 l C0 n0 ih0 n1 ih1 v1 v2 v3 v5 v7 v10 ((gi S 141 v10.toNatClampNeg).toInt64) v8 S h hP hS (lv_sub hl [0, 1, 2, 3, 4, 5, 7] rfl)
set_option maxRecDepth 100000 in
set_option maxHeartbeats 4000000 in
theorem wl_X12_likelyPart_51 (l : Launch) {V : Int64 × St} (C0 : XC D ct p s m args meth c cX12_likelyPart 11 (some .long) RX12) (n0 : Nat) (ih0 : ∀ (v1 : Int32) (v2 : Int32) (v3 : Int64) (v5 : Int64) (v7 : Int32) (S : St) (H : Heap) (locs : List Loc) (ls : Array Slot), (lp n0 (l_X12_likelyPart_34) (v1, v2, v3, v5, v7, S)).bind some = some V → MP D ct B Hb S H → va_S (AB B) s.heap H locs → lv_has ls 11 [(0, .ref (B + 136)), (1, .int v1), (2, .int v2), (3, .long v3), (5, .long v5), (7, .int v7)] → W p l e { frames := 7, cells := 0, slots := 0, locals := 160 } s m args below meth c H locs 0 0 (MQ below (qLw D ct B Hb V) args s 0 0 (AB B)) (F0 m 34 ls []))  : ∀ (n1 : Nat) (v1 : Int32) (v2 : Int32) (v3 : Int64) (v5 : Int64) (v7 : Int32) (v8 : Int64) (v10 : Int32) (S : St) {H : Heap} {locs : List Loc} {ls : Array Slot}, (lp n1 (l_X12_likelyPart_51) (v1, v2, v3, v5, v7, v8, v10, S)).bind (lpF n0 (l_X12_likelyPart_34) some) = some V → MP D ct B Hb S H → va_S (AB B) s.heap H locs → lv_has ls 11 [(0, .ref (B + 136)), (1, .int v1), (2, .int v2), (3, .long v3), (5, .long v5), (7, .int v7), (8, .long v8), (10, .int v10)] → W p l e { frames := 7, cells := 0, slots := 0, locals := 160 } s m args below meth c H locs 0 0 (MQ below (qLw D ct B Hb V) args s 0 0 (AB B)) (F0 m 51 ls []) := by
  intro n1
  induction n1 with
  | zero =>
    intro v1 v2 v3 v5 v7 v8 v10 S H locs ls h hP hS hl
    exact (lp_0 h).elim
  | succ n1 ih1 =>
    intro v1 v2 v3 v5 v7 v8 v10 S H locs ls h hP hS hl
    have h := lp_s h
    exact w_X12_likelyPart_51 l C0 n0 ih0 n1 (fun v1 v2 v3 v5 v7 v8 v10 S H locs ls h hP hS hl => ih1 v1 v2 v3 v5 v7 v8 v10 S h hP hS hl) v1 v2 v3 v5 v7 v8 v10 S h hP hS hl
set_option maxRecDepth 100000 in
set_option maxHeartbeats 4000000 in
theorem w_X12_likelyPart_34 (l : Launch) {V : Int64 × St} (C0 : XC D ct p s m args meth c cX12_likelyPart 11 (some .long) RX12) (n0 : Nat) (ih0 : ∀ (v1 : Int32) (v2 : Int32) (v3 : Int64) (v5 : Int64) (v7 : Int32) (S : St) (H : Heap) (locs : List Loc) (ls : Array Slot), (lp n0 (l_X12_likelyPart_34) (v1, v2, v3, v5, v7, S)).bind some = some V → MP D ct B Hb S H → va_S (AB B) s.heap H locs → lv_has ls 11 [(0, .ref (B + 136)), (1, .int v1), (2, .int v2), (3, .long v3), (5, .long v5), (7, .int v7)] → W p l e { frames := 7, cells := 0, slots := 0, locals := 160 } s m args below meth c H locs 0 0 (MQ below (qLw D ct B Hb V) args s 0 0 (AB B)) (F0 m 34 ls [])) (v1 : Int32) (v2 : Int32) (v3 : Int64) (v5 : Int64) (v7 : Int32) (S : St) {H : Heap} {locs : List Loc} {ls : Array Slot} (h : (b_X12_likelyPart_34 v1 v2 v3 v5 v7 S).bind (lpF n0 (l_X12_likelyPart_34) some) = some V) (hP : MP D ct B Hb S H) (hS : va_S (AB B) s.heap H locs) (hl : lv_has ls 11 [(0, .ref (B + 136)), (1, .int v1), (2, .int v2), (3, .long v3), (5, .long v5), (7, .int v7)]) : W p l e { frames := 7, cells := 0, slots := 0, locals := 160 } s m args below meth c H locs 0 0 (MQ below (qLw D ct B Hb V) args s 0 0 (AB B)) (F0 m 34 ls []) := by
  obtain ⟨hx, hb, hr, hml, hown, hts, hK, hlocks, hN⟩ := id C0
  unfold b_X12_likelyPart_34 at h
  refine lv_iload hx hb dX12_likelyPart_34 (lv_at hl 5 rfl) ?_
  refine lv_iconst (v := 1) hx hb dX12_likelyPart_36 (by decide) ?_
  refine lv_aload_n hx hb dX12_likelyPart_37 rfl (lv_at hl 0 rfl) ?_
  refine x_get C0 hP (lay_X12 B ct S) rfl inG12 1 (by decide) wd_1142 (fun _ h => h) rfl dX12_likelyPart_38 ?_
  refine lv_ishl hx hb dX12_likelyPart_41 ?_
  refine lv_icmp_ge (tgt := 161) hx hb dX12_likelyPart_42 (by decide) (fun z1 => ?_) (fun z1 => ?_)
  · have h := ob_t h z1
    refine lv_aload_n hx hb dX12_likelyPart_161 rfl (lv_at hl 0 rfl) ?_
    refine lv_bipush (v := 63) hx hb dX12_likelyPart_162 (by decide) ?_
    obtain ⟨S2, eS2, h⟩ := ob_nm h
    refine x_put (S' := si S 136 29 63) (FS := (fs12 B)) C0 hP hS (fun S => lay_X12 B ct S) rfl inG12 tyX12 tyX12_ok nmX12 29 (by decide) wd_1170 rfl rfl (fun a ha => lay_local (gi_si_n _ _ _ ha) rfl rfl rfl) (put_12_29 B _ _) rfl rfl (Nat.le_of_ble_eq_true rfl) dX12_likelyPart_164 (fun H locs hP hS => ?_)
    rw [← eS2] at hP
    refine lv_lload_n hx hb dX12_likelyPart_167 rfl (lv_at hl 3 rfl) ?_
    refine lv_lload hx hb dX12_likelyPart_168 (lv_at hl 4 rfl) ?_
    refine lv_iload_n hx hb dX12_likelyPart_170 rfl (lv_at hl 2 rfl) ?_
    obtain ⟨r3, hr3, h⟩ := ob_bd h
    refine n_L (kS (As := [.long v3, .long v5, .int v2]) C0 (c_X12_partOf l v3 v5 v2 hr3) ⟨wd_1652, wd_1650, wd_1651, wd_6⟩ kd_X12_partOf ⟨Nat.le_of_ble_eq_true rfl, Nat.le_of_ble_eq_true rfl⟩ hP rfl hl.1 rfl (Nat.le_of_ble_eq_true rfl) dX12_likelyPart_171 ⟨Nat.le_of_ble_eq_true rfl, Nat.le_of_ble_eq_true rfl⟩) hS (fun H locs hP hS => ?_)
    exact r_Lw C0 hP hS h dX12_likelyPart_174
  · have h := ob_f h z1
    refine lv_lconst (v := 1) hx hb dX12_likelyPart_45 (by decide) ?_
    refine lv_lstore (lv' := [(8, .long 1), (0, .ref (B + 136)), (1, .int v1), (2, .int v2), (3, .long v3), (5, .long v5), (7, .int v7)]) hx hb dX12_likelyPart_46 hl (by decide) rfl (fun ls hl => ?_)
    refine lv_iconst (v := 0) hx hb dX12_likelyPart_48 (by decide) ?_
    refine lv_istore (lv' := [(10, .int 0), (8, .long 1), (0, .ref (B + 136)), (1, .int v1), (2, .int v2), (3, .long v3), (5, .long v5), (7, .int v7)]) hx hb dX12_likelyPart_49 hl (by decide) rfl (fun ls hl => ?_)
    exact wl_X12_likelyPart_51 l C0 n0 ih0 1000 v1 v2 v3 v5 v7 1 0 S h hP hS (lv_sub hl [2, 3, 4, 5, 6, 7, 1, 0] rfl)
set_option maxRecDepth 100000 in
set_option maxHeartbeats 4000000 in
theorem wl_X12_likelyPart_34 (l : Launch) {V : Int64 × St} (C0 : XC D ct p s m args meth c cX12_likelyPart 11 (some .long) RX12)  : ∀ (n0 : Nat) (v1 : Int32) (v2 : Int32) (v3 : Int64) (v5 : Int64) (v7 : Int32) (S : St) {H : Heap} {locs : List Loc} {ls : Array Slot}, (lp n0 (l_X12_likelyPart_34) (v1, v2, v3, v5, v7, S)).bind some = some V → MP D ct B Hb S H → va_S (AB B) s.heap H locs → lv_has ls 11 [(0, .ref (B + 136)), (1, .int v1), (2, .int v2), (3, .long v3), (5, .long v5), (7, .int v7)] → W p l e { frames := 7, cells := 0, slots := 0, locals := 160 } s m args below meth c H locs 0 0 (MQ below (qLw D ct B Hb V) args s 0 0 (AB B)) (F0 m 34 ls []) := by
  intro n0
  induction n0 with
  | zero =>
    intro v1 v2 v3 v5 v7 S H locs ls h hP hS hl
    exact (lp_0 h).elim
  | succ n0 ih0 =>
    intro v1 v2 v3 v5 v7 S H locs ls h hP hS hl
    have h := lp_s h
    exact w_X12_likelyPart_34 l C0 n0 (fun v1 v2 v3 v5 v7 S H locs ls h hP hS hl => ih0 v1 v2 v3 v5 v7 S h hP hS hl) v1 v2 v3 v5 v7 S h hP hS hl
set_option maxRecDepth 100000 in
set_option maxHeartbeats 4000000 in
theorem w_X12_likelyPart_31 (l : Launch) {V : Int64 × St} (C0 : XC D ct p s m args meth c cX12_likelyPart 11 (some .long) RX12) (v1 : Int32) (v2 : Int32) (v3 : Int64) (v5 : Int64) (S : St) {H : Heap} {locs : List Loc} {ls : Array Slot} (h : (b_X12_likelyPart_31 v1 v2 v3 v5 S).bind some = some V) (hP : MP D ct B Hb S H) (hS : va_S (AB B) s.heap H locs) (hl : lv_has ls 11 [(0, .ref (B + 136)), (1, .int v1), (2, .int v2), (3, .long v3), (5, .long v5)]) : W p l e { frames := 7, cells := 0, slots := 0, locals := 160 } s m args below meth c H locs 0 0 (MQ below (qLw D ct B Hb V) args s 0 0 (AB B)) (F0 m 31 ls []) := by
  obtain ⟨hx, hb, hr, hml, hown, hts, hK, hlocks, hN⟩ := id C0
  unfold b_X12_likelyPart_31 at h
  refine lv_iconst (v := 0) hx hb dX12_likelyPart_31 (by decide) ?_
  refine lv_istore (lv' := [(7, .int 0), (0, .ref (B + 136)), (1, .int v1), (2, .int v2), (3, .long v3), (5, .long v5)]) hx hb dX12_likelyPart_32 hl (by decide) rfl (fun ls hl => ?_)
  exact wl_X12_likelyPart_34 l C0 1000 v1 v2 v3 v5 0 S h hP hS (lv_sub hl [1, 2, 3, 4, 5, 0] rfl)
set_option maxRecDepth 100000 in
set_option maxHeartbeats 4000000 in
theorem w_X12_likelyPart_8 (l : Launch) {V : Int64 × St} (C0 : XC D ct p s m args meth c cX12_likelyPart 11 (some .long) RX12) (n0 : Nat) (ih0 : ∀ (v1 : Int32) (v2 : Int32) (v3 : Int64) (v5 : Int64) (v7 : Int32) (S : St) (H : Heap) (locs : List Loc) (ls : Array Slot), (lp n0 (l_X12_likelyPart_8) (v1, v2, v3, v5, v7, S)).bind some = some V → MP D ct B Hb S H → va_S (AB B) s.heap H locs → lv_has ls 11 [(0, .ref (B + 136)), (1, .int v1), (2, .int v2), (3, .long v3), (5, .long v5), (7, .int v7)] → W p l e { frames := 7, cells := 0, slots := 0, locals := 160 } s m args below meth c H locs 0 0 (MQ below (qLw D ct B Hb V) args s 0 0 (AB B)) (F0 m 8 ls [])) (v1 : Int32) (v2 : Int32) (v3 : Int64) (v5 : Int64) (v7 : Int32) (S : St) {H : Heap} {locs : List Loc} {ls : Array Slot} (h : (b_X12_likelyPart_8 v1 v2 v3 v5 v7 S).bind (lpF n0 (l_X12_likelyPart_8) some) = some V) (hP : MP D ct B Hb S H) (hS : va_S (AB B) s.heap H locs) (hl : lv_has ls 11 [(0, .ref (B + 136)), (1, .int v1), (2, .int v2), (3, .long v3), (5, .long v5), (7, .int v7)]) : W p l e { frames := 7, cells := 0, slots := 0, locals := 160 } s m args below meth c H locs 0 0 (MQ below (qLw D ct B Hb V) args s 0 0 (AB B)) (F0 m 8 ls []) := by
  obtain ⟨hx, hb, hr, hml, hown, hts, hK, hlocks, hN⟩ := id C0
  unfold b_X12_likelyPart_8 at h
  refine lv_iload hx hb dX12_likelyPart_8 (lv_at hl 5 rfl) ?_
  refine lv_aload_n hx hb dX12_likelyPart_10 rfl (lv_at hl 0 rfl) ?_
  refine x_get C0 hP (lay_X12 B ct S) rfl inG12 1 (by decide) wd_1142 (fun _ h => h) rfl dX12_likelyPart_11 ?_
  refine lv_icmp_ge (tgt := 31) hx hb dX12_likelyPart_14 (by decide) (fun z1 => ?_) (fun z1 => ?_)
  · have h := ob_t h z1
    have h := ob_mp h
    exact w_X12_likelyPart_31 l C0 v1 v2 v3 v5 S h hP hS (lv_sub hl [0, 1, 2, 3, 4] rfl)
  · have h := ob_f h z1
    refine lv_lload hx hb dX12_likelyPart_17 (lv_at hl 4 rfl) ?_
    refine lv_ldc2 (v := 10) hx hb hown (hts _ wd_1522) dX12_likelyPart_19 ?_
    refine lv_lmul hx hb dX12_likelyPart_22 ?_
    refine lv_lstore (lv' := [(5, .long (v5 * 10)), (0, .ref (B + 136)), (1, .int v1), (2, .int v2), (3, .long v3), (7, .int v7)]) hx hb dX12_likelyPart_23 hl (by decide) rfl (fun ls hl => ?_)
    refine lv_iinc (v := v7 + 1) (lv' := [(7, .int (v7 + 1)), (5, .long (v5 * 10)), (0, .ref (B + 136)), (1, .int v1), (2, .int v2), (3, .long v3)]) hx hb dX12_likelyPart_25 hl (k := 5) rfl rfl (by decide) rfl (fun ls hl => ?_)
    refine lv_goto (tgt := 8) hx hb dX12_likelyPart_28 (by decide) ?_
    exact ih0 v1 v2 v3 (v5 * 10) (v7 + 1) S _ _ _ h hP hS (lv_sub hl [2, 3, 4, 5, 1, 0] rfl)
set_option maxRecDepth 100000 in
set_option maxHeartbeats 4000000 in
theorem wl_X12_likelyPart_8 (l : Launch) {V : Int64 × St} (C0 : XC D ct p s m args meth c cX12_likelyPart 11 (some .long) RX12)  : ∀ (n0 : Nat) (v1 : Int32) (v2 : Int32) (v3 : Int64) (v5 : Int64) (v7 : Int32) (S : St) {H : Heap} {locs : List Loc} {ls : Array Slot}, (lp n0 (l_X12_likelyPart_8) (v1, v2, v3, v5, v7, S)).bind some = some V → MP D ct B Hb S H → va_S (AB B) s.heap H locs → lv_has ls 11 [(0, .ref (B + 136)), (1, .int v1), (2, .int v2), (3, .long v3), (5, .long v5), (7, .int v7)] → W p l e { frames := 7, cells := 0, slots := 0, locals := 160 } s m args below meth c H locs 0 0 (MQ below (qLw D ct B Hb V) args s 0 0 (AB B)) (F0 m 8 ls []) := by
  intro n0
  induction n0 with
  | zero =>
    intro v1 v2 v3 v5 v7 S H locs ls h hP hS hl
    exact (lp_0 h).elim
  | succ n0 ih0 =>
    intro v1 v2 v3 v5 v7 S H locs ls h hP hS hl
    have h := lp_s h
    exact w_X12_likelyPart_8 l C0 n0 (fun v1 v2 v3 v5 v7 S H locs ls h hP hS hl => ih0 v1 v2 v3 v5 v7 S h hP hS hl) v1 v2 v3 v5 v7 S h hP hS hl
set_option maxRecDepth 100000 in
set_option maxHeartbeats 4000000 in
theorem w_X12_likelyPart_0 (l : Launch) {V : Int64 × St} (C0 : XC D ct p s m args meth c cX12_likelyPart 11 (some .long) RX12) (v1 : Int32) (v2 : Int32) (S : St) {H : Heap} {locs : List Loc} {ls : Array Slot} (h : (b_X12_likelyPart_0 v1 v2 S).bind some = some V) (hP : MP D ct B Hb S H) (hS : va_S (AB B) s.heap H locs) (hl : lv_has ls 11 [(0, .ref (B + 136)), (1, .int v1), (2, .int v2)]) : W p l e { frames := 7, cells := 0, slots := 0, locals := 160 } s m args below meth c H locs 0 0 (MQ below (qLw D ct B Hb V) args s 0 0 (AB B)) (F0 m 0 ls []) := by
  obtain ⟨hx, hb, hr, hml, hown, hts, hK, hlocks, hN⟩ := id C0
  unfold b_X12_likelyPart_0 at h
  refine lv_lconst (v := 0) hx hb dX12_likelyPart_0 (by decide) ?_
  refine lv_lstore_n (lv' := [(3, .long 0), (0, .ref (B + 136)), (1, .int v1), (2, .int v2)]) hx hb dX12_likelyPart_1 rfl hl (by decide) rfl (fun ls hl => ?_)
  refine lv_lconst (v := 1) hx hb dX12_likelyPart_2 (by decide) ?_
  refine lv_lstore (lv' := [(5, .long 1), (3, .long 0), (0, .ref (B + 136)), (1, .int v1), (2, .int v2)]) hx hb dX12_likelyPart_3 hl (by decide) rfl (fun ls hl => ?_)
  refine lv_iconst (v := 0) hx hb dX12_likelyPart_5 (by decide) ?_
  refine lv_istore (lv' := [(7, .int 0), (5, .long 1), (3, .long 0), (0, .ref (B + 136)), (1, .int v1), (2, .int v2)]) hx hb dX12_likelyPart_6 hl (by decide) rfl (fun ls hl => ?_)
  exact wl_X12_likelyPart_8 l C0 1000 v1 v2 0 1 0 S h hP hS (lv_sub hl [3, 4, 5, 2, 1, 0] rfl)
set_option maxRecDepth 100000 in
set_option maxHeartbeats 4000000 in
theorem c_X12_likelyPart (l : Launch) (a1 : Int32) (a2 : Int32) {D : va_G} {ct : Nat → ClassId} {B : Nat} {Hb : Heap} {S : St} {V : Int64 × St} (h : L_X12_likelyPart a1 a2 S = some V) : Met l yX12_likelyPart (Cond.code yX12_likelyPart cX12_likelyPart 11 (some .long) :: tG) { frames := 7, cells := 0, slots := 0, locals := 160 } (va_Pc [.ref (B + 136), .int a1, .int a2] (MPK D ct B Hb S)) (qLw D ct B Hb V) 0 0 (AB B) := by
  refine mk_met (by decide +kernel) (Nat.le_of_ble_eq_true rfl) (fun p e s m args below meth c ls C0 hP hl _ => ?_)
  have h := ob_of h
  exact w_X12_likelyPart_0 l C0 a1 a2 S h hP va_S.rf (lv_sub hl [0, 1, 2] rfl)
set_option maxRecDepth 100000 in
set_option maxHeartbeats 4000000 in
theorem w_X12_likely_32 (l : Launch) {V : Int64 × St} (C0 : XC D ct p s m args meth c cX12_likely 3 (some .long) RX12) (S : St) {H : Heap} {locs : List Loc} {ls : Array Slot} (h : (b_X12_likely_32 S).bind some = some V) (hP : MP D ct B Hb S H) (hS : va_S (AB B) s.heap H locs) (hl : lv_has ls 3 []) : W p l e { frames := 8, cells := 0, slots := 0, locals := 190 } s m args below meth c H locs 0 0 (MQ below (qLw D ct B Hb V) args s 0 0 (AB B)) (F0 m 32 ls []) := by
  obtain ⟨hx, hb, hr, hml, hown, hts, hK, hlocks, hN⟩ := id C0
  unfold b_X12_likely_32 at h
  refine lv_ldc2 (v := (-1000000001)) hx hb hown (hts _ wd_1656) dX12_likely_32 ?_
  exact r_Lw C0 hP hS h dX12_likely_35
set_option maxRecDepth 100000 in
set_option maxHeartbeats 4000000 in
theorem w_X12_likely_0 (l : Launch) {V : Int64 × St} (C0 : XC D ct p s m args meth c cX12_likely 3 (some .long) RX12) (v1 : Int32) (v2 : Int32) (S : St) {H : Heap} {locs : List Loc} {ls : Array Slot} (h : (b_X12_likely_0 v1 v2 S).bind some = some V) (hP : MP D ct B Hb S H) (hS : va_S (AB B) s.heap H locs) (hl : lv_has ls 3 [(0, .ref (B + 136)), (1, .int v1), (2, .int v2)]) : W p l e { frames := 8, cells := 0, slots := 0, locals := 190 } s m args below meth c H locs 0 0 (MQ below (qLw D ct B Hb V) args s 0 0 (AB B)) (F0 m 0 ls []) := by
  obtain ⟨hx, hb, hr, hml, hown, hts, hK, hlocks, hN⟩ := id C0
  unfold b_X12_likely_0 at h
  refine lv_aload_n hx hb dX12_likely_0 rfl (lv_at hl 0 rfl) ?_
  refine lv_iconst (v := 0) hx hb dX12_likely_1 (by decide) ?_
  obtain ⟨S1, eS1, h⟩ := ob_nm h
  refine x_put (S' := si S 136 28 0) (FS := (fs12 B)) C0 hP hS (fun S => lay_X12 B ct S) rfl inG12 tyX12 tyX12_ok nmX12 28 (by decide) wd_1169 rfl rfl (fun a ha => lay_local (gi_si_n _ _ _ ha) rfl rfl rfl) (put_12_28 B _ _) rfl rfl (Nat.le_of_ble_eq_true rfl) dX12_likely_2 (fun H locs hP hS => ?_)
  rw [← eS1] at hP
  refine lv_aload_n hx hb dX12_likely_5 rfl (lv_at hl 0 rfl) ?_
  refine lv_iload_n hx hb dX12_likely_6 rfl (lv_at hl 1 rfl) ?_
  obtain ⟨r2, hr2, h⟩ := ob_bd h
  refine n_I (kV (As := [.int v1]) C0 (c_X12_isOne l v1 hr2) ⟨wd_1448, wd_1445, wd_1447, wp_37, wd_6⟩ kd_X12_isOne ⟨Nat.le_of_ble_eq_true rfl, Nat.le_of_ble_eq_true rfl⟩ hP (lay_X12 B ct S1) rfl rfl hl.1 rfl (Nat.le_of_ble_eq_true rfl) dX12_likely_7 ⟨Nat.le_of_ble_eq_true rfl, Nat.le_of_ble_eq_true rfl⟩) hS (fun H locs hP hS => ?_)
  refine lv_if_eq (tgt := 32) hx hb dX12_likely_10 (by decide) (fun z3 => ?_) (fun z3 => ?_)
  · have h := ob_t h z3
    exact w_X12_likely_32 l C0 S1 h hP hS (lv_sub hl [] rfl)
  · have h := ob_f h z3
    refine lv_iload_n hx hb dX12_likely_13 rfl (lv_at hl 2 rfl) ?_
    refine lv_i2l hx hb dX12_likely_14 rfl ?_
    refine lv_lconst (v := 0) hx hb dX12_likely_15 (by decide) ?_
    refine lv_lconst (v := 1) hx hb dX12_likely_16 (by decide) ?_
    obtain ⟨r4, hr4, h⟩ := ob_bd h
    refine n_I (kS (As := [.long v2.toInt64, .long 0, .long 1]) C0 (c_X12_in l v2.toInt64 0 1 hr4) ⟨wd_1370, wd_1368, wd_1369, wd_6⟩ kd_X12_in ⟨Nat.le_of_ble_eq_true rfl, Nat.le_of_ble_eq_true rfl⟩ hP rfl hl.1 rfl (Nat.le_of_ble_eq_true rfl) dX12_likely_17 ⟨Nat.le_of_ble_eq_true rfl, Nat.le_of_ble_eq_true rfl⟩) hS (fun H locs hP hS => ?_)
    refine lv_if_eq (tgt := 32) hx hb dX12_likely_20 (by decide) (fun z5 => ?_) (fun z5 => ?_)
    · have h := ob_t h z5
      exact w_X12_likely_32 l C0 S1 h hP hS (lv_sub hl [] rfl)
    · have h := ob_f h z5
      refine lv_aload_n hx hb dX12_likely_23 rfl (lv_at hl 0 rfl) ?_
      refine lv_iload_n hx hb dX12_likely_24 rfl (lv_at hl 1 rfl) ?_
      refine lv_iload_n hx hb dX12_likely_25 rfl (lv_at hl 2 rfl) ?_
      obtain ⟨r6, hr6, h⟩ := ob_bd h
      refine n_Lw (kV (As := [.int v1, .int v2]) C0 (c_X12_likelyPart l v1 v2 hr6) ⟨wd_1649, wd_1646, wd_1648, wp_60, wd_6⟩ kd_X12_likelyPart ⟨Nat.le_of_ble_eq_true rfl, Nat.le_of_ble_eq_true rfl⟩ hP (lay_X12 B ct S1) rfl rfl hl.1 rfl (Nat.le_of_ble_eq_true rfl) dX12_likely_26 ⟨Nat.le_of_ble_eq_true rfl, Nat.le_of_ble_eq_true rfl⟩) hS (fun H locs hP hS => ?_)
      refine lv_goto (tgt := 35) hx hb dX12_likely_29 (by decide) ?_
      exact r_Lw C0 hP hS h dX12_likely_35
set_option maxRecDepth 100000 in
set_option maxHeartbeats 4000000 in
theorem c_X12_likely (l : Launch) (a1 : Int32) (a2 : Int32) {D : va_G} {ct : Nat → ClassId} {B : Nat} {Hb : Heap} {S : St} {V : Int64 × St} (h : L_X12_likely a1 a2 S = some V) : Met l yX12_likely (Cond.code yX12_likely cX12_likely 3 (some .long) :: tG) { frames := 8, cells := 0, slots := 0, locals := 190 } (va_Pc [.ref (B + 136), .int a1, .int a2] (MPK D ct B Hb S)) (qLw D ct B Hb V) 0 0 (AB B) := by
  refine mk_met (by decide +kernel) (Nat.le_of_ble_eq_true rfl) (fun p e s m args below meth c ls C0 hP hl _ => ?_)
  have h := ob_of h
  exact w_X12_likely_0 l C0 a1 a2 S h hP va_S.rf (lv_sub hl [0, 1, 2] rfl)
set_option maxRecDepth 100000 in
set_option maxHeartbeats 4000000 in
theorem w_X12_mean_0 (l : Launch) {V : Int64 × St} (C0 : XC D ct p s m args meth c cX12_mean 2 (some .long) RX12) (v1 : Int32) (S : St) {H : Heap} {locs : List Loc} {ls : Array Slot} (h : (b_X12_mean_0 v1 S).bind some = some V) (hP : MP D ct B Hb S H) (hS : va_S (AB B) s.heap H locs) (hl : lv_has ls 2 [(0, .ref (B + 136)), (1, .int v1)]) : W p l e { frames := 8, cells := 0, slots := 0, locals := 190 } s m args below meth c H locs 0 0 (MQ below (qLw D ct B Hb V) args s 0 0 (AB B)) (F0 m 0 ls []) := by
  obtain ⟨hx, hb, hr, hml, hown, hts, hK, hlocks, hN⟩ := id C0
  unfold b_X12_mean_0 at h
  refine lv_aload_n hx hb dX12_mean_0 rfl (lv_at hl 0 rfl) ?_
  refine lv_iconst (v := 0) hx hb dX12_mean_1 (by decide) ?_
  obtain ⟨S1, eS1, h⟩ := ob_nm h
  refine x_put (S' := si S 136 28 0) (FS := (fs12 B)) C0 hP hS (fun S => lay_X12 B ct S) rfl inG12 tyX12 tyX12_ok nmX12 28 (by decide) wd_1169 rfl rfl (fun a ha => lay_local (gi_si_n _ _ _ ha) rfl rfl rfl) (put_12_28 B _ _) rfl rfl (Nat.le_of_ble_eq_true rfl) dX12_mean_2 (fun H locs hP hS => ?_)
  rw [← eS1] at hP
  refine lv_iload_n hx hb dX12_mean_5 rfl (lv_at hl 1 rfl) ?_
  refine lv_i2l hx hb dX12_mean_6 rfl ?_
  refine lv_lconst (v := 0) hx hb dX12_mean_7 (by decide) ?_
  refine lv_lconst (v := 1) hx hb dX12_mean_8 (by decide) ?_
  obtain ⟨r2, hr2, h⟩ := ob_bd h
  refine n_I (kS (As := [.long v1.toInt64, .long 0, .long 1]) C0 (c_X12_in l v1.toInt64 0 1 hr2) ⟨wd_1370, wd_1368, wd_1369, wd_6⟩ kd_X12_in ⟨Nat.le_of_ble_eq_true rfl, Nat.le_of_ble_eq_true rfl⟩ hP rfl hl.1 rfl (Nat.le_of_ble_eq_true rfl) dX12_mean_9 ⟨Nat.le_of_ble_eq_true rfl, Nat.le_of_ble_eq_true rfl⟩) hS (fun H locs hP hS => ?_)
  refine lv_if_eq (tgt := 24) hx hb dX12_mean_12 (by decide) (fun z3 => ?_) (fun z3 => ?_)
  · have h := ob_t h z3
    refine lv_ldc2 (v := (-1000000001)) hx hb hown (hts _ wd_1656) dX12_mean_24 ?_
    exact r_Lw C0 hP hS h dX12_mean_27
  · have h := ob_f h z3
    refine lv_aload_n hx hb dX12_mean_15 rfl (lv_at hl 0 rfl) ?_
    refine lv_iconst (v := (-1)) hx hb dX12_mean_16 (by decide) ?_
    refine lv_iload_n hx hb dX12_mean_17 rfl (lv_at hl 1 rfl) ?_
    obtain ⟨r4, hr4, h⟩ := ob_bd h
    refine n_Lw (kV (As := [.int ((-1)), .int v1]) C0 (c_X12_likelyPart l ((-1)) v1 hr4) ⟨wd_1649, wd_1646, wd_1648, wp_60, wd_6⟩ kd_X12_likelyPart ⟨Nat.le_of_ble_eq_true rfl, Nat.le_of_ble_eq_true rfl⟩ hP (lay_X12 B ct S1) rfl rfl hl.1 rfl (Nat.le_of_ble_eq_true rfl) dX12_mean_18 ⟨Nat.le_of_ble_eq_true rfl, Nat.le_of_ble_eq_true rfl⟩) hS (fun H locs hP hS => ?_)
    refine lv_goto (tgt := 27) hx hb dX12_mean_21 (by decide) ?_
    exact r_Lw C0 hP hS h dX12_mean_27
set_option maxRecDepth 100000 in
set_option maxHeartbeats 4000000 in
theorem c_X12_mean (l : Launch) (a1 : Int32) {D : va_G} {ct : Nat → ClassId} {B : Nat} {Hb : Heap} {S : St} {V : Int64 × St} (h : L_X12_mean a1 S = some V) : Met l yX12_mean (Cond.code yX12_mean cX12_mean 2 (some .long) :: tG) { frames := 8, cells := 0, slots := 0, locals := 190 } (va_Pc [.ref (B + 136), .int a1] (MPK D ct B Hb S)) (qLw D ct B Hb V) 0 0 (AB B) := by
  refine mk_met (by decide +kernel) (Nat.le_of_ble_eq_true rfl) (fun p e s m args below meth c ls C0 hP hl _ => ?_)
  have h := ob_of h
  exact w_X12_mean_0 l C0 a1 S h hP va_S.rf (lv_sub hl [0, 1] rfl)
set_option maxRecDepth 100000 in
set_option maxHeartbeats 4000000 in
theorem w_X12_allYes_43 (l : Launch) {V : Int32 × St} (C0 : XC D ct p s m args meth c cX12_allYes 4 (some .boolean) RX12) (n0 : Nat) (ih0 : ∀ (v1 : Int32) (v2 : Int32) (v3 : Int32) (S : St) (H : Heap) (locs : List Loc) (ls : Array Slot), (lp n0 (l_X12_allYes_8) (v1, v2, v3, S)).bind some = some V → MP D ct B Hb S H → va_S (AB B) s.heap H locs → lv_has ls 4 [(0, .ref (B + 136)), (1, .int v1), (2, .int v2), (3, .int v3)] → W p l e { frames := 7, cells := 0, slots := 0, locals := 160 } s m args below meth c H locs 0 0 (MQ below (qIw D ct B Hb V) args s 0 0 (AB B)) (F0 m 8 ls [])) (v1 : Int32) (v3 : Int32) (s0 : Int32) (S : St) {H : Heap} {locs : List Loc} {ls : Array Slot} (h : (b_X12_allYes_43 v1 v3 s0 S).bind (lpF n0 (l_X12_allYes_8) some) = some V) (hP : MP D ct B Hb S H) (hS : va_S (AB B) s.heap H locs) (hl : lv_has ls 4 [(0, .ref (B + 136)), (1, .int v1), (3, .int v3)]) : W p l e { frames := 7, cells := 0, slots := 0, locals := 160 } s m args below meth c H locs 0 0 (MQ below (qIw D ct B Hb V) args s 0 0 (AB B)) (F0 m 43 ls [.int s0]) := by
  obtain ⟨hx, hb, hr, hml, hown, hts, hK, hlocks, hN⟩ := id C0
  unfold b_X12_allYes_43 at h
  refine lv_istore_n (lv' := [(2, .int s0), (0, .ref (B + 136)), (1, .int v1), (3, .int v3)]) hx hb dX12_allYes_43 rfl hl (by decide) rfl (fun ls hl => ?_)
  refine lv_iinc (v := v3 + 1) (lv' := [(3, .int (v3 + 1)), (2, .int s0), (0, .ref (B + 136)), (1, .int v1)]) hx hb dX12_allYes_44 hl (k := 3) rfl rfl (by decide) rfl (fun ls hl => ?_)
  refine lv_goto (tgt := 8) hx hb dX12_allYes_47 (by decide) ?_
  exact ih0 v1 s0 (v3 + 1) S _ _ _ h hP hS (lv_sub hl [2, 3, 1, 0] rfl)
set_option maxRecDepth 100000 in
set_option maxHeartbeats 4000000 in
theorem w_X12_allYes_42 (l : Launch) {V : Int32 × St} (C0 : XC D ct p s m args meth c cX12_allYes 4 (some .boolean) RX12) (n0 : Nat) (ih0 : ∀ (v1 : Int32) (v2 : Int32) (v3 : Int32) (S : St) (H : Heap) (locs : List Loc) (ls : Array Slot), (lp n0 (l_X12_allYes_8) (v1, v2, v3, S)).bind some = some V → MP D ct B Hb S H → va_S (AB B) s.heap H locs → lv_has ls 4 [(0, .ref (B + 136)), (1, .int v1), (2, .int v2), (3, .int v3)] → W p l e { frames := 7, cells := 0, slots := 0, locals := 160 } s m args below meth c H locs 0 0 (MQ below (qIw D ct B Hb V) args s 0 0 (AB B)) (F0 m 8 ls [])) (v1 : Int32) (v3 : Int32) (S : St) {H : Heap} {locs : List Loc} {ls : Array Slot} (h : (b_X12_allYes_42 v1 v3 S).bind (lpF n0 (l_X12_allYes_8) some) = some V) (hP : MP D ct B Hb S H) (hS : va_S (AB B) s.heap H locs) (hl : lv_has ls 4 [(0, .ref (B + 136)), (1, .int v1), (3, .int v3)]) : W p l e { frames := 7, cells := 0, slots := 0, locals := 160 } s m args below meth c H locs 0 0 (MQ below (qIw D ct B Hb V) args s 0 0 (AB B)) (F0 m 42 ls []) := by
  obtain ⟨hx, hb, hr, hml, hown, hts, hK, hlocks, hN⟩ := id C0
  unfold b_X12_allYes_42 at h
  refine lv_iconst (v := 0) hx hb dX12_allYes_42 (by decide) ?_
  exact w_X12_allYes_43 l C0 n0 ih0 v1 v3 0 S h hP hS (lv_sub hl [0, 1, 2] rfl)
set_option maxRecDepth 100000 in
set_option maxHeartbeats 4000000 in
theorem w_X12_allYes_38 (l : Launch) {V : Int32 × St} (C0 : XC D ct p s m args meth c cX12_allYes 4 (some .boolean) RX12) (n0 : Nat) (ih0 : ∀ (v1 : Int32) (v2 : Int32) (v3 : Int32) (S : St) (H : Heap) (locs : List Loc) (ls : Array Slot), (lp n0 (l_X12_allYes_8) (v1, v2, v3, S)).bind some = some V → MP D ct B Hb S H → va_S (AB B) s.heap H locs → lv_has ls 4 [(0, .ref (B + 136)), (1, .int v1), (2, .int v2), (3, .int v3)] → W p l e { frames := 7, cells := 0, slots := 0, locals := 160 } s m args below meth c H locs 0 0 (MQ below (qIw D ct B Hb V) args s 0 0 (AB B)) (F0 m 8 ls [])) (v1 : Int32) (v3 : Int32) (S : St) {H : Heap} {locs : List Loc} {ls : Array Slot} (h : (b_X12_allYes_38 v1 v3 S).bind (lpF n0 (l_X12_allYes_8) some) = some V) (hP : MP D ct B Hb S H) (hS : va_S (AB B) s.heap H locs) (hl : lv_has ls 4 [(0, .ref (B + 136)), (1, .int v1), (3, .int v3)]) : W p l e { frames := 7, cells := 0, slots := 0, locals := 160 } s m args below meth c H locs 0 0 (MQ below (qIw D ct B Hb V) args s 0 0 (AB B)) (F0 m 38 ls []) := by
  obtain ⟨hx, hb, hr, hml, hown, hts, hK, hlocks, hN⟩ := id C0
  unfold b_X12_allYes_38 at h
  refine lv_iconst (v := 1) hx hb dX12_allYes_38 (by decide) ?_
  refine lv_goto (tgt := 43) hx hb dX12_allYes_39 (by decide) ?_
  exact w_X12_allYes_43 l C0 n0 ih0 v1 v3 1 S h hP hS (lv_sub hl [0, 1, 2] rfl)
set_option maxRecDepth 100000 in
set_option maxHeartbeats 4000000 in
theorem w_X12_allYes_8 (l : Launch) {V : Int32 × St} (C0 : XC D ct p s m args meth c cX12_allYes 4 (some .boolean) RX12) (n0 : Nat) (ih0 : ∀ (v1 : Int32) (v2 : Int32) (v3 : Int32) (S : St) (H : Heap) (locs : List Loc) (ls : Array Slot), (lp n0 (l_X12_allYes_8) (v1, v2, v3, S)).bind some = some V → MP D ct B Hb S H → va_S (AB B) s.heap H locs → lv_has ls 4 [(0, .ref (B + 136)), (1, .int v1), (2, .int v2), (3, .int v3)] → W p l e { frames := 7, cells := 0, slots := 0, locals := 160 } s m args below meth c H locs 0 0 (MQ below (qIw D ct B Hb V) args s 0 0 (AB B)) (F0 m 8 ls [])) (v1 : Int32) (v2 : Int32) (v3 : Int32) (S : St) {H : Heap} {locs : List Loc} {ls : Array Slot} (h : (b_X12_allYes_8 v1 v2 v3 S).bind (lpF n0 (l_X12_allYes_8) some) = some V) (hP : MP D ct B Hb S H) (hS : va_S (AB B) s.heap H locs) (hl : lv_has ls 4 [(0, .ref (B + 136)), (1, .int v1), (2, .int v2), (3, .int v3)]) : W p l e { frames := 7, cells := 0, slots := 0, locals := 160 } s m args below meth c H locs 0 0 (MQ below (qIw D ct B Hb V) args s 0 0 (AB B)) (F0 m 8 ls []) := by
  obtain ⟨hx, hb, hr, hml, hown, hts, hK, hlocks, hN⟩ := id C0
  unfold b_X12_allYes_8 at h
  refine lv_iload_n hx hb dX12_allYes_8 rfl (lv_at hl 3 rfl) ?_
  refine lv_aload_n hx hb dX12_allYes_9 rfl (lv_at hl 0 rfl) ?_
  refine x_get C0 hP (lay_X12 B ct S) rfl inG12 15 (by decide) wd_1156 (fun _ h => h) rfl dX12_allYes_10 ?_
  refine lv_icmp_ge (tgt := 50) hx hb dX12_allYes_13 (by decide) (fun z1 => ?_) (fun z1 => ?_)
  · have h := ob_t h z1
    refine lv_iload_n hx hb dX12_allYes_50 rfl (lv_at hl 2 rfl) ?_
    obtain ⟨g2, h⟩ := ob_gd h
    exact r_Zw C0 hP hS (bool_n g2) h dX12_allYes_51
  · have h := ob_f h z1
    refine lv_iload_n hx hb dX12_allYes_16 rfl (lv_at hl 2 rfl) ?_
    refine lv_if_eq (tgt := 42) hx hb dX12_allYes_17 (by decide) (fun z3 => ?_) (fun z3 => ?_)
    · have h := ob_t h z3
      exact w_X12_allYes_42 l C0 n0 ih0 v1 v3 S h hP hS (lv_sub hl [0, 1, 3] rfl)
    · have h := ob_f h z3
      refine lv_iload_n hx hb dX12_allYes_20 rfl (lv_at hl 1 rfl) ?_
      refine lv_iload_n hx hb dX12_allYes_21 rfl (lv_at hl 3 rfl) ?_
      refine lv_ishr hx hb dX12_allYes_22 ?_
      refine lv_iconst (v := 1) hx hb dX12_allYes_23 (by decide) ?_
      refine lv_iand hx hb dX12_allYes_24 ?_
      refine lv_if_eq (tgt := 38) hx hb dX12_allYes_25 (by decide) (fun z4 => ?_) (fun z4 => ?_)
      · have h := ob_t h z4
        exact w_X12_allYes_38 l C0 n0 ih0 v1 v3 S h hP hS (lv_sub hl [0, 1, 3] rfl)
      · have h := ob_f h z4
        refine lv_aload_n hx hb dX12_allYes_28 rfl (lv_at hl 0 rfl) ?_
        refine x_get C0 hP (lay_X12 B ct S) rfl inG12 32 (by decide) wd_1173 (fun _ h => h) rfl dX12_allYes_29 ?_
        refine lv_iload_n hx hb dX12_allYes_32 rfl (lv_at hl 3 rfl) ?_
        obtain ⟨g5, h⟩ := ob_gd h
        refine x_iald C0 hP ((fun S => lay_160 B ct S) S) g5 dX12_allYes_33 ?_
        refine lv_iconst (v := 1) hx hb dX12_allYes_34 (by decide) ?_
        refine lv_icmp_ne (tgt := 42) hx hb dX12_allYes_35 (by decide) (fun z6 => ?_) (fun z6 => ?_)
        · have h := ob_f h z6
          exact w_X12_allYes_42 l C0 n0 ih0 v1 v3 S h hP hS (lv_sub hl [0, 1, 3] rfl)
        · have h := ob_t h z6
          exact w_X12_allYes_38 l C0 n0 ih0 v1 v3 S h hP hS (lv_sub hl [0, 1, 3] rfl)
set_option maxRecDepth 100000 in
set_option maxHeartbeats 4000000 in
theorem wl_X12_allYes_8 (l : Launch) {V : Int32 × St} (C0 : XC D ct p s m args meth c cX12_allYes 4 (some .boolean) RX12)  : ∀ (n0 : Nat) (v1 : Int32) (v2 : Int32) (v3 : Int32) (S : St) {H : Heap} {locs : List Loc} {ls : Array Slot}, (lp n0 (l_X12_allYes_8) (v1, v2, v3, S)).bind some = some V → MP D ct B Hb S H → va_S (AB B) s.heap H locs → lv_has ls 4 [(0, .ref (B + 136)), (1, .int v1), (2, .int v2), (3, .int v3)] → W p l e { frames := 7, cells := 0, slots := 0, locals := 160 } s m args below meth c H locs 0 0 (MQ below (qIw D ct B Hb V) args s 0 0 (AB B)) (F0 m 8 ls []) := by
  intro n0
  induction n0 with
  | zero =>
    intro v1 v2 v3 S H locs ls h hP hS hl
    exact (lp_0 h).elim
  | succ n0 ih0 =>
    intro v1 v2 v3 S H locs ls h hP hS hl
    have h := lp_s h
    exact w_X12_allYes_8 l C0 n0 (fun v1 v2 v3 S H locs ls h hP hS hl => ih0 v1 v2 v3 S h hP hS hl) v1 v2 v3 S h hP hS hl
set_option maxRecDepth 100000 in
set_option maxHeartbeats 4000000 in
theorem w_X12_allYes_0 (l : Launch) {V : Int32 × St} (C0 : XC D ct p s m args meth c cX12_allYes 4 (some .boolean) RX12) (v1 : Int32) (S : St) {H : Heap} {locs : List Loc} {ls : Array Slot} (h : (b_X12_allYes_0 v1 S).bind some = some V) (hP : MP D ct B Hb S H) (hS : va_S (AB B) s.heap H locs) (hl : lv_has ls 4 [(0, .ref (B + 136)), (1, .int v1)]) : W p l e { frames := 7, cells := 0, slots := 0, locals := 160 } s m args below meth c H locs 0 0 (MQ below (qIw D ct B Hb V) args s 0 0 (AB B)) (F0 m 0 ls []) := by
  obtain ⟨hx, hb, hr, hml, hown, hts, hK, hlocks, hN⟩ := id C0
  unfold b_X12_allYes_0 at h
  refine lv_aload_n hx hb dX12_allYes_0 rfl (lv_at hl 0 rfl) ?_
  obtain ⟨r1, hr1, h⟩ := ob_bd h
  refine n_Vw (kV (As := []) C0 (c_X12_day l hr1) ⟨wd_1539, wd_1536, wd_1538, wp_43, wd_6⟩ kd_X12_day ⟨Nat.le_of_ble_eq_true rfl, Nat.le_of_ble_eq_true rfl⟩ hP (lay_X12 B ct S) rfl rfl hl.1 rfl (Nat.le_of_ble_eq_true rfl) dX12_allYes_1 ⟨Nat.le_of_ble_eq_true rfl, Nat.le_of_ble_eq_true rfl⟩) hS (fun H locs hP hS => ?_)
  refine lv_iconst (v := 1) hx hb dX12_allYes_4 (by decide) ?_
  refine lv_istore_n (lv' := [(2, .int 1), (0, .ref (B + 136)), (1, .int v1)]) hx hb dX12_allYes_5 rfl hl (by decide) rfl (fun ls hl => ?_)
  refine lv_iconst (v := 0) hx hb dX12_allYes_6 (by decide) ?_
  refine lv_istore_n (lv' := [(3, .int 0), (2, .int 1), (0, .ref (B + 136)), (1, .int v1)]) hx hb dX12_allYes_7 rfl hl (by decide) rfl (fun ls hl => ?_)
  exact wl_X12_allYes_8 l C0 1000 v1 1 0 r1 h hP hS (lv_sub hl [2, 3, 1, 0] rfl)
set_option maxRecDepth 100000 in
set_option maxHeartbeats 4000000 in
theorem c_X12_allYes (l : Launch) (a1 : Int32) {D : va_G} {ct : Nat → ClassId} {B : Nat} {Hb : Heap} {S : St} {V : Int32 × St} (h : L_X12_allYes a1 S = some V) : Met l yX12_allYes (Cond.code yX12_allYes cX12_allYes 4 (some .boolean) :: tG) { frames := 7, cells := 0, slots := 0, locals := 160 } (va_Pc [.ref (B + 136), .int a1] (MPK D ct B Hb S)) (qIw D ct B Hb V) 0 0 (AB B) := by
  refine mk_met (by decide +kernel) (Nat.le_of_ble_eq_true rfl) (fun p e s m args below meth c ls C0 hP hl _ => ?_)
  have h := ob_of h
  exact w_X12_allYes_0 l C0 a1 S h hP va_S.rf (lv_sub hl [0, 1] rfl)
end WALKS
