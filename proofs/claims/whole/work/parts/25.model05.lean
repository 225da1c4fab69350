theorem dX12_price_0 : decode cX12_price 0 = .ok (.aload_n 0, 1) := by decide +kernel
theorem dX12_price_1 : decode cX12_price 1 = .ok (.iconst 0, 1) := by decide +kernel
theorem dX12_price_2 : decode cX12_price 2 = .ok (.putfield 160, 3) := by decide +kernel
theorem dX12_price_5 : decode cX12_price 5 = .ok (.aload_n 0, 1) := by decide +kernel
theorem dX12_price_6 : decode cX12_price 6 = .ok (.iload_n 1, 1) := by decide +kernel
theorem dX12_price_7 : decode cX12_price 7 = .ok (.invokevirtual 337, 3) := by decide +kernel
theorem dX12_price_10 : decode cX12_price 10 = .ok (.ifCond .eq 24, 3) := by decide +kernel
theorem dX12_price_13 : decode cX12_price 13 = .ok (.iload_n 2, 1) := by decide +kernel
theorem dX12_price_14 : decode cX12_price 14 = .ok (.i2l, 1) := by decide +kernel
theorem dX12_price_15 : decode cX12_price 15 = .ok (.lconst 0, 1) := by decide +kernel
theorem dX12_price_16 : decode cX12_price 16 = .ok (.ldc2_w 351, 3) := by decide +kernel
theorem dX12_price_19 : decode cX12_price 19 = .ok (.invokestatic 165, 3) := by decide +kernel
theorem dX12_price_22 : decode cX12_price 22 = .ok (.ifCond .eq 12, 3) := by decide +kernel
theorem dX12_price_25 : decode cX12_price 25 = .ok (.aload_n 0, 1) := by decide +kernel
theorem dX12_price_26 : decode cX12_price 26 = .ok (.iload_n 1, 1) := by decide +kernel
theorem dX12_price_27 : decode cX12_price 27 = .ok (.iload_n 2, 1) := by decide +kernel
theorem dX12_price_28 : decode cX12_price 28 = .ok (.invokevirtual 207, 3) := by decide +kernel
theorem dX12_price_31 : decode cX12_price 31 = .ok (.goto 4, 3) := by decide +kernel
theorem dX12_price_34 : decode cX12_price 34 = .ok (.iconst (-1), 1) := by decide +kernel
theorem dX12_price_35 : decode cX12_price 35 = .ok (.ireturn, 1) := by decide +kernel
theorem dX12_wrongKept_0 : decode cX12_wrongKept 0 = .ok (.iload_n 1, 1) := by decide +kernel
theorem dX12_wrongKept_1 : decode cX12_wrongKept 1 = .ok (.i2l, 1) := by decide +kernel
theorem dX12_wrongKept_2 : decode cX12_wrongKept 2 = .ok (.lconst 0, 1) := by decide +kernel
theorem dX12_wrongKept_3 : decode cX12_wrongKept 3 = .ok (.ldc2_w 353, 3) := by decide +kernel
theorem dX12_wrongKept_6 : decode cX12_wrongKept 6 = .ok (.invokestatic 165, 3) := by decide +kernel
theorem dX12_wrongKept_9 : decode cX12_wrongKept 9 = .ok (.ifCond .ne 7, 3) := by decide +kernel
theorem dX12_wrongKept_12 : decode cX12_wrongKept 12 = .ok (.iconst (-1), 1) := by decide +kernel
theorem dX12_wrongKept_13 : decode cX12_wrongKept 13 = .ok (.goto 33, 3) := by decide +kernel
theorem dX12_wrongKept_16 : decode cX12_wrongKept 16 = .ok (.aload_n 0, 1) := by decide +kernel
theorem dX12_wrongKept_17 : decode cX12_wrongKept 17 = .ok (.getfield 68, 3) := by decide +kernel
theorem dX12_wrongKept_20 : decode cX12_wrongKept 20 = .ok (.iload_n 1, 1) := by decide +kernel
theorem dX12_wrongKept_21 : decode cX12_wrongKept 21 = .ok (.iaload, 1) := by decide +kernel
theorem dX12_wrongKept_22 : decode cX12_wrongKept 22 = .ok (.ifCond .ne 8, 3) := by decide +kernel
theorem dX12_wrongKept_25 : decode cX12_wrongKept 25 = .ok (.bipush (-11), 2) := by decide +kernel
theorem dX12_wrongKept_27 : decode cX12_wrongKept 27 = .ok (.goto 19, 3) := by decide +kernel
theorem dX12_wrongKept_30 : decode cX12_wrongKept 30 = .ok (.aload_n 0, 1) := by decide +kernel
theorem dX12_wrongKept_31 : decode cX12_wrongKept 31 = .ok (.getfield 68, 3) := by decide +kernel
theorem dX12_wrongKept_34 : decode cX12_wrongKept 34 = .ok (.iload_n 1, 1) := by decide +kernel
theorem dX12_wrongKept_35 : decode cX12_wrongKept 35 = .ok (.iaload, 1) := by decide +kernel
theorem dX12_wrongKept_36 : decode cX12_wrongKept 36 = .ok (.iconst 1, 1) := by decide +kernel
theorem dX12_wrongKept_37 : decode cX12_wrongKept 37 = .ok (.if_icmp .eq 8, 3) := by decide +kernel
theorem dX12_wrongKept_40 : decode cX12_wrongKept 40 = .ok (.bipush (-12), 2) := by decide +kernel
theorem dX12_wrongKept_42 : decode cX12_wrongKept 42 = .ok (.goto 4, 3) := by decide +kernel
theorem dX12_wrongKept_45 : decode cX12_wrongKept 45 = .ok (.iconst 0, 1) := by decide +kernel
theorem dX12_wrongKept_46 : decode cX12_wrongKept 46 = .ok (.ireturn, 1) := by decide +kernel
theorem dX12_comes_0 : decode cX12_comes 0 = .ok (.aload_n 0, 1) := by decide +kernel
theorem dX12_comes_1 : decode cX12_comes 1 = .ok (.iconst 0, 1) := by decide +kernel
theorem dX12_comes_2 : decode cX12_comes 2 = .ok (.putfield 160, 3) := by decide +kernel
theorem dX12_comes_5 : decode cX12_comes 5 = .ok (.iload_n 2, 1) := by decide +kernel
theorem dX12_comes_6 : decode cX12_comes 6 = .ok (.invokestatic 294, 3) := by decide +kernel
theorem dX12_comes_9 : decode cX12_comes 9 = .ok (.ifCond .eq 42, 3) := by decide +kernel
theorem dX12_comes_12 : decode cX12_comes 12 = .ok (.iload_n 3, 1) := by decide +kernel
theorem dX12_comes_13 : decode cX12_comes 13 = .ok (.invokestatic 297, 3) := by decide +kernel
theorem dX12_comes_16 : decode cX12_comes 16 = .ok (.ifCond .eq 35, 3) := by decide +kernel
theorem dX12_comes_19 : decode cX12_comes 19 = .ok (.iload 4, 2) := by decide +kernel
theorem dX12_comes_21 : decode cX12_comes 21 = .ok (.i2l, 1) := by decide +kernel
theorem dX12_comes_22 : decode cX12_comes 22 = .ok (.ldc2_w 340, 3) := by decide +kernel
theorem dX12_comes_25 : decode cX12_comes 25 = .ok (.ldc2_w 342, 3) := by decide +kernel
theorem dX12_comes_28 : decode cX12_comes 28 = .ok (.invokestatic 165, 3) := by decide +kernel
theorem dX12_comes_31 : decode cX12_comes 31 = .ok (.ifCond .eq 20, 3) := by decide +kernel
theorem dX12_comes_34 : decode cX12_comes 34 = .ok (.iload 5, 2) := by decide +kernel
theorem dX12_comes_36 : decode cX12_comes 36 = .ok (.i2l, 1) := by decide +kernel
theorem dX12_comes_37 : decode cX12_comes 37 = .ok (.lconst 0, 1) := by decide +kernel
theorem dX12_comes_38 : decode cX12_comes 38 = .ok (.ldc2_w 346, 3) := by decide +kernel
theorem dX12_comes_41 : decode cX12_comes 41 = .ok (.invokestatic 165, 3) := by decide +kernel
theorem dX12_comes_44 : decode cX12_comes 44 = .ok (.ifCond .eq 7, 3) := by decide +kernel
theorem dX12_comes_47 : decode cX12_comes 47 = .ok (.iconst 1, 1) := by decide +kernel
theorem dX12_comes_48 : decode cX12_comes 48 = .ok (.goto 4, 3) := by decide +kernel
theorem dX12_comes_51 : decode cX12_comes 51 = .ok (.iconst 0, 1) := by decide +kernel
theorem dX12_comes_52 : decode cX12_comes 52 = .ok (.istore 6, 2) := by decide +kernel
theorem dX12_comes_54 : decode cX12_comes 54 = .ok (.iload 6, 2) := by decide +kernel
theorem dX12_comes_56 : decode cX12_comes 56 = .ok (.ifCond .eq 11, 3) := by decide +kernel
theorem dX12_comes_59 : decode cX12_comes 59 = .ok (.aload_n 0, 1) := by decide +kernel
theorem dX12_comes_60 : decode cX12_comes 60 = .ok (.iload_n 1, 1) := by decide +kernel
theorem dX12_comes_61 : decode cX12_comes 61 = .ok (.invokevirtual 355, 3) := by decide +kernel
theorem dX12_comes_64 : decode cX12_comes 64 = .ok (.goto 4, 3) := by decide +kernel
theorem dX12_comes_67 : decode cX12_comes 67 = .ok (.iconst (-1), 1) := by decide +kernel
theorem dX12_comes_68 : decode cX12_comes 68 = .ok (.istore 7, 2) := by decide +kernel
theorem dX12_comes_70 : decode cX12_comes 70 = .ok (.iload 7, 2) := by decide +kernel
theorem dX12_comes_72 : decode cX12_comes 72 = .ok (.ifCond .ne 17, 3) := by decide +kernel
theorem dX12_comes_75 : decode cX12_comes 75 = .ok (.aload_n 0, 1) := by decide +kernel
theorem dX12_comes_76 : decode cX12_comes 76 = .ok (.getfield 171, 3) := by decide +kernel
theorem dX12_comes_79 : decode cX12_comes 79 = .ok (.bipush 8, 2) := by decide +kernel
theorem dX12_comes_81 : decode cX12_comes 81 = .ok (.if_icmp .ne 8, 3) := by decide +kernel
theorem dX12_comes_84 : decode cX12_comes 84 = .ok (.bipush (-2), 2) := by decide +kernel
theorem dX12_comes_86 : decode cX12_comes 86 = .ok (.goto 5, 3) := by decide +kernel
theorem dX12_comes_89 : decode cX12_comes 89 = .ok (.iload 7, 2) := by decide +kernel
theorem dX12_comes_91 : decode cX12_comes 91 = .ok (.istore 7, 2) := by decide +kernel
theorem dX12_comes_93 : decode cX12_comes 93 = .ok (.iload 7, 2) := by decide +kernel
theorem dX12_comes_95 : decode cX12_comes 95 = .ok (.ifCond .ge 6, 3) := by decide +kernel
theorem dX12_comes_98 : decode cX12_comes 98 = .ok (.iload 7, 2) := by decide +kernel
theorem dX12_comes_100 : decode cX12_comes 100 = .ok (.ireturn, 1) := by decide +kernel
theorem dX12_comes_101 : decode cX12_comes 101 = .ok (.aload_n 0, 1) := by decide +kernel
theorem dX12_comes_102 : decode cX12_comes 102 = .ok (.aload_n 0, 1) := by decide +kernel
theorem dX12_comes_103 : decode cX12_comes 103 = .ok (.getfield 71, 3) := by decide +kernel
theorem dX12_comes_106 : decode cX12_comes 106 = .ok (.iload_n 1, 1) := by decide +kernel
theorem dX12_comes_107 : decode cX12_comes 107 = .ok (.iaload, 1) := by decide +kernel
theorem dX12_comes_108 : decode cX12_comes 108 = .ok (.aload_n 0, 1) := by decide +kernel
theorem dX12_comes_109 : decode cX12_comes 109 = .ok (.getfield 74, 3) := by decide +kernel
theorem dX12_comes_112 : decode cX12_comes 112 = .ok (.iload_n 1, 1) := by decide +kernel
theorem dX12_comes_113 : decode cX12_comes 113 = .ok (.iaload, 1) := by decide +kernel
theorem dX12_comes_114 : decode cX12_comes 114 = .ok (.iload_n 2, 1) := by decide +kernel
theorem dX12_comes_115 : decode cX12_comes 115 = .ok (.iload_n 3, 1) := by decide +kernel
theorem dX12_comes_116 : decode cX12_comes 116 = .ok (.iload 4, 2) := by decide +kernel
theorem dX12_comes_118 : decode cX12_comes 118 = .ok (.iload 5, 2) := by decide +kernel
theorem dX12_comes_120 : decode cX12_comes 120 = .ok (.invokevirtual 300, 3) := by decide +kernel
theorem dX12_comes_123 : decode cX12_comes 123 = .ok (.aload_n 0, 1) := by decide +kernel
theorem dX12_comes_124 : decode cX12_comes 124 = .ok (.getfield 171, 3) := by decide +kernel
theorem dX12_comes_127 : decode cX12_comes 127 = .ok (.iconst 1, 1) := by decide +kernel
theorem dX12_comes_128 : decode cX12_comes 128 = .ok (.isub, 1) := by decide +kernel
theorem dX12_comes_129 : decode cX12_comes 129 = .ok (.ireturn, 1) := by decide +kernel
theorem dX12_leaves_0 : decode cX12_leaves 0 = .ok (.aload_n 0, 1) := by decide +kernel
theorem dX12_leaves_1 : decode cX12_leaves 1 = .ok (.iconst 0, 1) := by decide +kernel
theorem dX12_leaves_2 : decode cX12_leaves 2 = .ok (.putfield 160, 3) := by decide +kernel
theorem dX12_leaves_5 : decode cX12_leaves 5 = .ok (.aload_n 0, 1) := by decide +kernel
theorem dX12_leaves_6 : decode cX12_leaves 6 = .ok (.iload_n 1, 1) := by decide +kernel
theorem dX12_leaves_7 : decode cX12_leaves 7 = .ok (.invokevirtual 337, 3) := by decide +kernel
theorem dX12_leaves_10 : decode cX12_leaves 10 = .ok (.ifCond .ne 5, 3) := by decide +kernel
theorem dX12_leaves_13 : decode cX12_leaves 13 = .ok (.iconst (-1), 1) := by decide +kernel
theorem dX12_leaves_14 : decode cX12_leaves 14 = .ok (.ireturn, 1) := by decide +kernel
theorem dX12_leaves_15 : decode cX12_leaves 15 = .ok (.aload_n 0, 1) := by decide +kernel
theorem dX12_leaves_16 : decode cX12_leaves 16 = .ok (.dup, 1) := by decide +kernel
theorem dX12_leaves_17 : decode cX12_leaves 17 = .ok (.getfield 171, 3) := by decide +kernel
theorem dX12_leaves_20 : decode cX12_leaves 20 = .ok (.iconst 1, 1) := by decide +kernel
theorem dX12_leaves_21 : decode cX12_leaves 21 = .ok (.isub, 1) := by decide +kernel
theorem dX12_leaves_22 : decode cX12_leaves 22 = .ok (.putfield 171, 3) := by decide +kernel
theorem dX12_leaves_25 : decode cX12_leaves 25 = .ok (.iload_n 1, 1) := by decide +kernel
theorem dX12_leaves_26 : decode cX12_leaves 26 = .ok (.istore_n 2, 1) := by decide +kernel
theorem dX12_leaves_27 : decode cX12_leaves 27 = .ok (.iload_n 2, 1) := by decide +kernel
theorem dX12_leaves_28 : decode cX12_leaves 28 = .ok (.aload_n 0, 1) := by decide +kernel
theorem dX12_leaves_29 : decode cX12_leaves 29 = .ok (.getfield 171, 3) := by decide +kernel
theorem dX12_leaves_32 : decode cX12_leaves 32 = .ok (.if_icmp .ge 93, 3) := by decide +kernel
theorem dX12_leaves_35 : decode cX12_leaves 35 = .ok (.aload_n 0, 1) := by decide +kernel
theorem dX12_leaves_36 : decode cX12_leaves 36 = .ok (.getfield 50, 3) := by decide +kernel
theorem dX12_leaves_39 : decode cX12_leaves 39 = .ok (.iload_n 2, 1) := by decide +kernel
theorem dX12_leaves_40 : decode cX12_leaves 40 = .ok (.aload_n 0, 1) := by decide +kernel
theorem dX12_leaves_41 : decode cX12_leaves 41 = .ok (.getfield 50, 3) := by decide +kernel
theorem dX12_leaves_44 : decode cX12_leaves 44 = .ok (.iload_n 2, 1) := by decide +kernel
theorem dX12_leaves_45 : decode cX12_leaves 45 = .ok (.iconst 1, 1) := by decide +kernel
theorem dX12_leaves_46 : decode cX12_leaves 46 = .ok (.iadd, 1) := by decide +kernel
theorem dX12_leaves_47 : decode cX12_leaves 47 = .ok (.iaload, 1) := by decide +kernel
theorem dX12_leaves_48 : decode cX12_leaves 48 = .ok (.iastore, 1) := by decide +kernel
theorem dX12_leaves_49 : decode cX12_leaves 49 = .ok (.aload_n 0, 1) := by decide +kernel
theorem dX12_leaves_50 : decode cX12_leaves 50 = .ok (.getfield 53, 3) := by decide +kernel
theorem dX12_leaves_53 : decode cX12_leaves 53 = .ok (.iload_n 2, 1) := by decide +kernel
theorem dX12_leaves_54 : decode cX12_leaves 54 = .ok (.aload_n 0, 1) := by decide +kernel
theorem dX12_leaves_55 : decode cX12_leaves 55 = .ok (.getfield 53, 3) := by decide +kernel
theorem dX12_leaves_58 : decode cX12_leaves 58 = .ok (.iload_n 2, 1) := by decide +kernel
theorem dX12_leaves_59 : decode cX12_leaves 59 = .ok (.iconst 1, 1) := by decide +kernel
theorem dX12_leaves_60 : decode cX12_leaves 60 = .ok (.iadd, 1) := by decide +kernel
theorem dX12_leaves_61 : decode cX12_leaves 61 = .ok (.iaload, 1) := by decide +kernel
theorem dX12_leaves_62 : decode cX12_leaves 62 = .ok (.iastore, 1) := by decide +kernel
theorem dX12_leaves_63 : decode cX12_leaves 63 = .ok (.aload_n 0, 1) := by decide +kernel
theorem dX12_leaves_64 : decode cX12_leaves 64 = .ok (.getfield 56, 3) := by decide +kernel
theorem dX12_leaves_67 : decode cX12_leaves 67 = .ok (.iload_n 2, 1) := by decide +kernel
theorem dX12_leaves_68 : decode cX12_leaves 68 = .ok (.aload_n 0, 1) := by decide +kernel
theorem dX12_leaves_69 : decode cX12_leaves 69 = .ok (.getfield 56, 3) := by decide +kernel
theorem dX12_leaves_72 : decode cX12_leaves 72 = .ok (.iload_n 2, 1) := by decide +kernel
theorem dX12_leaves_73 : decode cX12_leaves 73 = .ok (.iconst 1, 1) := by decide +kernel
theorem dX12_leaves_74 : decode cX12_leaves 74 = .ok (.iadd, 1) := by decide +kernel
theorem dX12_leaves_75 : decode cX12_leaves 75 = .ok (.iaload, 1) := by decide +kernel
theorem dX12_leaves_76 : decode cX12_leaves 76 = .ok (.iastore, 1) := by decide +kernel
theorem dX12_leaves_77 : decode cX12_leaves 77 = .ok (.aload_n 0, 1) := by decide +kernel
theorem dX12_leaves_78 : decode cX12_leaves 78 = .ok (.getfield 59, 3) := by decide +kernel
theorem dX12_leaves_81 : decode cX12_leaves 81 = .ok (.iload_n 2, 1) := by decide +kernel
theorem dX12_leaves_82 : decode cX12_leaves 82 = .ok (.aload_n 0, 1) := by decide +kernel
theorem dX12_leaves_83 : decode cX12_leaves 83 = .ok (.getfield 59, 3) := by decide +kernel
theorem dX12_leaves_86 : decode cX12_leaves 86 = .ok (.iload_n 2, 1) := by decide +kernel
theorem dX12_leaves_87 : decode cX12_leaves 87 = .ok (.iconst 1, 1) := by decide +kernel
theorem dX12_leaves_88 : decode cX12_leaves 88 = .ok (.iadd, 1) := by decide +kernel
theorem dX12_leaves_89 : decode cX12_leaves 89 = .ok (.iaload, 1) := by decide +kernel
theorem dX12_leaves_90 : decode cX12_leaves 90 = .ok (.iastore, 1) := by decide +kernel
theorem dX12_leaves_91 : decode cX12_leaves 91 = .ok (.aload_n 0, 1) := by decide +kernel
theorem dX12_leaves_92 : decode cX12_leaves 92 = .ok (.getfield 62, 3) := by decide +kernel
theorem dX12_leaves_95 : decode cX12_leaves 95 = .ok (.iload_n 2, 1) := by decide +kernel
theorem dX12_leaves_96 : decode cX12_leaves 96 = .ok (.aload_n 0, 1) := by decide +kernel
theorem dX12_leaves_97 : decode cX12_leaves 97 = .ok (.getfield 62, 3) := by decide +kernel
theorem dX12_leaves_100 : decode cX12_leaves 100 = .ok (.iload_n 2, 1) := by decide +kernel
theorem dX12_leaves_101 : decode cX12_leaves 101 = .ok (.iconst 1, 1) := by decide +kernel
theorem dX12_leaves_102 : decode cX12_leaves 102 = .ok (.iadd, 1) := by decide +kernel
theorem dX12_leaves_103 : decode cX12_leaves 103 = .ok (.iaload, 1) := by decide +kernel
theorem dX12_leaves_104 : decode cX12_leaves 104 = .ok (.iastore, 1) := by decide +kernel
theorem dX12_leaves_105 : decode cX12_leaves 105 = .ok (.aload_n 0, 1) := by decide +kernel
theorem dX12_leaves_106 : decode cX12_leaves 106 = .ok (.getfield 65, 3) := by decide +kernel
theorem dX12_leaves_109 : decode cX12_leaves 109 = .ok (.iload_n 2, 1) := by decide +kernel
theorem dX12_leaves_110 : decode cX12_leaves 110 = .ok (.aload_n 0, 1) := by decide +kernel
theorem dX12_leaves_111 : decode cX12_leaves 111 = .ok (.getfield 65, 3) := by decide +kernel
theorem dX12_leaves_114 : decode cX12_leaves 114 = .ok (.iload_n 2, 1) := by decide +kernel
theorem dX12_leaves_115 : decode cX12_leaves 115 = .ok (.iconst 1, 1) := by decide +kernel
theorem dX12_leaves_116 : decode cX12_leaves 116 = .ok (.iadd, 1) := by decide +kernel
theorem dX12_leaves_117 : decode cX12_leaves 117 = .ok (.iaload, 1) := by decide +kernel
theorem dX12_leaves_118 : decode cX12_leaves 118 = .ok (.iastore, 1) := by decide +kernel
theorem dX12_leaves_119 : decode cX12_leaves 119 = .ok (.iinc 2 1, 3) := by decide +kernel
theorem dX12_leaves_122 : decode cX12_leaves 122 = .ok (.goto (-95), 3) := by decide +kernel
theorem dX12_leaves_125 : decode cX12_leaves 125 = .ok (.aload_n 0, 1) := by decide +kernel
theorem dX12_leaves_126 : decode cX12_leaves 126 = .ok (.getfield 171, 3) := by decide +kernel
theorem dX12_leaves_129 : decode cX12_leaves 129 = .ok (.ireturn, 1) := by decide +kernel
theorem dX12_mood_0 : decode cX12_mood 0 = .ok (.aload_n 0, 1) := by decide +kernel
theorem dX12_mood_1 : decode cX12_mood 1 = .ok (.iconst 0, 1) := by decide +kernel
theorem dX12_mood_2 : decode cX12_mood 2 = .ok (.putfield 160, 3) := by decide +kernel
theorem dX12_mood_5 : decode cX12_mood 5 = .ok (.aload_n 0, 1) := by decide +kernel
theorem dX12_mood_6 : decode cX12_mood 6 = .ok (.iload_n 1, 1) := by decide +kernel
theorem dX12_mood_7 : decode cX12_mood 7 = .ok (.invokevirtual 337, 3) := by decide +kernel
theorem dX12_mood_10 : decode cX12_mood 10 = .ok (.ifCond .eq 17, 3) := by decide +kernel
theorem dX12_mood_13 : decode cX12_mood 13 = .ok (.iload_n 2, 1) := by decide +kernel
theorem dX12_mood_14 : decode cX12_mood 14 = .ok (.i2l, 1) := by decide +kernel
theorem dX12_mood_15 : decode cX12_mood 15 = .ok (.ldc2_w 340, 3) := by decide +kernel
theorem dX12_mood_18 : decode cX12_mood 18 = .ok (.ldc2_w 342, 3) := by decide +kernel
theorem dX12_mood_21 : decode cX12_mood 21 = .ok (.invokestatic 165, 3) := by decide +kernel
theorem dX12_mood_24 : decode cX12_mood 24 = .ok (.ifCond .ne 5, 3) := by decide +kernel
theorem dX12_mood_27 : decode cX12_mood 27 = .ok (.iconst (-1), 1) := by decide +kernel
theorem dX12_mood_28 : decode cX12_mood 28 = .ok (.ireturn, 1) := by decide +kernel
theorem dX12_mood_29 : decode cX12_mood 29 = .ok (.aload_n 0, 1) := by decide +kernel
theorem dX12_mood_30 : decode cX12_mood 30 = .ok (.getfield 62, 3) := by decide +kernel
theorem dX12_mood_33 : decode cX12_mood 33 = .ok (.iload_n 1, 1) := by decide +kernel
theorem dX12_mood_34 : decode cX12_mood 34 = .ok (.iaload, 1) := by decide +kernel
theorem dX12_mood_35 : decode cX12_mood 35 = .ok (.istore_n 3, 1) := by decide +kernel
theorem dX12_mood_36 : decode cX12_mood 36 = .ok (.aload_n 0, 1) := by decide +kernel
theorem dX12_mood_37 : decode cX12_mood 37 = .ok (.getfield 62, 3) := by decide +kernel
theorem dX12_mood_40 : decode cX12_mood 40 = .ok (.iload_n 1, 1) := by decide +kernel
theorem dX12_mood_41 : decode cX12_mood 41 = .ok (.iload_n 2, 1) := by decide +kernel
theorem dX12_mood_42 : decode cX12_mood 42 = .ok (.iastore, 1) := by decide +kernel
theorem dX12_mood_43 : decode cX12_mood 43 = .ok (.iload_n 3, 1) := by decide +kernel
theorem dX12_mood_44 : decode cX12_mood 44 = .ok (.bipush 9, 2) := by decide +kernel
theorem dX12_mood_46 : decode cX12_mood 46 = .ok (.iadd, 1) := by decide +kernel
theorem dX12_mood_47 : decode cX12_mood 47 = .ok (.ireturn, 1) := by decide +kernel
theorem dX12_coins_0 : decode cX12_coins 0 = .ok (.aload_n 0, 1) := by decide +kernel
theorem dX12_coins_1 : decode cX12_coins 1 = .ok (.iconst 0, 1) := by decide +kernel
theorem dX12_coins_2 : decode cX12_coins 2 = .ok (.putfield 160, 3) := by decide +kernel
theorem dX12_coins_5 : decode cX12_coins 5 = .ok (.aload_n 0, 1) := by decide +kernel
theorem dX12_coins_6 : decode cX12_coins 6 = .ok (.iload_n 1, 1) := by decide +kernel
theorem dX12_coins_7 : decode cX12_coins 7 = .ok (.invokevirtual 337, 3) := by decide +kernel
theorem dX12_coins_10 : decode cX12_coins 10 = .ok (.ifCond .eq 15, 3) := by decide +kernel
theorem dX12_coins_13 : decode cX12_coins 13 = .ok (.iload_n 2, 1) := by decide +kernel
theorem dX12_coins_14 : decode cX12_coins 14 = .ok (.i2l, 1) := by decide +kernel
theorem dX12_coins_15 : decode cX12_coins 15 = .ok (.lconst 0, 1) := by decide +kernel
theorem dX12_coins_16 : decode cX12_coins 16 = .ok (.ldc2_w 346, 3) := by decide +kernel
theorem dX12_coins_19 : decode cX12_coins 19 = .ok (.invokestatic 165, 3) := by decide +kernel
theorem dX12_coins_22 : decode cX12_coins 22 = .ok (.ifCond .ne 5, 3) := by decide +kernel
theorem dX12_coins_25 : decode cX12_coins 25 = .ok (.iconst (-1), 1) := by decide +kernel
theorem dX12_coins_26 : decode cX12_coins 26 = .ok (.ireturn, 1) := by decide +kernel
theorem dX12_coins_27 : decode cX12_coins 27 = .ok (.aload_n 0, 1) := by decide +kernel
theorem dX12_coins_28 : decode cX12_coins 28 = .ok (.getfield 65, 3) := by decide +kernel
theorem dX12_coins_31 : decode cX12_coins 31 = .ok (.iload_n 1, 1) := by decide +kernel
theorem dX12_coins_32 : decode cX12_coins 32 = .ok (.iaload, 1) := by decide +kernel
theorem dX12_coins_33 : decode cX12_coins 33 = .ok (.istore_n 3, 1) := by decide +kernel
theorem dX12_coins_34 : decode cX12_coins 34 = .ok (.aload_n 0, 1) := by decide +kernel
theorem dX12_coins_35 : decode cX12_coins 35 = .ok (.getfield 65, 3) := by decide +kernel
theorem dX12_coins_38 : decode cX12_coins 38 = .ok (.iload_n 1, 1) := by decide +kernel
theorem dX12_coins_39 : decode cX12_coins 39 = .ok (.iload_n 2, 1) := by decide +kernel
theorem dX12_coins_40 : decode cX12_coins 40 = .ok (.iastore, 1) := by decide +kernel
theorem dX12_coins_41 : decode cX12_coins 41 = .ok (.iload_n 3, 1) := by decide +kernel
theorem dX12_coins_42 : decode cX12_coins 42 = .ok (.ireturn, 1) := by decide +kernel
theorem dX12_fact_0 : decode cX12_fact 0 = .ok (.aload_n 0, 1) := by decide +kernel
theorem dX12_fact_1 : decode cX12_fact 1 = .ok (.iconst 0, 1) := by decide +kernel
theorem dX12_fact_2 : decode cX12_fact 2 = .ok (.putfield 160, 3) := by decide +kernel
theorem dX12_fact_5 : decode cX12_fact 5 = .ok (.iload_n 1, 1) := by decide +kernel
theorem dX12_fact_6 : decode cX12_fact 6 = .ok (.invokestatic 294, 3) := by decide +kernel
theorem dX12_fact_9 : decode cX12_fact 9 = .ok (.ifCond .eq 24, 3) := by decide +kernel
theorem dX12_fact_12 : decode cX12_fact 12 = .ok (.iload_n 2, 1) := by decide +kernel
theorem dX12_fact_13 : decode cX12_fact 13 = .ok (.i2l, 1) := by decide +kernel
theorem dX12_fact_14 : decode cX12_fact 14 = .ok (.ldc2_w 340, 3) := by decide +kernel
theorem dX12_fact_17 : decode cX12_fact 17 = .ok (.ldc2_w 342, 3) := by decide +kernel
theorem dX12_fact_20 : decode cX12_fact 20 = .ok (.invokestatic 165, 3) := by decide +kernel
theorem dX12_fact_23 : decode cX12_fact 23 = .ok (.ifCond .eq 10, 3) := by decide +kernel
theorem dX12_fact_26 : decode cX12_fact 26 = .ok (.iload_n 3, 1) := by decide +kernel
theorem dX12_fact_27 : decode cX12_fact 27 = .ok (.invokestatic 297, 3) := by decide +kernel
theorem dX12_fact_30 : decode cX12_fact 30 = .ok (.ifCond .ne 5, 3) := by decide +kernel
theorem dX12_fact_33 : decode cX12_fact 33 = .ok (.iconst (-1), 1) := by decide +kernel
theorem dX12_fact_34 : decode cX12_fact 34 = .ok (.ireturn, 1) := by decide +kernel
theorem dX12_fact_35 : decode cX12_fact 35 = .ok (.aload_n 0, 1) := by decide +kernel
theorem dX12_fact_36 : decode cX12_fact 36 = .ok (.iload_n 1, 1) := by decide +kernel
theorem dX12_fact_37 : decode cX12_fact 37 = .ok (.iload_n 2, 1) := by decide +kernel
theorem dX12_fact_38 : decode cX12_fact 38 = .ok (.iload_n 3, 1) := by decide +kernel
theorem dX12_fact_39 : decode cX12_fact 39 = .ok (.invokevirtual 310, 3) := by decide +kernel
theorem dX12_fact_42 : decode cX12_fact 42 = .ok (.ifCond .eq 12, 3) := by decide +kernel
theorem dX12_fact_45 : decode cX12_fact 45 = .ok (.aload_n 0, 1) := by decide +kernel
theorem dX12_fact_46 : decode cX12_fact 46 = .ok (.getfield 181, 3) := by decide +kernel
theorem dX12_fact_49 : decode cX12_fact 49 = .ok (.iconst 1, 1) := by decide +kernel
theorem dX12_fact_50 : decode cX12_fact 50 = .ok (.isub, 1) := by decide +kernel
theorem dX12_fact_51 : decode cX12_fact 51 = .ok (.goto 5, 3) := by decide +kernel
theorem dX12_fact_54 : decode cX12_fact 54 = .ok (.bipush (-2), 2) := by decide +kernel
theorem dX12_fact_56 : decode cX12_fact 56 = .ok (.ireturn, 1) := by decide +kernel
theorem dX12_about_0 : decode cX12_about 0 = .ok (.aload_n 0, 1) := by decide +kernel
theorem dX12_about_1 : decode cX12_about 1 = .ok (.iconst 0, 1) := by decide +kernel
theorem dX12_about_2 : decode cX12_about 2 = .ok (.putfield 160, 3) := by decide +kernel
theorem dX12_about_5 : decode cX12_about 5 = .ok (.iload_n 1, 1) := by decide +kernel
theorem dX12_about_6 : decode cX12_about 6 = .ok (.i2l, 1) := by decide +kernel
theorem dX12_about_7 : decode cX12_about 7 = .ok (.lconst 0, 1) := by decide +kernel
theorem dX12_about_8 : decode cX12_about 8 = .ok (.aload_n 0, 1) := by decide +kernel
theorem dX12_about_9 : decode cX12_about 9 = .ok (.getfield 181, 3) := by decide +kernel
theorem dX12_about_12 : decode cX12_about 12 = .ok (.iconst 1, 1) := by decide +kernel
theorem dX12_about_13 : decode cX12_about 13 = .ok (.isub, 1) := by decide +kernel
theorem dX12_about_14 : decode cX12_about 14 = .ok (.i2l, 1) := by decide +kernel
theorem dX12_about_15 : decode cX12_about 15 = .ok (.invokestatic 165, 3) := by decide +kernel
theorem dX12_about_18 : decode cX12_about 18 = .ok (.ifCond .ne 5, 3) := by decide +kernel
theorem dX12_about_21 : decode cX12_about 21 = .ok (.iconst (-1), 1) := by decide +kernel
theorem dX12_about_22 : decode cX12_about 22 = .ok (.ireturn, 1) := by decide +kernel
theorem dX12_about_23 : decode cX12_about 23 = .ok (.iload_n 2, 1) := by decide +kernel
theorem dX12_about_24 : decode cX12_about 24 = .ok (.tableswitch 63 0 3 #[32, 39, 49, 56], 32) := by decide +kernel
theorem dX12_about_56 : decode cX12_about 56 = .ok (.aload_n 0, 1) := by decide +kernel
theorem dX12_about_57 : decode cX12_about 57 = .ok (.getfield 13, 3) := by decide +kernel
theorem dX12_about_60 : decode cX12_about 60 = .ok (.iload_n 1, 1) := by decide +kernel
theorem dX12_about_61 : decode cX12_about 61 = .ok (.iaload, 1) := by decide +kernel
theorem dX12_about_62 : decode cX12_about 62 = .ok (.ireturn, 1) := by decide +kernel
theorem dX12_about_63 : decode cX12_about 63 = .ok (.aload_n 0, 1) := by decide +kernel
theorem dX12_about_64 : decode cX12_about 64 = .ok (.getfield 16, 3) := by decide +kernel
theorem dX12_about_67 : decode cX12_about 67 = .ok (.iload_n 1, 1) := by decide +kernel
theorem dX12_about_68 : decode cX12_about 68 = .ok (.iaload, 1) := by decide +kernel
theorem dX12_about_69 : decode cX12_about 69 = .ok (.bipush 9, 2) := by decide +kernel
theorem dX12_about_71 : decode cX12_about 71 = .ok (.iadd, 1) := by decide +kernel
theorem dX12_about_72 : decode cX12_about 72 = .ok (.ireturn, 1) := by decide +kernel
theorem dX12_about_73 : decode cX12_about 73 = .ok (.aload_n 0, 1) := by decide +kernel
theorem dX12_about_74 : decode cX12_about 74 = .ok (.getfield 19, 3) := by decide +kernel
theorem dX12_about_77 : decode cX12_about 77 = .ok (.iload_n 1, 1) := by decide +kernel
theorem dX12_about_78 : decode cX12_about 78 = .ok (.iaload, 1) := by decide +kernel
theorem dX12_about_79 : decode cX12_about 79 = .ok (.ireturn, 1) := by decide +kernel
theorem dX12_about_80 : decode cX12_about 80 = .ok (.aload_n 0, 1) := by decide +kernel
theorem dX12_about_81 : decode cX12_about 81 = .ok (.getfield 22, 3) := by decide +kernel
theorem dX12_about_84 : decode cX12_about 84 = .ok (.iload_n 1, 1) := by decide +kernel
theorem dX12_about_85 : decode cX12_about 85 = .ok (.iaload, 1) := by decide +kernel
theorem dX12_about_86 : decode cX12_about 86 = .ok (.ireturn, 1) := by decide +kernel
theorem dX12_about_87 : decode cX12_about 87 = .ok (.iconst (-1), 1) := by decide +kernel
theorem dX12_about_88 : decode cX12_about 88 = .ok (.ireturn, 1) := by decide +kernel
theorem dX12_chance_0 : decode cX12_chance 0 = .ok (.aload_n 0, 1) := by decide +kernel
theorem dX12_chance_1 : decode cX12_chance 1 = .ok (.iconst 0, 1) := by decide +kernel
theorem dX12_chance_2 : decode cX12_chance 2 = .ok (.putfield 160, 3) := by decide +kernel
theorem dX12_chance_5 : decode cX12_chance 5 = .ok (.iload_n 1, 1) := by decide +kernel
theorem dX12_chance_6 : decode cX12_chance 6 = .ok (.i2l, 1) := by decide +kernel
theorem dX12_chance_7 : decode cX12_chance 7 = .ok (.lconst 0, 1) := by decide +kernel
theorem dX12_chance_8 : decode cX12_chance 8 = .ok (.aload_n 0, 1) := by decide +kernel
theorem dX12_chance_9 : decode cX12_chance 9 = .ok (.getfield 181, 3) := by decide +kernel
theorem dX12_chance_12 : decode cX12_chance 12 = .ok (.iconst 1, 1) := by decide +kernel
theorem dX12_chance_13 : decode cX12_chance 13 = .ok (.isub, 1) := by decide +kernel
theorem dX12_chance_14 : decode cX12_chance 14 = .ok (.i2l, 1) := by decide +kernel
theorem dX12_chance_15 : decode cX12_chance 15 = .ok (.invokestatic 165, 3) := by decide +kernel
theorem dX12_chance_18 : decode cX12_chance 18 = .ok (.ifCond .eq 15, 3) := by decide +kernel
theorem dX12_chance_21 : decode cX12_chance 21 = .ok (.iload_n 2, 1) := by decide +kernel
theorem dX12_chance_22 : decode cX12_chance 22 = .ok (.i2l, 1) := by decide +kernel
theorem dX12_chance_23 : decode cX12_chance 23 = .ok (.lconst 0, 1) := by decide +kernel
theorem dX12_chance_24 : decode cX12_chance 24 = .ok (.ldc2_w 358, 3) := by decide +kernel
theorem dX12_chance_27 : decode cX12_chance 27 = .ok (.invokestatic 165, 3) := by decide +kernel
theorem dX12_chance_30 : decode cX12_chance 30 = .ok (.ifCond .ne 5, 3) := by decide +kernel
theorem dX12_chance_33 : decode cX12_chance 33 = .ok (.iconst (-1), 1) := by decide +kernel
theorem dX12_chance_34 : decode cX12_chance 34 = .ok (.ireturn, 1) := by decide +kernel
theorem dX12_chance_35 : decode cX12_chance 35 = .ok (.aload_n 0, 1) := by decide +kernel
theorem dX12_chance_36 : decode cX12_chance 36 = .ok (.getfield 22, 3) := by decide +kernel
theorem dX12_chance_39 : decode cX12_chance 39 = .ok (.iload_n 1, 1) := by decide +kernel
theorem dX12_chance_40 : decode cX12_chance 40 = .ok (.iaload, 1) := by decide +kernel
theorem dX12_chance_41 : decode cX12_chance 41 = .ok (.istore_n 3, 1) := by decide +kernel
theorem dX12_chance_42 : decode cX12_chance 42 = .ok (.aload_n 0, 1) := by decide +kernel
theorem dX12_chance_43 : decode cX12_chance 43 = .ok (.getfield 22, 3) := by decide +kernel
theorem dX12_chance_46 : decode cX12_chance 46 = .ok (.iload_n 1, 1) := by decide +kernel
theorem dX12_chance_47 : decode cX12_chance 47 = .ok (.iload_n 2, 1) := by decide +kernel
theorem dX12_chance_48 : decode cX12_chance 48 = .ok (.iastore, 1) := by decide +kernel
theorem dX12_chance_49 : decode cX12_chance 49 = .ok (.iload_n 3, 1) := by decide +kernel
theorem dX12_chance_50 : decode cX12_chance 50 = .ok (.ireturn, 1) := by decide +kernel
theorem dX12_kin_0 : decode cX12_kin 0 = .ok (.aload_n 0, 1) := by decide +kernel
theorem dX12_kin_1 : decode cX12_kin 1 = .ok (.iconst 0, 1) := by decide +kernel
theorem dX12_kin_2 : decode cX12_kin 2 = .ok (.putfield 160, 3) := by decide +kernel
theorem dX12_kin_5 : decode cX12_kin 5 = .ok (.iload_n 1, 1) := by decide +kernel
theorem dX12_kin_6 : decode cX12_kin 6 = .ok (.invokestatic 294, 3) := by decide +kernel
theorem dX12_kin_9 : decode cX12_kin 9 = .ok (.ifCond .eq 15, 3) := by decide +kernel
theorem dX12_kin_12 : decode cX12_kin 12 = .ok (.iload_n 2, 1) := by decide +kernel
theorem dX12_kin_13 : decode cX12_kin 13 = .ok (.invokestatic 294, 3) := by decide +kernel
theorem dX12_kin_16 : decode cX12_kin 16 = .ok (.ifCond .eq 8, 3) := by decide +kernel
theorem dX12_kin_19 : decode cX12_kin 19 = .ok (.iload_n 1, 1) := by decide +kernel
theorem dX12_kin_20 : decode cX12_kin 20 = .ok (.iload_n 2, 1) := by decide +kernel
theorem dX12_kin_21 : decode cX12_kin 21 = .ok (.if_icmp .ne 5, 3) := by decide +kernel
theorem dX12_kin_24 : decode cX12_kin 24 = .ok (.iconst (-1), 1) := by decide +kernel
theorem dX12_kin_25 : decode cX12_kin 25 = .ok (.ireturn, 1) := by decide +kernel
theorem dX12_kin_26 : decode cX12_kin 26 = .ok (.aload_n 0, 1) := by decide +kernel
theorem dX12_kin_27 : decode cX12_kin 27 = .ok (.iload_n 1, 1) := by decide +kernel
theorem dX12_kin_28 : decode cX12_kin 28 = .ok (.iload_n 2, 1) := by decide +kernel
theorem dX12_kin_29 : decode cX12_kin 29 = .ok (.invokevirtual 316, 3) := by decide +kernel
theorem dX12_kin_32 : decode cX12_kin 32 = .ok (.aload_n 0, 1) := by decide +kernel
theorem dX12_kin_33 : decode cX12_kin 33 = .ok (.getfield 7, 3) := by decide +kernel
theorem dX12_kin_36 : decode cX12_kin 36 = .ok (.iconst 4, 1) := by decide +kernel
theorem dX12_kin_37 : decode cX12_kin 37 = .ok (.iload_n 1, 1) := by decide +kernel
theorem dX12_kin_38 : decode cX12_kin 38 = .ok (.imul, 1) := by decide +kernel
theorem dX12_kin_39 : decode cX12_kin 39 = .ok (.iload_n 2, 1) := by decide +kernel
theorem dX12_kin_40 : decode cX12_kin 40 = .ok (.iadd, 1) := by decide +kernel
theorem dX12_kin_41 : decode cX12_kin 41 = .ok (.iaload, 1) := by decide +kernel
theorem dX12_kin_42 : decode cX12_kin 42 = .ok (.ireturn, 1) := by decide +kernel
def b_X12_price_34 (S : St) : Option (Int32 × St) := some ((-1), S)
def b_X12_price_0 (v1 : Int32) (v2 : Int32) (S : St) : Option (Int32 × St) := nm (si S 136 28 0) fun S1 => (L_X12_isOne v1 S1).bind fun r2 => (if (r2 : Int32) = 0 then (b_X12_price_34 S1) else (L_X12_in v2.toInt64 0 999 S1).bind fun r4 => (if (r4 : Int32) = 0 then (b_X12_price_34 S1) else (L_X12_priceOf v1 v2 S1).bind fun r6 => some (r6, S1)))
def L_X12_price (a1 : Int32) (a2 : Int32) (S : St) : Option (Int32 × St) := b_X12_price_0 a1 a2 S
def b_X12_wrongKept_0 (v1 : Int32) (S : St) : Option Int32 := (L_X12_in v1.toInt64 0 7 S).bind fun r1 => (if (r1 : Int32) = 0 then some ((-1)) else gd (inb v1 8) ((if (gi S 153 v1.toNatClampNeg : Int32) = 0 then some ((-11)) else gd (inb v1 8) ((if (gi S 153 v1.toNatClampNeg : Int32) = 1 then some 0 else some ((-12)))))))
def L_X12_wrongKept (a1 : Int32) (S : St) : Option Int32 := b_X12_wrongKept_0 a1 S
def b_X12_comes_91 (v1 : Int32) (v2 : Int32) (v3 : Int32) (v4 : Int32) (v5 : Int32) (s0 : Int32) (S : St) : Option (Int32 × St) := (if (0 : Int32) ≤ s0 then gd (inb v1 8) (gd (inb v1 8) ((L_X12_oneComes (gi S 154 v1.toNatClampNeg) (gi S 155 v1.toNatClampNeg) v2 v3 v4 v5 S).bind fun r4 => some ((gi r4 136 15) - 1, r4))) else some (s0, S))
def b_X12_comes_89 (v1 : Int32) (v2 : Int32) (v3 : Int32) (v4 : Int32) (v5 : Int32) (v7 : Int32) (S : St) : Option (Int32 × St) := (b_X12_comes_91 v1 v2 v3 v4 v5 v7 S)
def b_X12_comes_68 (v1 : Int32) (v2 : Int32) (v3 : Int32) (v4 : Int32) (v5 : Int32) (s0 : Int32) (S : St) : Option (Int32 × St) := (if (s0 : Int32) = 0 then (if (gi S 136 15 : Int32) = 8 then (b_X12_comes_91 v1 v2 v3 v4 v5 ((-2)) S) else (b_X12_comes_89 v1 v2 v3 v4 v5 s0 S)) else (b_X12_comes_89 v1 v2 v3 v4 v5 s0 S))
def b_X12_comes_52 (v1 : Int32) (v2 : Int32) (v3 : Int32) (v4 : Int32) (v5 : Int32) (s0 : Int32) (S : St) : Option (Int32 × St) := (if (s0 : Int32) = 0 then (b_X12_comes_68 v1 v2 v3 v4 v5 ((-1)) S) else (L_X12_wrongKept v1 S).bind fun r2 => (b_X12_comes_68 v1 v2 v3 v4 v5 r2 S))
def b_X12_comes_51 (v1 : Int32) (v2 : Int32) (v3 : Int32) (v4 : Int32) (v5 : Int32) (S : St) : Option (Int32 × St) := (b_X12_comes_52 v1 v2 v3 v4 v5 0 S)
def b_X12_comes_0 (v1 : Int32) (v2 : Int32) (v3 : Int32) (v4 : Int32) (v5 : Int32) (S : St) : Option (Int32 × St) := nm (si S 136 28 0) fun S1 => (L_X12_isCase v2 S1).bind fun r2 => (if (r2 : Int32) = 0 then (b_X12_comes_51 v1 v2 v3 v4 v5 S1) else (L_X12_isHour v3 S1).bind fun r4 => (if (r4 : Int32) = 0 then (b_X12_comes_51 v1 v2 v3 v4 v5 S1) else (L_X12_in v4.toInt64 ((-9)) 9 S1).bind fun r6 => (if (r6 : Int32) = 0 then (b_X12_comes_51 v1 v2 v3 v4 v5 S1) else (L_X12_in v5.toInt64 0 99 S1).bind fun r8 => (if (r8 : Int32) = 0 then (b_X12_comes_51 v1 v2 v3 v4 v5 S1) else (b_X12_comes_52 v1 v2 v3 v4 v5 1 S1)))))
def L_X12_comes (a1 : Int32) (a2 : Int32) (a3 : Int32) (a4 : Int32) (a5 : Int32) (S : St) : Option (Int32 × St) := b_X12_comes_0 a1 a2 a3 a4 a5 S
def b_X12_leaves_27 (v2 : Int32) (S : St) : Option ((Int32 × St) ⊕ (Int32 × St)) := (if (gi S 136 15 : Int32) ≤ v2 then some (.inr (gi S 136 15, S)) else gd (inb (v2 + 1) 8) (gd (inb v2 8) (nm (si S 147 v2.toNatClampNeg (gi S 147 (v2 + 1).toNatClampNeg)) fun S4 => gd (inb (v2 + 1) 8) (gd (inb v2 8) (nm (si S4 148 v2.toNatClampNeg (gi S4 148 (v2 + 1).toNatClampNeg)) fun S7 => gd (inb (v2 + 1) 8) (gd (inb v2 8) (nm (si S7 149 v2.toNatClampNeg (gi S7 149 (v2 + 1).toNatClampNeg)) fun S10 => gd (inb (v2 + 1) 8) (gd (inb v2 8) (nm (si S10 150 v2.toNatClampNeg (gi S10 150 (v2 + 1).toNatClampNeg)) fun S13 => gd (inb (v2 + 1) 8) (gd (inb v2 8) (nm (si S13 151 v2.toNatClampNeg (gi S13 151 (v2 + 1).toNatClampNeg)) fun S16 => gd (inb (v2 + 1) 8) (gd (inb v2 8) (nm (si S16 152 v2.toNatClampNeg (gi S16 152 (v2 + 1).toNatClampNeg)) fun S19 => some (.inl ((v2 + 1), S19)))))))))))))))
def l_X12_leaves_27 (x : (Int32 × St)) : Option ((Int32 × St) ⊕ (Int32 × St)) := b_X12_leaves_27 x.1 x.2
def b_X12_leaves_0 (v1 : Int32) (S : St) : Option (Int32 × St) := nm (si S 136 28 0) fun S1 => (L_X12_isOne v1 S1).bind fun r2 => (if (r2 : Int32) = 0 then some ((-1), S1) else nm (si S1 136 15 ((gi S1 136 15) - 1)) fun S4 => (lp 1000 (l_X12_leaves_27) (v1, S4)))
def L_X12_leaves (a1 : Int32) (S : St) : Option (Int32 × St) := b_X12_leaves_0 a1 S
def b_X12_mood_0 (v1 : Int32) (v2 : Int32) (S : St) : Option (Int32 × St) := nm (si S 136 28 0) fun S1 => (L_X12_isOne v1 S1).bind fun r2 => (if (r2 : Int32) = 0 then some ((-1), S1) else (L_X12_in v2.toInt64 ((-9)) 9 S1).bind fun r4 => (if (r4 : Int32) = 0 then some ((-1), S1) else gd (inb v1 8) (gd (inb v1 8) (nm (si S1 151 v1.toNatClampNeg v2) fun S8 => some ((gi S1 151 v1.toNatClampNeg) + 9, S8)))))
def L_X12_mood (a1 : Int32) (a2 : Int32) (S : St) : Option (Int32 × St) := b_X12_mood_0 a1 a2 S
def b_X12_coins_0 (v1 : Int32) (v2 : Int32) (S : St) : Option (Int32 × St) := nm (si S 136 28 0) fun S1 => (L_X12_isOne v1 S1).bind fun r2 => (if (r2 : Int32) = 0 then some ((-1), S1) else (L_X12_in v2.toInt64 0 99 S1).bind fun r4 => (if (r4 : Int32) = 0 then some ((-1), S1) else gd (inb v1 8) (gd (inb v1 8) (nm (si S1 152 v1.toNatClampNeg v2) fun S8 => some (gi S1 152 v1.toNatClampNeg, S8)))))
def L_X12_coins (a1 : Int32) (a2 : Int32) (S : St) : Option (Int32 × St) := b_X12_coins_0 a1 a2 S
def b_X12_fact_0 (v1 : Int32) (v2 : Int32) (v3 : Int32) (S : St) : Option (Int32 × St) := nm (si S 136 28 0) fun S1 => (L_X12_isCase v1 S1).bind fun r2 => (if (r2 : Int32) = 0 then some ((-1), S1) else (L_X12_in v2.toInt64 ((-9)) 9 S1).bind fun r4 => (if (r4 : Int32) = 0 then some ((-1), S1) else (L_X12_isHour v3 S1).bind fun r6 => (if (r6 : Int32) = 0 then some ((-1), S1) else (L_X12_factComes v1 v2 v3 S1).bind fun r8 => (if (r8.1 : Int32) = 0 then some ((-2), r8.2) else some ((gi r8.2 136 1) - 1, r8.2)))))
def L_X12_fact (a1 : Int32) (a2 : Int32) (a3 : Int32) (S : St) : Option (Int32 × St) := b_X12_fact_0 a1 a2 a3 S
def b_X12_about_0 (v1 : Int32) (v2 : Int32) (S : St) : Option (Int32 × St) := nm (si S 136 28 0) fun S1 => (L_X12_in v1.toInt64 0 (((gi S1 136 1) - 1).toInt64) S1).bind fun r2 => (if (r2 : Int32) = 0 then some ((-1), S1) else (if (v2 : Int32) = 0 then gd (inb v1 6) (some (gi S1 138 v1.toNatClampNeg, S1)) else if (v2 : Int32) = 1 then gd (inb v1 6) (some ((gi S1 139 v1.toNatClampNeg) + 9, S1)) else if (v2 : Int32) = 2 then gd (inb v1 6) (some (gi S1 140 v1.toNatClampNeg, S1)) else if (v2 : Int32) = 3 then gd (inb v1 6) (some (gi S1 141 v1.toNatClampNeg, S1)) else some ((-1), S1)))
def L_X12_about (a1 : Int32) (a2 : Int32) (S : St) : Option (Int32 × St) := b_X12_about_0 a1 a2 S
def b_X12_chance_0 (v1 : Int32) (v2 : Int32) (S : St) : Option (Int32 × St) := nm (si S 136 28 0) fun S1 => (L_X12_in v1.toInt64 0 (((gi S1 136 1) - 1).toInt64) S1).bind fun r2 => (if (r2 : Int32) = 0 then some ((-1), S1) else (L_X12_in v2.toInt64 0 10 S1).bind fun r4 => (if (r4 : Int32) = 0 then some ((-1), S1) else gd (inb v1 6) (gd (inb v1 6) (nm (si S1 141 v1.toNatClampNeg v2) fun S8 => some (gi S1 141 v1.toNatClampNeg, S8)))))
def L_X12_chance (a1 : Int32) (a2 : Int32) (S : St) : Option (Int32 × St) := b_X12_chance_0 a1 a2 S
def b_X12_kin_0 (v1 : Int32) (v2 : Int32) (S : St) : Option (Int32 × St) := nm (si S 136 28 0) fun S1 => (L_X12_isCase v1 S1).bind fun r2 => (if (r2 : Int32) = 0 then some ((-1), S1) else (L_X12_isCase v2 S1).bind fun r4 => (if (r4 : Int32) = 0 then some ((-1), S1) else (if (v1 : Int32) = v2 then some ((-1), S1) else (L_X12_turnKin v1 v2 S1).bind fun r7 => gd (inb ((4 * v1) + v2) 16) (some (gi r7 137 ((4 * v1) + v2).toNatClampNeg, r7)))))
def L_X12_kin (a1 : Int32) (a2 : Int32) (S : St) : Option (Int32 × St) := b_X12_kin_0 a1 a2 S
section WALKS
variable {p : Program} {e : Env} {s : State} {m : MethodId} {args : Array Value} {below : List Frame} {meth : Method} {c : Code} {D : va_G} {ct : Nat → ClassId} {B : Nat} {Hb : Heap}
set_option maxRecDepth 100000 in
set_option maxHeartbeats 4000000 in
theorem w_X12_price_34 (l : Launch) {V : Int32 × St} (C0 : XC D ct p s m args meth c cX12_price 3 (some .int) RX12) (S : St) {H : Heap} {locs : List Loc} {ls : Array Slot} (h : (b_X12_price_34 S).bind some = some V) (hP : MP D ct B Hb S H) (hS : va_S (AB B) s.heap H locs) (hl : lv_has ls 3 []) : W p l e { frames := 2, cells := 0, slots := 0, locals := 46 } s m args below meth c H locs 0 0 (MQ below (qIw D ct B Hb V) args s 0 0 (AB B)) (F0 m 34 ls []) := by
  obtain ⟨hx, hb, hr, hml, hown, hts, hK, hlocks, hN⟩ := id C0
  unfold b_X12_price_34 at h
  refine lv_iconst (v := (-1)) hx hb dX12_price_34 (by decide) ?_
  exact r_Iw C0 hP hS h dX12_price_35
set_option maxRecDepth 100000 in
set_option maxHeartbeats 4000000 in
theorem w_X12_price_0 (l : Launch) {V : Int32 × St} (C0 : XC D ct p s m args meth c cX12_price 3 (some .int) RX12) (v1 : Int32) (v2 : Int32) (S : St) {H : Heap} {locs : List Loc} {ls : Array Slot} (h : (b_X12_price_0 v1 v2 S).bind some = some V) (hP : MP D ct B Hb S H) (hS : va_S (AB B) s.heap H locs) (hl : lv_has ls 3 [(0, .ref (B + 136)), (1, .int v1), (2, .int v2)]) : W p l e { frames := 2, cells := 0, slots := 0, locals := 46 } s m args below meth c H locs 0 0 (MQ below (qIw D ct B Hb V) args s 0 0 (AB B)) (F0 m 0 ls []) := by
  obtain ⟨hx, hb, hr, hml, hown, hts, hK, hlocks, hN⟩ := id C0
  unfold b_X12_price_0 at h
  refine lv_aload_n hx hb dX12_price_0 rfl (lv_at hl 0 rfl) ?_
  refine lv_iconst (v := 0) hx hb dX12_price_1 (by decide) ?_
  obtain ⟨S1, eS1, h⟩ := ob_nm h
  refine x_put (S' := si S 136 28 0) (FS := (fs12 B)) C0 hP hS (fun S => lay_X12 B ct S) rfl inG12 tyX12 tyX12_ok nmX12 28 (by decide) wd_1169 rfl rfl (fun a ha => lay_local (gi_si_n _ _ _ ha) rfl rfl rfl) (put_12_28 B _ _) rfl rfl (Nat.le_of_ble_eq_true rfl) dX12_price_2 (fun H locs hP hS => ?_)
  rw [← eS1] at hP
  refine lv_aload_n hx hb dX12_price_5 rfl (lv_at hl 0 rfl) ?_
  refine lv_iload_n hx hb dX12_price_6 rfl (lv_at hl 1 rfl) ?_
  obtain ⟨r2, hr2, h⟩ := ob_bd h
  refine n_I (kV (As := [.int v1]) C0 (c_X12_isOne l v1 hr2) ⟨wd_1448, wd_1445, wd_1447, wp_37, wd_6⟩ kd_X12_isOne ⟨Nat.le_of_ble_eq_true rfl, Nat.le_of_ble_eq_true rfl⟩ hP (lay_X12 B ct S1) rfl rfl hl.1 rfl (Nat.le_of_ble_eq_true rfl) dX12_price_7 ⟨Nat.le_of_ble_eq_true rfl, Nat.le_of_ble_eq_true rfl⟩) hS (fun H locs hP hS => ?_)
  refine lv_if_eq (tgt := 34) hx hb dX12_price_10 (by decide) (fun z3 => ?_) (fun z3 => ?_)
  · have h := ob_t h z3
    exact w_X12_price_34 l C0 S1 h hP hS (lv_sub hl [] rfl)
  · have h := ob_f h z3
    refine lv_iload_n hx hb dX12_price_13 rfl (lv_at hl 2 rfl) ?_
    refine lv_i2l hx hb dX12_price_14 rfl ?_
    refine lv_lconst (v := 0) hx hb dX12_price_15 (by decide) ?_
    refine lv_ldc2 (v := 999) hx hb hown (hts _ wd_1471) dX12_price_16 ?_
    obtain ⟨r4, hr4, h⟩ := ob_bd h
    refine n_I (kS (As := [.long v2.toInt64, .long 0, .long 999]) C0 (c_X12_in l v2.toInt64 0 999 hr4) ⟨wd_1370, wd_1368, wd_1369, wd_6⟩ kd_X12_in ⟨Nat.le_of_ble_eq_true rfl, Nat.le_of_ble_eq_true rfl⟩ hP rfl hl.1 rfl (Nat.le_of_ble_eq_true rfl) dX12_price_19 ⟨Nat.le_of_ble_eq_true rfl, Nat.le_of_ble_eq_true rfl⟩) hS (fun H locs hP hS => ?_)
    refine lv_if_eq (tgt := 34) hx hb dX12_price_22 (by decide) (fun z5 => ?_) (fun z5 => ?_)
    · have h := ob_t h z5
      exact w_X12_price_34 l C0 S1 h hP hS (lv_sub hl [] rfl)
    · have h := ob_f h z5
      refine lv_aload_n hx hb dX12_price_25 rfl (lv_at hl 0 rfl) ?_
      refine lv_iload_n hx hb dX12_price_26 rfl (lv_at hl 1 rfl) ?_
      refine lv_iload_n hx hb dX12_price_27 rfl (lv_at hl 2 rfl) ?_
      obtain ⟨r6, hr6, h⟩ := ob_bd h
      refine n_I (kV (As := [.int v1, .int v2]) C0 (c_X12_priceOf l v1 v2 hr6) ⟨wd_1486, wd_1483, wd_1485, wp_41, wd_6⟩ kd_X12_priceOf ⟨Nat.le_of_ble_eq_true rfl, Nat.le_of_ble_eq_true rfl⟩ hP (lay_X12 B ct S1) rfl rfl hl.1 rfl (Nat.le_of_ble_eq_true rfl) dX12_price_28 ⟨Nat.le_of_ble_eq_true rfl, Nat.le_of_ble_eq_true rfl⟩) hS (fun H locs hP hS => ?_)
      refine lv_goto (tgt := 35) hx hb dX12_price_31 (by decide) ?_
      exact r_Iw C0 hP hS h dX12_price_35
set_option maxRecDepth 100000 in
set_option maxHeartbeats 4000000 in
theorem c_X12_price (l : Launch) (a1 : Int32) (a2 : Int32) {D : va_G} {ct : Nat → ClassId} {B : Nat} {Hb : Heap} {S : St} {V : Int32 × St} (h : L_X12_price a1 a2 S = some V) : Met l yX12_price (Cond.code yX12_price cX12_price 3 (some .int) :: tG) { frames := 2, cells := 0, slots := 0, locals := 46 } (va_Pc [.ref (B + 136), .int a1, .int a2] (MPK D ct B Hb S)) (qIw D ct B Hb V) 0 0 (AB B) := by
  refine mk_met (by decide +kernel) (Nat.le_of_ble_eq_true rfl) (fun p e s m args below meth c ls C0 hP hl _ => ?_)
  have h := ob_of h
  exact w_X12_price_0 l C0 a1 a2 S h hP va_S.rf (lv_sub hl [0, 1, 2] rfl)
set_option maxRecDepth 100000 in
set_option maxHeartbeats 4000000 in
theorem w_X12_wrongKept_0 (l : Launch) {V : Int32} (C0 : XC D ct p s m args meth c cX12_wrongKept 2 (some .int) RX12) (v1 : Int32) (S : St) {H : Heap} {locs : List Loc} {ls : Array Slot} (h : (b_X12_wrongKept_0 v1 S).bind some = some V) (hP : MP D ct B Hb S H) (hS : va_S (AB B) s.heap H locs) (hl : lv_has ls 2 [(0, .ref (B + 136)), (1, .int v1)]) : W p l e { frames := 1, cells := 0, slots := 0, locals := 25 } s m args below meth c H locs 0 0 (MQ below (qI D ct B Hb S V) args s 0 0 (AB B)) (F0 m 0 ls []) := by
  obtain ⟨hx, hb, hr, hml, hown, hts, hK, hlocks, hN⟩ := id C0
  unfold b_X12_wrongKept_0 at h
  refine lv_iload_n hx hb dX12_wrongKept_0 rfl (lv_at hl 1 rfl) ?_
  refine lv_i2l hx hb dX12_wrongKept_1 rfl ?_
  refine lv_lconst (v := 0) hx hb dX12_wrongKept_2 (by decide) ?_
  refine lv_ldc2 (v := 7) hx hb hown (hts _ wd_1367) dX12_wrongKept_3 ?_
  obtain ⟨r1, hr1, h⟩ := ob_bd h
  refine n_I (kS (As := [.long v1.toInt64, .long 0, .long 7]) C0 (c_X12_in l v1.toInt64 0 7 hr1) ⟨wd_1370, wd_1368, wd_1369, wd_6⟩ kd_X12_in ⟨Nat.le_of_ble_eq_true rfl, Nat.le_of_ble_eq_true rfl⟩ hP rfl hl.1 rfl (Nat.le_of_ble_eq_true rfl) dX12_wrongKept_6 ⟨Nat.le_of_ble_eq_true rfl, Nat.le_of_ble_eq_true rfl⟩) hS (fun H locs hP hS => ?_)
  refine lv_if_ne (tgt := 16) hx hb dX12_wrongKept_9 (by decide) (fun z2 => ?_) (fun z2 => ?_)
  · have h := ob_f h z2
    refine lv_aload_n hx hb dX12_wrongKept_16 rfl (lv_at hl 0 rfl) ?_
    refine x_get C0 hP (lay_X12 B ct S) rfl inG12 22 (by decide) wd_1163 (fun _ h => h) rfl dX12_wrongKept_17 ?_
    refine lv_iload_n hx hb dX12_wrongKept_20 rfl (lv_at hl 1 rfl) ?_
    obtain ⟨g3, h⟩ := ob_gd h
    refine x_iald C0 hP ((fun S => lay_153 B ct S) S) g3 dX12_wrongKept_21 ?_
    refine lv_if_ne (tgt := 30) hx hb dX12_wrongKept_22 (by decide) (fun z4 => ?_) (fun z4 => ?_)
    · have h := ob_f h z4
      refine lv_aload_n hx hb dX12_wrongKept_30 rfl (lv_at hl 0 rfl) ?_
      refine x_get C0 hP (lay_X12 B ct S) rfl inG12 22 (by decide) wd_1163 (fun _ h => h) rfl dX12_wrongKept_31 ?_
      refine lv_iload_n hx hb dX12_wrongKept_34 rfl (lv_at hl 1 rfl) ?_
      obtain ⟨g5, h⟩ := ob_gd h
      refine x_iald C0 hP ((fun S => lay_153 B ct S) S) g5 dX12_wrongKept_35 ?_
      refine lv_iconst (v := 1) hx hb dX12_wrongKept_36 (by decide) ?_
      refine lv_icmp_eq (tgt := 45) hx hb dX12_wrongKept_37 (by decide) (fun z6 => ?_) (fun z6 => ?_)
      · have h := ob_t h z6
        refine lv_iconst (v := 0) hx hb dX12_wrongKept_45 (by decide) ?_
        exact r_I C0 hP hS h dX12_wrongKept_46
      · have h := ob_f h z6
        refine lv_bipush (v := (-12)) hx hb dX12_wrongKept_40 (by decide) ?_
        refine lv_goto (tgt := 46) hx hb dX12_wrongKept_42 (by decide) ?_
        exact r_I C0 hP hS h dX12_wrongKept_46
    · have h := ob_t h z4
      refine lv_bipush (v := (-11)) hx hb dX12_wrongKept_25 (by decide) ?_
      refine lv_goto (tgt := 46) hx hb dX12_wrongKept_27 (by decide) ?_
      exact r_I C0 hP hS h dX12_wrongKept_46
  · have h := ob_t h z2
    refine lv_iconst (v := (-1)) hx hb dX12_wrongKept_12 (by decide) ?_
    refine lv_goto (tgt := 46) hx hb dX12_wrongKept_13 (by decide) ?_
    exact r_I C0 hP hS h dX12_wrongKept_46
set_option maxRecDepth 100000 in
set_option maxHeartbeats 4000000 in
theorem c_X12_wrongKept (l : Launch) (a1 : Int32) {D : va_G} {ct : Nat → ClassId} {B : Nat} {Hb : Heap} {S : St} {V : Int32} (h : L_X12_wrongKept a1 S = some V) : Met l yX12_wrongKept (Cond.code yX12_wrongKept cX12_wrongKept 2 (some .int) :: tG) { frames := 1, cells := 0, slots := 0, locals := 25 } (va_Pc [.ref (B + 136), .int a1] (MPK D ct B Hb S)) (qI D ct B Hb S V) 0 0 (AB B) := by
  refine mk_met (by decide +kernel) (Nat.le_of_ble_eq_true rfl) (fun p e s m args below meth c ls C0 hP hl _ => ?_)
  have h := ob_of h
  exact w_X12_wrongKept_0 l C0 a1 S h hP va_S.rf (lv_sub hl [0, 1] rfl)
set_option maxRecDepth 100000 in
set_option maxHeartbeats 4000000 in
theorem w_X12_comes_91 (l : Launch) {V : Int32 × St} (C0 : XC D ct p s m args meth c cX12_comes 8 (some .int) RX12) (v1 : Int32) (v2 : Int32) (v3 : Int32) (v4 : Int32) (v5 : Int32) (s0 : Int32) (S : St) {H : Heap} {locs : List Loc} {ls : Array Slot} (h : (b_X12_comes_91 v1 v2 v3 v4 v5 s0 S).bind some = some V) (hP : MP D ct B Hb S H) (hS : va_S (AB B) s.heap H locs) (hl : lv_has ls 8 [(0, .ref (B + 136)), (1, .int v1), (2, .int v2), (3, .int v3), (4, .int v4), (5, .int v5)]) : W p l e { frames := 2, cells := 0, slots := 0, locals := 46 } s m args below meth c H locs 0 0 (MQ below (qIw D ct B Hb V) args s 0 0 (AB B)) (F0 m 91 ls [.int s0]) := by
  obtain ⟨hx, hb, hr, hml, hown, hts, hK, hlocks, hN⟩ := id C0
  unfold b_X12_comes_91 at h
  refine lv_istore (lv' := [(7, .int s0), (0, .ref (B + 136)), (1, .int v1), (2, .int v2), (3, .int v3), (4, .int v4), (5, .int v5)]) hx hb dX12_comes_91 hl (by decide) rfl (fun ls hl => ?_)
  refine lv_iload hx hb dX12_comes_93 (lv_at hl 0 rfl) ?_
  refine lv_if_ge (tgt := 101) hx hb dX12_comes_95 (by decide) (fun z1 => ?_) (fun z1 => ?_)
  · have h := ob_t h z1
    refine lv_aload_n hx hb dX12_comes_101 rfl (lv_at hl 1 rfl) ?_
    refine lv_aload_n hx hb dX12_comes_102 rfl (lv_at hl 1 rfl) ?_
    refine x_get C0 hP (lay_X12 B ct S) rfl inG12 23 (by decide) wd_1164 (fun _ h => h) rfl dX12_comes_103 ?_
    refine lv_iload_n hx hb dX12_comes_106 rfl (lv_at hl 2 rfl) ?_
    obtain ⟨g2, h⟩ := ob_gd h
    refine x_iald C0 hP ((fun S => lay_154 B ct S) S) g2 dX12_comes_107 ?_
    refine lv_aload_n hx hb dX12_comes_108 rfl (lv_at hl 1 rfl) ?_
    refine x_get C0 hP (lay_X12 B ct S) rfl inG12 24 (by decide) wd_1165 (fun _ h => h) rfl dX12_comes_109 ?_
    refine lv_iload_n hx hb dX12_comes_112 rfl (lv_at hl 2 rfl) ?_
    obtain ⟨g3, h⟩ := ob_gd h
    refine x_iald C0 hP ((fun S => lay_155 B ct S) S) g3 dX12_comes_113 ?_
    refine lv_iload_n hx hb dX12_comes_114 rfl (lv_at hl 3 rfl) ?_
    refine lv_iload_n hx hb dX12_comes_115 rfl (lv_at hl 4 rfl) ?_
    refine lv_iload hx hb dX12_comes_116 (lv_at hl 5 rfl) ?_
    refine lv_iload hx hb dX12_comes_118 (lv_at hl 6 rfl) ?_
    obtain ⟨r4, hr4, h⟩ := ob_bd h
    refine n_Vw (kV (As := [.int (gi S 154 v1.toNatClampNeg), .int (gi S 155 v1.toNatClampNeg), .int v2, .int v3, .int v4, .int v5]) C0 (c_X12_oneComes l (gi S 154 v1.toNatClampNeg) (gi S 155 v1.toNatClampNeg) v2 v3 v4 v5 hr4) ⟨wd_1423, wd_1420, wd_1422, wp_32, wd_6⟩ kd_X12_oneComes ⟨Nat.le_of_ble_eq_true rfl, Nat.le_of_ble_eq_true rfl⟩ hP (lay_X12 B ct S) rfl rfl hl.1 rfl (Nat.le_of_ble_eq_true rfl) dX12_comes_120 ⟨Nat.le_of_ble_eq_true rfl, Nat.le_of_ble_eq_true rfl⟩) hS (fun H locs hP hS => ?_)
    refine lv_aload_n hx hb dX12_comes_123 rfl (lv_at hl 1 rfl) ?_
    refine x_get C0 hP (lay_X12 B ct r4) rfl inG12 15 (by decide) wd_1156 (fun _ h => h) rfl dX12_comes_124 ?_
    refine lv_iconst (v := 1) hx hb dX12_comes_127 (by decide) ?_
    refine lv_isub hx hb dX12_comes_128 ?_
    exact r_Iw C0 hP hS h dX12_comes_129
  · have h := ob_f h z1
    refine lv_iload hx hb dX12_comes_98 (lv_at hl 0 rfl) ?_
    exact r_Iw C0 hP hS h dX12_comes_100
set_option maxRecDepth 100000 in
set_option maxHeartbeats 4000000 in
theorem w_X12_comes_89 (l : Launch) {V : Int32 × St} (C0 : XC D ct p s m args meth c cX12_comes 8 (some .int) RX12) (v1 : Int32) (v2 : Int32) (v3 : Int32) (v4 : Int32) (v5 : Int32) (v7 : Int32) (S : St) {H : Heap} {locs : List Loc} {ls : Array Slot} (h : (b_X12_comes_89 v1 v2 v3 v4 v5 v7 S).bind some = some V) (hP : MP D ct B Hb S H) (hS : va_S (AB B) s.heap H locs) (hl : lv_has ls 8 [(0, .ref (B + 136)), (1, .int v1), (2, .int v2), (3, .int v3), (4, .int v4), (5, .int v5), (7, .int v7)]) : W p l e { frames := 2, cells := 0, slots := 0, locals := 46 } s m args below meth c H locs 0 0 (MQ below (qIw D ct B Hb V) args s 0 0 (AB B)) (F0 m 89 ls []) := by
  obtain ⟨hx, hb, hr, hml, hown, hts, hK, hlocks, hN⟩ := id C0
  unfold b_X12_comes_89 at h
  refine lv_iload hx hb dX12_comes_89 (lv_at hl 6 rfl) ?_
  exact w_X12_comes_91 l C0 v1 v2 v3 v4 v5 v7 S h hP hS (lv_sub hl [0, 1, 2, 3, 4, 5] rfl)
set_option maxRecDepth 100000 in
set_option maxHeartbeats 4000000 in
theorem w_X12_comes_68 (l : Launch) {V : Int32 × St} (C0 : XC D ct p s m args meth c cX12_comes 8 (some .int) RX12) (v1 : Int32) (v2 : Int32) (v3 : Int32) (v4 : Int32) (v5 : Int32) (s0 : Int32) (S : St) {H : Heap} {locs : List Loc} {ls : Array Slot} (h : (b_X12_comes_68 v1 v2 v3 v4 v5 s0 S).bind some = some V) (hP : MP D ct B Hb S H) (hS : va_S (AB B) s.heap H locs) (hl : lv_has ls 8 [(0, .ref (B + 136)), (1, .int v1), (2, .int v2), (3, .int v3), (4, .int v4), (5, .int v5)]) : W p l e { frames := 2, cells := 0, slots := 0, locals := 46 } s m args below meth c H locs 0 0 (MQ below (qIw D ct B Hb V) args s 0 0 (AB B)) (F0 m 68 ls [.int s0]) := by
  obtain ⟨hx, hb, hr, hml, hown, hts, hK, hlocks, hN⟩ := id C0
  unfold b_X12_comes_68 at h
  refine lv_istore (lv' := [(7, .int s0), (0, .ref (B + 136)), (1, .int v1), (2, .int v2), (3, .int v3), (4, .int v4), (5, .int v5)]) hx hb dX12_comes_68 hl (by decide) rfl (fun ls hl => ?_)
  refine lv_iload hx hb dX12_comes_70 (lv_at hl 0 rfl) ?_
  refine lv_if_ne (tgt := 89) hx hb dX12_comes_72 (by decide) (fun z1 => ?_) (fun z1 => ?_)
  · have h := ob_f h z1
    exact w_X12_comes_89 l C0 v1 v2 v3 v4 v5 s0 S h hP hS (lv_sub hl [1, 2, 3, 4, 5, 6, 0] rfl)
  · have h := ob_t h z1
    refine lv_aload_n hx hb dX12_comes_75 rfl (lv_at hl 1 rfl) ?_
    refine x_get C0 hP (lay_X12 B ct S) rfl inG12 15 (by decide) wd_1156 (fun _ h => h) rfl dX12_comes_76 ?_
    refine lv_bipush (v := 8) hx hb dX12_comes_79 (by decide) ?_
    refine lv_icmp_ne (tgt := 89) hx hb dX12_comes_81 (by decide) (fun z2 => ?_) (fun z2 => ?_)
    · have h := ob_f h z2
      exact w_X12_comes_89 l C0 v1 v2 v3 v4 v5 s0 S h hP hS (lv_sub hl [1, 2, 3, 4, 5, 6, 0] rfl)
    · have h := ob_t h z2
      refine lv_bipush (v := (-2)) hx hb dX12_comes_84 (by decide) ?_
      refine lv_goto (tgt := 91) hx hb dX12_comes_86 (by decide) ?_
      exact w_X12_comes_91 l C0 v1 v2 v3 v4 v5 ((-2)) S h hP hS (lv_sub hl [1, 2, 3, 4, 5, 6] rfl)
set_option maxRecDepth 100000 in
set_option maxHeartbeats 4000000 in
theorem w_X12_comes_52 (l : Launch) {V : Int32 × St} (C0 : XC D ct p s m args meth c cX12_comes 8 (some .int) RX12) (v1 : Int32) (v2 : Int32) (v3 : Int32) (v4 : Int32) (v5 : Int32) (s0 : Int32) (S : St) {H : Heap} {locs : List Loc} {ls : Array Slot} (h : (b_X12_comes_52 v1 v2 v3 v4 v5 s0 S).bind some = some V) (hP : MP D ct B Hb S H) (hS : va_S (AB B) s.heap H locs) (hl : lv_has ls 8 [(0, .ref (B + 136)), (1, .int v1), (2, .int v2), (3, .int v3), (4, .int v4), (5, .int v5)]) : W p l e { frames := 2, cells := 0, slots := 0, locals := 46 } s m args below meth c H locs 0 0 (MQ below (qIw D ct B Hb V) args s 0 0 (AB B)) (F0 m 52 ls [.int s0]) := by
  obtain ⟨hx, hb, hr, hml, hown, hts, hK, hlocks, hN⟩ := id C0
  unfold b_X12_comes_52 at h
  refine lv_istore (lv' := [(6, .int s0), (0, .ref (B + 136)), (1, .int v1), (2, .int v2), (3, .int v3), (4, .int v4), (5, .int v5)]) hx hb dX12_comes_52 hl (by decide) rfl (fun ls hl => ?_)
  refine lv_iload hx hb dX12_comes_54 (lv_at hl 0 rfl) ?_
  refine lv_if_eq (tgt := 67) hx hb dX12_comes_56 (by decide) (fun z1 => ?_) (fun z1 => ?_)
  · have h := ob_t h z1
    refine lv_iconst (v := (-1)) hx hb dX12_comes_67 (by decide) ?_
    exact w_X12_comes_68 l C0 v1 v2 v3 v4 v5 ((-1)) S h hP hS (lv_sub hl [1, 2, 3, 4, 5, 6] rfl)
  · have h := ob_f h z1
    refine lv_aload_n hx hb dX12_comes_59 rfl (lv_at hl 1 rfl) ?_
    refine lv_iload_n hx hb dX12_comes_60 rfl (lv_at hl 2 rfl) ?_
    obtain ⟨r2, hr2, h⟩ := ob_bd h
    refine n_I (kV (As := [.int v1]) C0 (c_X12_wrongKept l v1 hr2) ⟨wd_1497, wd_1494, wd_1496, wp_42, wd_6⟩ kd_X12_wrongKept ⟨Nat.le_of_ble_eq_true rfl, Nat.le_of_ble_eq_true rfl⟩ hP (lay_X12 B ct S) rfl rfl hl.1 rfl (Nat.le_of_ble_eq_true rfl) dX12_comes_61 ⟨Nat.le_of_ble_eq_true rfl, Nat.le_of_ble_eq_true rfl⟩) hS (fun H locs hP hS => ?_)
    refine lv_goto (tgt := 68) hx hb dX12_comes_64 (by decide) ?_
    exact w_X12_comes_68 l C0 v1 v2 v3 v4 v5 r2 S h hP hS (lv_sub hl [1, 2, 3, 4, 5, 6] rfl)
set_option maxRecDepth 100000 in
set_option maxHeartbeats 4000000 in
theorem w_X12_comes_51 (l : Launch) {V : Int32 × St} (C0 : XC D ct p s m args meth c cX12_comes 8 (some .int) RX12) (v1 : Int32) (v2 : Int32) (v3 : Int32) (v4 : Int32) (v5 : Int32) (S : St) {H : Heap} {locs : List Loc} {ls : Array Slot} (h : (b_X12_comes_51 v1 v2 v3 v4 v5 S).bind some = some V) (hP : MP D ct B Hb S H) (hS : va_S (AB B) s.heap H locs) (hl : lv_has ls 8 [(0, .ref (B + 136)), (1, .int v1), (2, .int v2), (3, .int v3), (4, .int v4), (5, .int v5)]) : W p l e { frames := 2, cells := 0, slots := 0, locals := 46 } s m args below meth c H locs 0 0 (MQ below (qIw D ct B Hb V) args s 0 0 (AB B)) (F0 m 51 ls []) := by
  obtain ⟨hx, hb, hr, hml, hown, hts, hK, hlocks, hN⟩ := id C0
  unfold b_X12_comes_51 at h
  refine lv_iconst (v := 0) hx hb dX12_comes_51 (by decide) ?_
  exact w_X12_comes_52 l C0 v1 v2 v3 v4 v5 0 S h hP hS (lv_sub hl [0, 1, 2, 3, 4, 5] rfl)
set_option maxRecDepth 100000 in
set_option maxHeartbeats 4000000 in
theorem w_X12_comes_0 (l : Launch) {V : Int32 × St} (C0 : XC D ct p s m args meth c cX12_comes 8 (some .int) RX12) (v1 : Int32) (v2 : Int32) (v3 : Int32) (v4 : Int32) (v5 : Int32) (S : St) {H : Heap} {locs : List Loc} {ls : Array Slot} (h : (b_X12_comes_0 v1 v2 v3 v4 v5 S).bind some = some V) (hP : MP D ct B Hb S H) (hS : va_S (AB B) s.heap H locs) (hl : lv_has ls 8 [(0, .ref (B + 136)), (1, .int v1), (2, .int v2), (3, .int v3), (4, .int v4), (5, .int v5)]) : W p l e { frames := 2, cells := 0, slots := 0, locals := 46 } s m args below meth c H locs 0 0 (MQ below (qIw D ct B Hb V) args s 0 0 (AB B)) (F0 m 0 ls []) := by
  obtain ⟨hx, hb, hr, hml, hown, hts, hK, hlocks, hN⟩ := id C0
  unfold b_X12_comes_0 at h
  refine lv_aload_n hx hb dX12_comes_0 rfl (lv_at hl 0 rfl) ?_
  refine lv_iconst (v := 0) hx hb dX12_comes_1 (by decide) ?_
  obtain ⟨S1, eS1, h⟩ := ob_nm h
  refine x_put (S' := si S 136 28 0) (FS := (fs12 B)) C0 hP hS (fun S => lay_X12 B ct S) rfl inG12 tyX12 tyX12_ok nmX12 28 (by decide) wd_1169 rfl rfl (fun a ha => lay_local (gi_si_n _ _ _ ha) rfl rfl rfl) (put_12_28 B _ _) rfl rfl (Nat.le_of_ble_eq_true rfl) dX12_comes_2 (fun H locs hP hS => ?_)
  rw [← eS1] at hP
  refine lv_iload_n hx hb dX12_comes_5 rfl (lv_at hl 2 rfl) ?_
  obtain ⟨r2, hr2, h⟩ := ob_bd h
  refine n_I (kS (As := [.int v2]) C0 (c_X12_isCase l v2 hr2) ⟨wd_1410, wd_1408, wd_1409, wd_6⟩ kd_X12_isCase ⟨Nat.le_of_ble_eq_true rfl, Nat.le_of_ble_eq_true rfl⟩ hP rfl hl.1 rfl (Nat.le_of_ble_eq_true rfl) dX12_comes_6 ⟨Nat.le_of_ble_eq_true rfl, Nat.le_of_ble_eq_true rfl⟩) hS (fun H locs hP hS => ?_)
  refine lv_if_eq (tgt := 51) hx hb dX12_comes_9 (by decide) (fun z3 => ?_) (fun z3 => ?_)
  · have h := ob_t h z3
    exact w_X12_comes_51 l C0 v1 v2 v3 v4 v5 S1 h hP hS (lv_sub hl [0, 1, 2, 3, 4, 5] rfl)
  · have h := ob_f h z3
    refine lv_iload_n hx hb dX12_comes_12 rfl (lv_at hl 3 rfl) ?_
    obtain ⟨r4, hr4, h⟩ := ob_bd h
    refine n_I (kS (As := [.int v3]) C0 (c_X12_isHour l v3 hr4) ⟨wd_1414, wd_1412, wd_1413, wd_6⟩ kd_X12_isHour ⟨Nat.le_of_ble_eq_true rfl, Nat.le_of_ble_eq_true rfl⟩ hP rfl hl.1 rfl (Nat.le_of_ble_eq_true rfl) dX12_comes_13 ⟨Nat.le_of_ble_eq_true rfl, Nat.le_of_ble_eq_true rfl⟩) hS (fun H locs hP hS => ?_)
    refine lv_if_eq (tgt := 51) hx hb dX12_comes_16 (by decide) (fun z5 => ?_) (fun z5 => ?_)
    · have h := ob_t h z5
      exact w_X12_comes_51 l C0 v1 v2 v3 v4 v5 S1 h hP hS (lv_sub hl [0, 1, 2, 3, 4, 5] rfl)
    · have h := ob_f h z5
      refine lv_iload hx hb dX12_comes_19 (lv_at hl 4 rfl) ?_
      refine lv_i2l hx hb dX12_comes_21 rfl ?_
      refine lv_ldc2 (v := (-9)) hx hb hown (hts _ wd_1457) dX12_comes_22 ?_
      refine lv_ldc2 (v := 9) hx hb hown (hts _ wd_1458) dX12_comes_25 ?_
      obtain ⟨r6, hr6, h⟩ := ob_bd h
      refine n_I (kS (As := [.long v4.toInt64, .long ((-9)), .long 9]) C0 (c_X12_in l v4.toInt64 ((-9)) 9 hr6) ⟨wd_1370, wd_1368, wd_1369, wd_6⟩ kd_X12_in ⟨Nat.le_of_ble_eq_true rfl, Nat.le_of_ble_eq_true rfl⟩ hP rfl hl.1 rfl (Nat.le_of_ble_eq_true rfl) dX12_comes_28 ⟨Nat.le_of_ble_eq_true rfl, Nat.le_of_ble_eq_true rfl⟩) hS (fun H locs hP hS => ?_)
      refine lv_if_eq (tgt := 51) hx hb dX12_comes_31 (by decide) (fun z7 => ?_) (fun z7 => ?_)
      · have h := ob_t h z7
        exact w_X12_comes_51 l C0 v1 v2 v3 v4 v5 S1 h hP hS (lv_sub hl [0, 1, 2, 3, 4, 5] rfl)
      · have h := ob_f h z7
        refine lv_iload hx hb dX12_comes_34 (lv_at hl 5 rfl) ?_
        refine lv_i2l hx hb dX12_comes_36 rfl ?_
        refine lv_lconst (v := 0) hx hb dX12_comes_37 (by decide) ?_
        refine lv_ldc2 (v := 99) hx hb hown (hts _ wd_1460) dX12_comes_38 ?_
        obtain ⟨r8, hr8, h⟩ := ob_bd h
        refine n_I (kS (As := [.long v5.toInt64, .long 0, .long 99]) C0 (c_X12_in l v5.toInt64 0 99 hr8) ⟨wd_1370, wd_1368, wd_1369, wd_6⟩ kd_X12_in ⟨Nat.le_of_ble_eq_true rfl, Nat.le_of_ble_eq_true rfl⟩ hP rfl hl.1 rfl (Nat.le_of_ble_eq_true rfl) dX12_comes_41 ⟨Nat.le_of_ble_eq_true rfl, Nat.le_of_ble_eq_true rfl⟩) hS (fun H locs hP hS => ?_)
        refine lv_if_eq (tgt := 51) hx hb dX12_comes_44 (by decide) (fun z9 => ?_) (fun z9 => ?_)
        · have h := ob_t h z9
          exact w_X12_comes_51 l C0 v1 v2 v3 v4 v5 S1 h hP hS (lv_sub hl [0, 1, 2, 3, 4, 5] rfl)
        · have h := ob_f h z9
          refine lv_iconst (v := 1) hx hb dX12_comes_47 (by decide) ?_
          refine lv_goto (tgt := 52) hx hb dX12_comes_48 (by decide) ?_
          exact w_X12_comes_52 l C0 v1 v2 v3 v4 v5 1 S1 h hP hS (lv_sub hl [0, 1, 2, 3, 4, 5] rfl)
set_option maxRecDepth 100000 in
set_option maxHeartbeats 4000000 in
theorem c_X12_comes (l : Launch) (a1 : Int32) (a2 : Int32) (a3 : Int32) (a4 : Int32) (a5 : Int32) {D : va_G} {ct : Nat → ClassId} {B : Nat} {Hb : Heap} {S : St} {V : Int32 × St} (h : L_X12_comes a1 a2 a3 a4 a5 S = some V) : Met l yX12_comes (Cond.code yX12_comes cX12_comes 8 (some .int) :: tG) { frames := 2, cells := 0, slots := 0, locals := 46 } (va_Pc [.ref (B + 136), .int a1, .int a2, .int a3, .int a4, .int a5] (MPK D ct B Hb S)) (qIw D ct B Hb V) 0 0 (AB B) := by
  refine mk_met (by decide +kernel) (Nat.le_of_ble_eq_true rfl) (fun p e s m args below meth c ls C0 hP hl _ => ?_)
  have h := ob_of h
  exact w_X12_comes_0 l C0 a1 a2 a3 a4 a5 S h hP va_S.rf (lv_sub hl [0, 1, 2, 3, 4, 5] rfl)
set_option maxRecDepth 100000 in
set_option maxHeartbeats 4000000 in
theorem w_X12_leaves_27 (l : Launch) {V : Int32 × St} (C0 : XC D ct p s m args meth c cX12_leaves 3 (some .int) RX12) (n0 : Nat) (ih0 : ∀ (v2 : Int32) (S : St) (H : Heap) (locs : List Loc) (ls : Array Slot), (lp n0 (l_X12_leaves_27) (v2, S)).bind some = some V → MP D ct B Hb S H → va_S (AB B) s.heap H locs → lv_has ls 3 [(0, .ref (B + 136)), (2, .int v2)] → W p l e { frames := 2, cells := 0, slots := 0, locals := 46 } s m args below meth c H locs 0 0 (MQ below (qIw D ct B Hb V) args s 0 0 (AB B)) (F0 m 27 ls [])) (v2 : Int32) (S : St) {H : Heap} {locs : List Loc} {ls : Array Slot} (h : (b_X12_leaves_27 v2 S).bind (lpF n0 (l_X12_leaves_27) some) = some V) (hP : MP D ct B Hb S H) (hS : va_S (AB B) s.heap H locs) (hl : lv_has ls 3 [(0, .ref (B + 136)), (2, .int v2)]) : W p l e { frames := 2, cells := 0, slots := 0, locals := 46 } s m args below meth c H locs 0 0 (MQ below (qIw D ct B Hb V) args s 0 0 (AB B)) (F0 m 27 ls []) := by
  obtain ⟨hx, hb, hr, hml, hown, hts, hK, hlocks, hN⟩ := id C0
  unfold b_X12_leaves_27 at h
  refine lv_iload_n hx hb dX12_leaves_27 rfl (lv_at hl 1 rfl) ?_
  refine lv_aload_n hx hb dX12_leaves_28 rfl (lv_at hl 0 rfl) ?_
  refine x_get C0 hP (lay_X12 B ct S) rfl inG12 15 (by decide) wd_1156 (fun _ h => h) rfl dX12_leaves_29 ?_
  refine lv_icmp_ge (tgt := 125) hx hb dX12_leaves_32 (by decide) (fun z1 => ?_) (fun z1 => ?_)
  · have h := ob_t h z1
    refine lv_aload_n hx hb dX12_leaves_125 rfl (lv_at hl 0 rfl) ?_
    refine x_get C0 hP (lay_X12 B ct S) rfl inG12 15 (by decide) wd_1156 (fun _ h => h) rfl dX12_leaves_126 ?_
    exact r_Iw C0 hP hS h dX12_leaves_129
  · have h := ob_f h z1
    refine lv_aload_n hx hb dX12_leaves_35 rfl (lv_at hl 0 rfl) ?_
    refine x_get C0 hP (lay_X12 B ct S) rfl inG12 16 (by decide) wd_1157 (fun _ h => h) rfl dX12_leaves_36 ?_
    refine lv_iload_n hx hb dX12_leaves_39 rfl (lv_at hl 1 rfl) ?_
    refine lv_aload_n hx hb dX12_leaves_40 rfl (lv_at hl 0 rfl) ?_
    refine x_get C0 hP (lay_X12 B ct S) rfl inG12 16 (by decide) wd_1157 (fun _ h => h) rfl dX12_leaves_41 ?_
    refine lv_iload_n hx hb dX12_leaves_44 rfl (lv_at hl 1 rfl) ?_
    refine lv_iconst (v := 1) hx hb dX12_leaves_45 (by decide) ?_
    refine lv_iadd hx hb dX12_leaves_46 ?_
    obtain ⟨g2, h⟩ := ob_gd h
    refine x_iald C0 hP ((fun S => lay_147 B ct S) S) g2 dX12_leaves_47 ?_
    obtain ⟨g3, h⟩ := ob_gd h
    obtain ⟨S4, eS4, h⟩ := ob_nm h
    refine x_iast C0 hP hS (fun S => lay_147 B ct S) g3 dX12_leaves_48 (fun H locs hP hS => ?_)
    rw [← eS4] at hP
    refine lv_aload_n hx hb dX12_leaves_49 rfl (lv_at hl 0 rfl) ?_
    refine x_get C0 hP (lay_X12 B ct S4) rfl inG12 17 (by decide) wd_1158 (fun _ h => h) rfl dX12_leaves_50 ?_
    refine lv_iload_n hx hb dX12_leaves_53 rfl (lv_at hl 1 rfl) ?_
    refine lv_aload_n hx hb dX12_leaves_54 rfl (lv_at hl 0 rfl) ?_
    refine x_get C0 hP (lay_X12 B ct S4) rfl inG12 17 (by decide) wd_1158 (fun _ h => h) rfl dX12_leaves_55 ?_
    refine lv_iload_n hx hb dX12_leaves_58 rfl (lv_at hl 1 rfl) ?_
    refine lv_iconst (v := 1) hx hb dX12_leaves_59 (by decide) ?_
    refine lv_iadd hx hb dX12_leaves_60 ?_
    obtain ⟨g5, h⟩ := ob_gd h
    refine x_iald C0 hP ((fun S => lay_148 B ct S) S4) g5 dX12_leaves_61 ?_
    obtain ⟨g6, h⟩ := ob_gd h
    obtain ⟨S7, eS7, h⟩ := ob_nm h
    refine x_iast C0 hP hS (fun S => lay_148 B ct S) g6 dX12_leaves_62 (fun H locs hP hS => ?_)
    rw [← eS7] at hP
    refine lv_aload_n hx hb dX12_leaves_63 rfl (lv_at hl 0 rfl) ?_
    refine x_get C0 hP (lay_X12 B ct S7) rfl inG12 18 (by decide) wd_1159 (fun _ h => h) rfl dX12_leaves_64 ?_
    refine lv_iload_n hx hb dX12_leaves_67 rfl (lv_at hl 1 rfl) ?_
    refine lv_aload_n hx hb dX12_leaves_68 rfl (lv_at hl 0 rfl) ?_
    refine x_get C0 hP (lay_X12 B ct S7) rfl inG12 18 (by decide) wd_1159 (fun _ h => h) rfl dX12_leaves_69 ?_
    refine lv_iload_n hx hb dX12_leaves_72 rfl (lv_at hl 1 rfl) ?_
    refine lv_iconst (v := 1) hx hb dX12_leaves_73 (by decide) ?_
    refine lv_iadd hx hb dX12_leaves_74 ?_
    obtain ⟨g8, h⟩ := ob_gd h
    refine x_iald C0 hP ((fun S => lay_149 B ct S) S7) g8 dX12_leaves_75 ?_
    obtain ⟨g9, h⟩ := ob_gd h
    obtain ⟨S10, eS10, h⟩ := ob_nm h
    refine x_iast C0 hP hS (fun S => lay_149 B ct S) g9 dX12_leaves_76 (fun H locs hP hS => ?_)
    rw [← eS10] at hP
    refine lv_aload_n hx hb dX12_leaves_77 rfl (lv_at hl 0 rfl) ?_
    refine x_get C0 hP (lay_X12 B ct S10) rfl inG12 19 (by decide) wd_1160 (fun _ h => h) rfl dX12_leaves_78 ?_
    refine lv_iload_n hx hb dX12_leaves_81 rfl (lv_at hl 1 rfl) ?_
    refine lv_aload_n hx hb dX12_leaves_82 rfl (lv_at hl 0 rfl) ?_
    refine x_get C0 hP (lay_X12 B ct S10) rfl inG12 19 (by decide) wd_1160 (fun _ h => h) rfl dX12_leaves_83 ?_
    refine lv_iload_n hx hb dX12_leaves_86 rfl (lv_at hl 1 rfl) ?_
    refine lv_iconst (v := 1) hx hb dX12_leaves_87 (by decide) ?_
    refine lv_iadd hx hb dX12_leaves_88 ?_
    obtain ⟨g11, h⟩ := ob_gd h
    refine x_iald C0 hP ((fun S => lay_150 B ct S) S10) g11 dX12_leaves_89 ?_
    obtain ⟨g12, h⟩ := ob_gd h
    obtain ⟨S13, eS13, h⟩ := ob_nm h
    refine x_iast C0 hP hS (fun S => lay_150 B ct S) g12 dX12_leaves_90 (fun H locs hP hS => ?_)
    rw [← eS13] at hP
    refine lv_aload_n hx hb dX12_leaves_91 rfl (lv_at hl 0 rfl) ?_
    refine x_get C0 hP (lay_X12 B ct S13) rfl inG12 20 (by decide) wd_1161 (fun _ h => h) rfl dX12_leaves_92 ?_
    refine lv_iload_n hx hb dX12_leaves_95 rfl (lv_at hl 1 rfl) ?_
    refine lv_aload_n hx hb dX12_leaves_96 rfl (lv_at hl 0 rfl) ?_
    refine x_get C0 hP (lay_X12 B ct S13) rfl inG12 20 (by decide) wd_1161 (fun _ h => h) rfl dX12_leaves_97 ?_
    refine lv_iload_n hx hb dX12_leaves_100 rfl (lv_at hl 1 rfl) ?_
    refine lv_iconst (v := 1) hx hb dX12_leaves_101 (by decide) ?_
    refine lv_iadd hx hb dX12_leaves_102 ?_
    obtain ⟨g14, h⟩ := ob_gd h
    refine x_iald C0 hP ((fun S => lay_151 B ct S) S13) g14 dX12_leaves_103 ?_
    obtain ⟨g15, h⟩ := ob_gd h
    obtain ⟨S16, eS16, h⟩ := ob_nm h
    refine x_iast C0 hP hS (fun S => lay_151 B ct S) g15 dX12_leaves_104 (fun H locs hP hS => ?_)
    rw [← eS16] at hP
    refine lv_aload_n hx hb dX12_leaves_105 rfl (lv_at hl 0 rfl) ?_
    refine x_get C0 hP (lay_X12 B ct S16) rfl inG12 21 (by decide) wd_1162 (fun _ h => h) rfl dX12_leaves_106 ?_
    refine lv_iload_n hx hb dX12_leaves_109 rfl (lv_at hl 1 rfl) ?_
    refine lv_aload_n hx hb dX12_leaves_110 rfl (lv_at hl 0 rfl) ?_
    refine x_get C0 hP (lay_X12 B ct S16) rfl inG12 21 (by decide) wd_1162 (fun _ h => h) rfl dX12_leaves_111 ?_
    refine lv_iload_n hx hb dX12_leaves_114 rfl (lv_at hl 1 rfl) ?_
    refine lv_iconst (v := 1) hx hb dX12_leaves_115 (by decide) ?_
    refine lv_iadd hx hb dX12_leaves_116 ?_
    obtain ⟨g17, h⟩ := ob_gd h
    refine x_iald C0 hP ((fun S => lay_152 B ct S) S16) g17 dX12_leaves_117 ?_
    obtain ⟨g18, h⟩ := ob_gd h
    obtain ⟨S19, eS19, h⟩ := ob_nm h
    refine x_iast C0 hP hS (fun S => lay_152 B ct S) g18 dX12_leaves_118 (fun H locs hP hS => ?_)
    rw [← eS19] at hP
    refine lv_iinc (v := v2 + 1) (lv' := [(2, .int (v2 + 1)), (0, .ref (B + 136))]) hx hb dX12_leaves_119 hl (k := 1) rfl rfl (by decide) rfl (fun ls hl => ?_)
    refine lv_goto (tgt := 27) hx hb dX12_leaves_122 (by decide) ?_
    exact ih0 (v2 + 1) S19 _ _ _ h hP hS (lv_sub hl [1, 0] rfl)
set_option maxRecDepth 100000 in
set_option maxHeartbeats 4000000 in
theorem wl_X12_leaves_27 (l : Launch) {V : Int32 × St} (C0 : XC D ct p s m args meth c cX12_leaves 3 (some .int) RX12)  : ∀ (n0 : Nat) (v2 : Int32) (S : St) {H : Heap} {locs : List Loc} {ls : Array Slot}, (lp n0 (l_X12_leaves_27) (v2, S)).bind some = some V → MP D ct B Hb S H → va_S (AB B) s.heap H locs → lv_has ls 3 [(0, .ref (B + 136)), (2, .int v2)] → W p l e { frames := 2, cells := 0, slots := 0, locals := 46 } s m args below meth c H locs 0 0 (MQ below (qIw D ct B Hb V) args s 0 0 (AB B)) (F0 m 27 ls []) := by
  intro n0
  induction n0 with
  | zero =>
    intro v2 S H locs ls h hP hS hl
    exact (lp_0 h).elim
  | succ n0 ih0 =>
    intro v2 S H locs ls h hP hS hl
    have h := lp_s h
    exact w_X12_leaves_27 l C0 n0 (fun v2 S H locs ls h hP hS hl => ih0 v2 S h hP hS hl) v2 S h hP hS hl
set_option maxRecDepth 100000 in
set_option maxHeartbeats 4000000 in
theorem w_X12_leaves_0 (l : Launch) {V : Int32 × St} (C0 : XC D ct p s m args meth c cX12_leaves 3 (some .int) RX12) (v1 : Int32) (S : St) {H : Heap} {locs : List Loc} {ls : Array Slot} (h : (b_X12_leaves_0 v1 S).bind some = some V) (hP : MP D ct B Hb S H) (hS : va_S (AB B) s.heap H locs) (hl : lv_has ls 3 [(0, .ref (B + 136)), (1, .int v1)]) : W p l e { frames := 2, cells := 0, slots := 0, locals := 46 } s m args below meth c H locs 0 0 (MQ below (qIw D ct B Hb V) args s 0 0 (AB B)) (F0 m 0 ls []) := by
  obtain ⟨hx, hb, hr, hml, hown, hts, hK, hlocks, hN⟩ := id C0
  unfold b_X12_leaves_0 at h
  refine lv_aload_n hx hb dX12_leaves_0 rfl (lv_at hl 0 rfl) ?_
  refine lv_iconst (v := 0) hx hb dX12_leaves_1 (by decide) ?_
  obtain ⟨S1, eS1, h⟩ := ob_nm h
  refine x_put (S' := si S 136 28 0) (FS := (fs12 B)) C0 hP hS (fun S => lay_X12 B ct S) rfl inG12 tyX12 tyX12_ok nmX12 28 (by decide) wd_1169 rfl rfl (fun a ha => lay_local (gi_si_n _ _ _ ha) rfl rfl rfl) (put_12_28 B _ _) rfl rfl (Nat.le_of_ble_eq_true rfl) dX12_leaves_2 (fun H locs hP hS => ?_)
  rw [← eS1] at hP
  refine lv_aload_n hx hb dX12_leaves_5 rfl (lv_at hl 0 rfl) ?_
  refine lv_iload_n hx hb dX12_leaves_6 rfl (lv_at hl 1 rfl) ?_
  obtain ⟨r2, hr2, h⟩ := ob_bd h
  refine n_I (kV (As := [.int v1]) C0 (c_X12_isOne l v1 hr2) ⟨wd_1448, wd_1445, wd_1447, wp_37, wd_6⟩ kd_X12_isOne ⟨Nat.le_of_ble_eq_true rfl, Nat.le_of_ble_eq_true rfl⟩ hP (lay_X12 B ct S1) rfl rfl hl.1 rfl (Nat.le_of_ble_eq_true rfl) dX12_leaves_7 ⟨Nat.le_of_ble_eq_true rfl, Nat.le_of_ble_eq_true rfl⟩) hS (fun H locs hP hS => ?_)
  refine lv_if_ne (tgt := 15) hx hb dX12_leaves_10 (by decide) (fun z3 => ?_) (fun z3 => ?_)
  · have h := ob_f h z3
    refine lv_aload_n hx hb dX12_leaves_15 rfl (lv_at hl 0 rfl) ?_
    refine lv_dup hx hb dX12_leaves_16 rfl ?_
    refine x_get C0 hP (lay_X12 B ct S1) rfl inG12 15 (by decide) wd_1156 (fun _ h => h) rfl dX12_leaves_17 ?_
    refine lv_iconst (v := 1) hx hb dX12_leaves_20 (by decide) ?_
    refine lv_isub hx hb dX12_leaves_21 ?_
    obtain ⟨S4, eS4, h⟩ := ob_nm h
    refine x_put (S' := si S1 136 15 ((gi S1 136 15) - 1)) (FS := (fs12 B)) C0 hP hS (fun S => lay_X12 B ct S) rfl inG12 tyX12 tyX12_ok nmX12 15 (by decide) wd_1156 rfl rfl (fun a ha => lay_local (gi_si_n _ _ _ ha) rfl rfl rfl) (put_12_15 B _ _) rfl rfl (Nat.le_of_ble_eq_true rfl) dX12_leaves_22 (fun H locs hP hS => ?_)
    rw [← eS4] at hP
    refine lv_iload_n hx hb dX12_leaves_25 rfl (lv_at hl 1 rfl) ?_
    refine lv_istore_n (lv' := [(2, .int v1), (0, .ref (B + 136)), (1, .int v1)]) hx hb dX12_leaves_26 rfl hl (by decide) rfl (fun ls hl => ?_)
    exact wl_X12_leaves_27 l C0 1000 v1 S4 h hP hS (lv_sub hl [1, 0] rfl)
  · have h := ob_t h z3
    refine lv_iconst (v := (-1)) hx hb dX12_leaves_13 (by decide) ?_
    exact r_Iw C0 hP hS h dX12_leaves_14
set_option maxRecDepth 100000 in
set_option maxHeartbeats 4000000 in
theorem c_X12_leaves (l : Launch) (a1 : Int32) {D : va_G} {ct : Nat → ClassId} {B : Nat} {Hb : Heap} {S : St} {V : Int32 × St} (h : L_X12_leaves a1 S = some V) : Met l yX12_leaves (Cond.code yX12_leaves cX12_leaves 3 (some .int) :: tG) { frames := 2, cells := 0, slots := 0, locals := 46 } (va_Pc [.ref (B + 136), .int a1] (MPK D ct B Hb S)) (qIw D ct B Hb V) 0 0 (AB B) := by
  refine mk_met (by decide +kernel) (Nat.le_of_ble_eq_true rfl) (fun p e s m args below meth c ls C0 hP hl _ => ?_)
  have h := ob_of h
  exact w_X12_leaves_0 l C0 a1 S h hP va_S.rf (lv_sub hl [0, 1] rfl)
set_option maxRecDepth 100000 in
set_option maxHeartbeats 4000000 in
theorem w_X12_mood_0 (l : Launch) {V : Int32 × St} (C0 : XC D ct p s m args meth c cX12_mood 4 (some .int) RX12) (v1 : Int32) (v2 : Int32) (S : St) {H : Heap} {locs : List Loc} {ls : Array Slot} (h : (b_X12_mood_0 v1 v2 S).bind some = some V) (hP : MP D ct B Hb S H) (hS : va_S (AB B) s.heap H locs) (hl : lv_has ls 4 [(0, .ref (B + 136)), (1, .int v1), (2, .int v2)]) : W p l e { frames := 2, cells := 0, slots := 0, locals := 46 } s m args below meth c H locs 0 0 (MQ below (qIw D ct B Hb V) args s 0 0 (AB B)) (F0 m 0 ls []) := by
  obtain ⟨hx, hb, hr, hml, hown, hts, hK, hlocks, hN⟩ := id C0
  unfold b_X12_mood_0 at h
  refine lv_aload_n hx hb dX12_mood_0 rfl (lv_at hl 0 rfl) ?_
  refine lv_iconst (v := 0) hx hb dX12_mood_1 (by decide) ?_
  obtain ⟨S1, eS1, h⟩ := ob_nm h
  refine x_put (S' := si S 136 28 0) (FS := (fs12 B)) C0 hP hS (fun S => lay_X12 B ct S) rfl inG12 tyX12 tyX12_ok nmX12 28 (by decide) wd_1169 rfl rfl (fun a ha => lay_local (gi_si_n _ _ _ ha) rfl rfl rfl) (put_12_28 B _ _) rfl rfl (Nat.le_of_ble_eq_true rfl) dX12_mood_2 (fun H locs hP hS => ?_)
  rw [← eS1] at hP
  refine lv_aload_n hx hb dX12_mood_5 rfl (lv_at hl 0 rfl) ?_
  refine lv_iload_n hx hb dX12_mood_6 rfl (lv_at hl 1 rfl) ?_
  obtain ⟨r2, hr2, h⟩ := ob_bd h
  refine n_I (kV (As := [.int v1]) C0 (c_X12_isOne l v1 hr2) ⟨wd_1448, wd_1445, wd_1447, wp_37, wd_6⟩ kd_X12_isOne ⟨Nat.le_of_ble_eq_true rfl, Nat.le_of_ble_eq_true rfl⟩ hP (lay_X12 B ct S1) rfl rfl hl.1 rfl (Nat.le_of_ble_eq_true rfl) dX12_mood_7 ⟨Nat.le_of_ble_eq_true rfl, Nat.le_of_ble_eq_true rfl⟩) hS (fun H locs hP hS => ?_)
  refine lv_if_eq (tgt := 27) hx hb dX12_mood_10 (by decide) (fun z3 => ?_) (fun z3 => ?_)
  · have h := ob_t h z3
    refine lv_iconst (v := (-1)) hx hb dX12_mood_27 (by decide) ?_
    exact r_Iw C0 hP hS h dX12_mood_28
  · have h := ob_f h z3
    refine lv_iload_n hx hb dX12_mood_13 rfl (lv_at hl 2 rfl) ?_
    refine lv_i2l hx hb dX12_mood_14 rfl ?_
    refine lv_ldc2 (v := (-9)) hx hb hown (hts _ wd_1457) dX12_mood_15 ?_
    refine lv_ldc2 (v := 9) hx hb hown (hts _ wd_1458) dX12_mood_18 ?_
    obtain ⟨r4, hr4, h⟩ := ob_bd h
    refine n_I (kS (As := [.long v2.toInt64, .long ((-9)), .long 9]) C0 (c_X12_in l v2.toInt64 ((-9)) 9 hr4) ⟨wd_1370, wd_1368, wd_1369, wd_6⟩ kd_X12_in ⟨Nat.le_of_ble_eq_true rfl, Nat.le_of_ble_eq_true rfl⟩ hP rfl hl.1 rfl (Nat.le_of_ble_eq_true rfl) dX12_mood_21 ⟨Nat.le_of_ble_eq_true rfl, Nat.le_of_ble_eq_true rfl⟩) hS (fun H locs hP hS => ?_)
    refine lv_if_ne (tgt := 29) hx hb dX12_mood_24 (by decide) (fun z5 => ?_) (fun z5 => ?_)
    · have h := ob_f h z5
      refine lv_aload_n hx hb dX12_mood_29 rfl (lv_at hl 0 rfl) ?_
      refine x_get C0 hP (lay_X12 B ct S1) rfl inG12 20 (by decide) wd_1161 (fun _ h => h) rfl dX12_mood_30 ?_
      refine lv_iload_n hx hb dX12_mood_33 rfl (lv_at hl 1 rfl) ?_
      obtain ⟨g6, h⟩ := ob_gd h
      refine x_iald C0 hP ((fun S => lay_151 B ct S) S1) g6 dX12_mood_34 ?_
      refine lv_istore_n (lv' := [(3, .int (gi S1 151 v1.toNatClampNeg)), (0, .ref (B + 136)), (1, .int v1), (2, .int v2)]) hx hb dX12_mood_35 rfl hl (by decide) rfl (fun ls hl => ?_)
      refine lv_aload_n hx hb dX12_mood_36 rfl (lv_at hl 1 rfl) ?_
      refine x_get C0 hP (lay_X12 B ct S1) rfl inG12 20 (by decide) wd_1161 (fun _ h => h) rfl dX12_mood_37 ?_
      refine lv_iload_n hx hb dX12_mood_40 rfl (lv_at hl 2 rfl) ?_
      refine lv_iload_n hx hb dX12_mood_41 rfl (lv_at hl 3 rfl) ?_
      obtain ⟨g7, h⟩ := ob_gd h
      obtain ⟨S8, eS8, h⟩ := ob_nm h
      refine x_iast C0 hP hS (fun S => lay_151 B ct S) g7 dX12_mood_42 (fun H locs hP hS => ?_)
      rw [← eS8] at hP
      refine lv_iload_n hx hb dX12_mood_43 rfl (lv_at hl 0 rfl) ?_
      refine lv_bipush (v := 9) hx hb dX12_mood_44 (by decide) ?_
      refine lv_iadd hx hb dX12_mood_46 ?_
      exact r_Iw C0 hP hS h dX12_mood_47
    · have h := ob_t h z5
      refine lv_iconst (v := (-1)) hx hb dX12_mood_27 (by decide) ?_
      exact r_Iw C0 hP hS h dX12_mood_28
set_option maxRecDepth 100000 in
set_option maxHeartbeats 4000000 in
theorem c_X12_mood (l : Launch) (a1 : Int32) (a2 : Int32) {D : va_G} {ct : Nat → ClassId} {B : Nat} {Hb : Heap} {S : St} {V : Int32 × St} (h : L_X12_mood a1 a2 S = some V) : Met l yX12_mood (Cond.code yX12_mood cX12_mood 4 (some .int) :: tG) { frames := 2, cells := 0, slots := 0, locals := 46 } (va_Pc [.ref (B + 136), .int a1, .int a2] (MPK D ct B Hb S)) (qIw D ct B Hb V) 0 0 (AB B) := by
  refine mk_met (by decide +kernel) (Nat.le_of_ble_eq_true rfl) (fun p e s m args below meth c ls C0 hP hl _ => ?_)
  have h := ob_of h
  exact w_X12_mood_0 l C0 a1 a2 S h hP va_S.rf (lv_sub hl [0, 1, 2] rfl)
set_option maxRecDepth 100000 in
set_option maxHeartbeats 4000000 in
theorem w_X12_coins_0 (l : Launch) {V : Int32 × St} (C0 : XC D ct p s m args meth c cX12_coins 4 (some .int) RX12) (v1 : Int32) (v2 : Int32) (S : St) {H : Heap} {locs : List Loc} {ls : Array Slot} (h : (b_X12_coins_0 v1 v2 S).bind some = some V) (hP : MP D ct B Hb S H) (hS : va_S (AB B) s.heap H locs) (hl : lv_has ls 4 [(0, .ref (B + 136)), (1, .int v1), (2, .int v2)]) : W p l e { frames := 2, cells := 0, slots := 0, locals := 46 } s m args below meth c H locs 0 0 (MQ below (qIw D ct B Hb V) args s 0 0 (AB B)) (F0 m 0 ls []) := by
  obtain ⟨hx, hb, hr, hml, hown, hts, hK, hlocks, hN⟩ := id C0
  unfold b_X12_coins_0 at h
  refine lv_aload_n hx hb dX12_coins_0 rfl (lv_at hl 0 rfl) ?_
  refine lv_iconst (v := 0) hx hb dX12_coins_1 (by decide) ?_
  obtain ⟨S1, eS1, h⟩ := ob_nm h
  refine x_put (S' := si S 136 28 0) (FS := (fs12 B)) C0 hP hS (fun S => lay_X12 B ct S) rfl inG12 tyX12 tyX12_ok nmX12 28 (by decide) wd_1169 rfl rfl (fun a ha => lay_local (gi_si_n _ _ _ ha) rfl rfl rfl) (put_12_28 B _ _) rfl rfl (Nat.le_of_ble_eq_true rfl) dX12_coins_2 (fun H locs hP hS => ?_)
  rw [← eS1] at hP
  refine lv_aload_n hx hb dX12_coins_5 rfl (lv_at hl 0 rfl) ?_
  refine lv_iload_n hx hb dX12_coins_6 rfl (lv_at hl 1 rfl) ?_
  obtain ⟨r2, hr2, h⟩ := ob_bd h
  refine n_I (kV (As := [.int v1]) C0 (c_X12_isOne l v1 hr2) ⟨wd_1448, wd_1445, wd_1447, wp_37, wd_6⟩ kd_X12_isOne ⟨Nat.le_of_ble_eq_true rfl, Nat.le_of_ble_eq_true rfl⟩ hP (lay_X12 B ct S1) rfl rfl hl.1 rfl (Nat.le_of_ble_eq_true rfl) dX12_coins_7 ⟨Nat.le_of_ble_eq_true rfl, Nat.le_of_ble_eq_true rfl⟩) hS (fun H locs hP hS => ?_)
  refine lv_if_eq (tgt := 25) hx hb dX12_coins_10 (by decide) (fun z3 => ?_) (fun z3 => ?_)
  · have h := ob_t h z3
    refine lv_iconst (v := (-1)) hx hb dX12_coins_25 (by decide) ?_
    exact r_Iw C0 hP hS h dX12_coins_26
  · have h := ob_f h z3
    refine lv_iload_n hx hb dX12_coins_13 rfl (lv_at hl 2 rfl) ?_
    refine lv_i2l hx hb dX12_coins_14 rfl ?_
    refine lv_lconst (v := 0) hx hb dX12_coins_15 (by decide) ?_
    refine lv_ldc2 (v := 99) hx hb hown (hts _ wd_1460) dX12_coins_16 ?_
    obtain ⟨r4, hr4, h⟩ := ob_bd h
    refine n_I (kS (As := [.long v2.toInt64, .long 0, .long 99]) C0 (c_X12_in l v2.toInt64 0 99 hr4) ⟨wd_1370, wd_1368, wd_1369, wd_6⟩ kd_X12_in ⟨Nat.le_of_ble_eq_true rfl, Nat.le_of_ble_eq_true rfl⟩ hP rfl hl.1 rfl (Nat.le_of_ble_eq_true rfl) dX12_coins_19 ⟨Nat.le_of_ble_eq_true rfl, Nat.le_of_ble_eq_true rfl⟩) hS (fun H locs hP hS => ?_)
    refine lv_if_ne (tgt := 27) hx hb dX12_coins_22 (by decide) (fun z5 => ?_) (fun z5 => ?_)
    · have h := ob_f h z5
      refine lv_aload_n hx hb dX12_coins_27 rfl (lv_at hl 0 rfl) ?_
      refine x_get C0 hP (lay_X12 B ct S1) rfl inG12 21 (by decide) wd_1162 (fun _ h => h) rfl dX12_coins_28 ?_
      refine lv_iload_n hx hb dX12_coins_31 rfl (lv_at hl 1 rfl) ?_
      obtain ⟨g6, h⟩ := ob_gd h
      refine x_iald C0 hP ((fun S => lay_152 B ct S) S1) g6 dX12_coins_32 ?_
      refine lv_istore_n (lv' := [(3, .int (gi S1 152 v1.toNatClampNeg)), (0, .ref (B + 136)), (1, .int v1), (2, .int v2)]) hx hb dX12_coins_33 rfl hl (by decide) rfl (fun ls hl => ?_)
      refine lv_aload_n hx hb dX12_coins_34 rfl (lv_at hl 1 rfl) ?_
      refine x_get C0 hP (lay_X12 B ct S1) rfl inG12 21 (by decide) wd_1162 (fun _ h => h) rfl dX12_coins_35 ?_
      refine lv_iload_n hx hb dX12_coins_38 rfl (lv_at hl 2 rfl) ?_
      refine lv_iload_n hx hb dX12_coins_39 rfl (lv_at hl 3 rfl) ?_
      obtain ⟨g7, h⟩ := ob_gd h
      obtain ⟨S8, eS8, h⟩ := ob_nm h
      refine x_iast C0 hP hS (fun S => lay_152 B ct S) g7 dX12_coins_40 (fun H locs hP hS => ?_)
      rw [← eS8] at hP
      refine lv_iload_n hx hb dX12_coins_41 rfl (lv_at hl 0 rfl) ?_
      exact r_Iw C0 hP hS h dX12_coins_42
    · have h := ob_t h z5
      refine lv_iconst (v := (-1)) hx hb dX12_coins_25 (by decide) ?_
      exact r_Iw C0 hP hS h dX12_coins_26
set_option maxRecDepth 100000 in
set_option maxHeartbeats 4000000 in
theorem c_X12_coins (l : Launch) (a1 : Int32) (a2 : Int32) {D : va_G} {ct : Nat → ClassId} {B : Nat} {Hb : Heap} {S : St} {V : Int32 × St} (h : L_X12_coins a1 a2 S = some V) : Met l yX12_coins (Cond.code yX12_coins cX12_coins 4 (some .int) :: tG) { frames := 2, cells := 0, slots := 0, locals := 46 } (va_Pc [.ref (B + 136), .int a1, .int a2] (MPK D ct B Hb S)) (qIw D ct B Hb V) 0 0 (AB B) := by
  refine mk_met (by decide +kernel) (Nat.le_of_ble_eq_true rfl) (fun p e s m args below meth c ls C0 hP hl _ => ?_)
  have h := ob_of h
  exact w_X12_coins_0 l C0 a1 a2 S h hP va_S.rf (lv_sub hl [0, 1, 2] rfl)
set_option maxRecDepth 100000 in
set_option maxHeartbeats 4000000 in
theorem w_X12_fact_0 (l : Launch) {V : Int32 × St} (C0 : XC D ct p s m args meth c cX12_fact 4 (some .int) RX12) (v1 : Int32) (v2 : Int32) (v3 : Int32) (S : St) {H : Heap} {locs : List Loc} {ls : Array Slot} (h : (b_X12_fact_0 v1 v2 v3 S).bind some = some V) (hP : MP D ct B Hb S H) (hS : va_S (AB B) s.heap H locs) (hl : lv_has ls 4 [(0, .ref (B + 136)), (1, .int v1), (2, .int v2), (3, .int v3)]) : W p l e { frames := 3, cells := 0, slots := 0, locals := 69 } s m args below meth c H locs 0 0 (MQ below (qIw D ct B Hb V) args s 0 0 (AB B)) (F0 m 0 ls []) := by
  obtain ⟨hx, hb, hr, hml, hown, hts, hK, hlocks, hN⟩ := id C0
  unfold b_X12_fact_0 at h
  refine lv_aload_n hx hb dX12_fact_0 rfl (lv_at hl 0 rfl) ?_
  refine lv_iconst (v := 0) hx hb dX12_fact_1 (by decide) ?_
  obtain ⟨S1, eS1, h⟩ := ob_nm h
  refine x_put (S' := si S 136 28 0) (FS := (fs12 B)) C0 hP hS (fun S => lay_X12 B ct S) rfl inG12 tyX12 tyX12_ok nmX12 28 (by decide) wd_1169 rfl rfl (fun a ha => lay_local (gi_si_n _ _ _ ha) rfl rfl rfl) (put_12_28 B _ _) rfl rfl (Nat.le_of_ble_eq_true rfl) dX12_fact_2 (fun H locs hP hS => ?_)
  rw [← eS1] at hP
  refine lv_iload_n hx hb dX12_fact_5 rfl (lv_at hl 1 rfl) ?_
  obtain ⟨r2, hr2, h⟩ := ob_bd h
  refine n_I (kS (As := [.int v1]) C0 (c_X12_isCase l v1 hr2) ⟨wd_1410, wd_1408, wd_1409, wd_6⟩ kd_X12_isCase ⟨Nat.le_of_ble_eq_true rfl, Nat.le_of_ble_eq_true rfl⟩ hP rfl hl.1 rfl (Nat.le_of_ble_eq_true rfl) dX12_fact_6 ⟨Nat.le_of_ble_eq_true rfl, Nat.le_of_ble_eq_true rfl⟩) hS (fun H locs hP hS => ?_)
  refine lv_if_eq (tgt := 33) hx hb dX12_fact_9 (by decide) (fun z3 => ?_) (fun z3 => ?_)
  · have h := ob_t h z3
    refine lv_iconst (v := (-1)) hx hb dX12_fact_33 (by decide) ?_
    exact r_Iw C0 hP hS h dX12_fact_34
  · have h := ob_f h z3
    refine lv_iload_n hx hb dX12_fact_12 rfl (lv_at hl 2 rfl) ?_
    refine lv_i2l hx hb dX12_fact_13 rfl ?_
    refine lv_ldc2 (v := (-9)) hx hb hown (hts _ wd_1457) dX12_fact_14 ?_
    refine lv_ldc2 (v := 9) hx hb hown (hts _ wd_1458) dX12_fact_17 ?_
    obtain ⟨r4, hr4, h⟩ := ob_bd h
    refine n_I (kS (As := [.long v2.toInt64, .long ((-9)), .long 9]) C0 (c_X12_in l v2.toInt64 ((-9)) 9 hr4) ⟨wd_1370, wd_1368, wd_1369, wd_6⟩ kd_X12_in ⟨Nat.le_of_ble_eq_true rfl, Nat.le_of_ble_eq_true rfl⟩ hP rfl hl.1 rfl (Nat.le_of_ble_eq_true rfl) dX12_fact_20 ⟨Nat.le_of_ble_eq_true rfl, Nat.le_of_ble_eq_true rfl⟩) hS (fun H locs hP hS => ?_)
    refine lv_if_eq (tgt := 33) hx hb dX12_fact_23 (by decide) (fun z5 => ?_) (fun z5 => ?_)
    · have h := ob_t h z5
      refine lv_iconst (v := (-1)) hx hb dX12_fact_33 (by decide) ?_
      exact r_Iw C0 hP hS h dX12_fact_34
    · have h := ob_f h z5
      refine lv_iload_n hx hb dX12_fact_26 rfl (lv_at hl 3 rfl) ?_
      obtain ⟨r6, hr6, h⟩ := ob_bd h
      refine n_I (kS (As := [.int v3]) C0 (c_X12_isHour l v3 hr6) ⟨wd_1414, wd_1412, wd_1413, wd_6⟩ kd_X12_isHour ⟨Nat.le_of_ble_eq_true rfl, Nat.le_of_ble_eq_true rfl⟩ hP rfl hl.1 rfl (Nat.le_of_ble_eq_true rfl) dX12_fact_27 ⟨Nat.le_of_ble_eq_true rfl, Nat.le_of_ble_eq_true rfl⟩) hS (fun H locs hP hS => ?_)
      refine lv_if_ne (tgt := 35) hx hb dX12_fact_30 (by decide) (fun z7 => ?_) (fun z7 => ?_)
      · have h := ob_f h z7
        refine lv_aload_n hx hb dX12_fact_35 rfl (lv_at hl 0 rfl) ?_
        refine lv_iload_n hx hb dX12_fact_36 rfl (lv_at hl 1 rfl) ?_
        refine lv_iload_n hx hb dX12_fact_37 rfl (lv_at hl 2 rfl) ?_
        refine lv_iload_n hx hb dX12_fact_38 rfl (lv_at hl 3 rfl) ?_
        obtain ⟨r8, hr8, h⟩ := ob_bd h
        refine n_Iw (kV (As := [.int v1, .int v2, .int v3]) C0 (c_X12_factComes l v1 v2 v3 hr8) ⟨wd_1407, wd_1404, wd_1406, wp_30, wd_6⟩ kd_X12_factComes ⟨Nat.le_of_ble_eq_true rfl, Nat.le_of_ble_eq_true rfl⟩ hP (lay_X12 B ct S1) rfl rfl hl.1 rfl (Nat.le_of_ble_eq_true rfl) dX12_fact_39 ⟨Nat.le_of_ble_eq_true rfl, Nat.le_of_ble_eq_true rfl⟩) hS (fun H locs hP hS => ?_)
        refine lv_if_eq (tgt := 54) hx hb dX12_fact_42 (by decide) (fun z9 => ?_) (fun z9 => ?_)
        · have h := ob_t h z9
          refine lv_bipush (v := (-2)) hx hb dX12_fact_54 (by decide) ?_
          exact r_Iw C0 hP hS h dX12_fact_56
        · have h := ob_f h z9
          refine lv_aload_n hx hb dX12_fact_45 rfl (lv_at hl 0 rfl) ?_
          refine x_get C0 hP (lay_X12 B ct r8.2) rfl inG12 1 (by decide) wd_1142 (fun _ h => h) rfl dX12_fact_46 ?_
          refine lv_iconst (v := 1) hx hb dX12_fact_49 (by decide) ?_
          refine lv_isub hx hb dX12_fact_50 ?_
          refine lv_goto (tgt := 56) hx hb dX12_fact_51 (by decide) ?_
          exact r_Iw C0 hP hS h dX12_fact_56
      · have h := ob_t h z7
        refine lv_iconst (v := (-1)) hx hb dX12_fact_33 (by decide) ?_
        exact r_Iw C0 hP hS h dX12_fact_34
set_option maxRecDepth 100000 in
set_option maxHeartbeats 4000000 in
theorem c_X12_fact (l : Launch) (a1 : Int32) (a2 : Int32) (a3 : Int32) {D : va_G} {ct : Nat → ClassId} {B : Nat} {Hb : Heap} {S : St} {V : Int32 × St} (h : L_X12_fact a1 a2 a3 S = some V) : Met l yX12_fact (Cond.code yX12_fact cX12_fact 4 (some .int) :: tG) { frames := 3, cells := 0, slots := 0, locals := 69 } (va_Pc [.ref (B + 136), .int a1, .int a2, .int a3] (MPK D ct B Hb S)) (qIw D ct B Hb V) 0 0 (AB B) := by
  refine mk_met (by decide +kernel) (Nat.le_of_ble_eq_true rfl) (fun p e s m args below meth c ls C0 hP hl _ => ?_)
  have h := ob_of h
  exact w_X12_fact_0 l C0 a1 a2 a3 S h hP va_S.rf (lv_sub hl [0, 1, 2, 3] rfl)
set_option maxRecDepth 100000 in
set_option maxHeartbeats 4000000 in
theorem w_X12_about_0 (l : Launch) {V : Int32 × St} (C0 : XC D ct p s m args meth c cX12_about 3 (some .int) RX12) (v1 : Int32) (v2 : Int32) (S : St) {H : Heap} {locs : List Loc} {ls : Array Slot} (h : (b_X12_about_0 v1 v2 S).bind some = some V) (hP : MP D ct B Hb S H) (hS : va_S (AB B) s.heap H locs) (hl : lv_has ls 3 [(0, .ref (B + 136)), (1, .int v1), (2, .int v2)]) : W p l e { frames := 1, cells := 0, slots := 0, locals := 25 } s m args below meth c H locs 0 0 (MQ below (qIw D ct B Hb V) args s 0 0 (AB B)) (F0 m 0 ls []) := by
  obtain ⟨hx, hb, hr, hml, hown, hts, hK, hlocks, hN⟩ := id C0
  unfold b_X12_about_0 at h
  refine lv_aload_n hx hb dX12_about_0 rfl (lv_at hl 0 rfl) ?_
  refine lv_iconst (v := 0) hx hb dX12_about_1 (by decide) ?_
  obtain ⟨S1, eS1, h⟩ := ob_nm h
  refine x_put (S' := si S 136 28 0) (FS := (fs12 B)) C0 hP hS (fun S => lay_X12 B ct S) rfl inG12 tyX12 tyX12_ok nmX12 28 (by decide) wd_1169 rfl rfl (fun a ha => lay_local (gi_si_n _ _ _ ha) rfl rfl rfl) (put_12_28 B _ _) rfl rfl (Nat.le_of_ble_eq_true rfl) dX12_about_2 (fun H locs hP hS => ?_)
  rw [← eS1] at hP
  refine lv_iload_n hx hb dX12_about_5 rfl (lv_at hl 1 rfl) ?_
  refine lv_i2l hx hb dX12_about_6 rfl ?_
  refine lv_lconst (v := 0) hx hb dX12_about_7 (by decide) ?_
  refine lv_aload_n hx hb dX12_about_8 rfl (lv_at hl 0 rfl) ?_
  refine x_get C0 hP (lay_X12 B ct S1) rfl inG12 1 (by decide) wd_1142 (fun _ h => h) rfl dX12_about_9 ?_
  refine lv_iconst (v := 1) hx hb dX12_about_12 (by decide) ?_
  refine lv_isub hx hb dX12_about_13 ?_
  refine lv_i2l hx hb dX12_about_14 rfl ?_
  obtain ⟨r2, hr2, h⟩ := ob_bd h
  refine n_I (kS (As := [.long v1.toInt64, .long 0, .long (((gi S1 136 1) - 1).toInt64)]) C0 (c_X12_in l v1.toInt64 0 (((gi S1 136 1) - 1).toInt64) hr2) ⟨wd_1370, wd_1368, wd_1369, wd_6⟩ kd_X12_in ⟨Nat.le_of_ble_eq_true rfl, Nat.le_of_ble_eq_true rfl⟩ hP rfl hl.1 rfl (Nat.le_of_ble_eq_true rfl) dX12_about_15 ⟨Nat.le_of_ble_eq_true rfl, Nat.le_of_ble_eq_true rfl⟩) hS (fun H locs hP hS => ?_)
  refine lv_if_ne (tgt := 23) hx hb dX12_about_18 (by decide) (fun z3 => ?_) (fun z3 => ?_)
  · have h := ob_f h z3
    refine lv_iload_n hx hb dX12_about_23 rfl (lv_at hl 2 rfl) ?_
    rcases Decidable.em ((v2 : Int32) = 0) with z4 | z4
    · have h := ob_t h z4
      refine lv_tableIn (x := v2) (off := 32) (tgt := 56) hx hb dX12_about_24 (by rw [z4]; decide) (by rw [z4]; decide) (by rw [z4]; decide) (by decide) ?_
      refine lv_aload_n hx hb dX12_about_56 rfl (lv_at hl 0 rfl) ?_
      refine x_get C0 hP (lay_X12 B ct S1) rfl inG12 2 (by decide) wd_1143 (fun _ h => h) rfl dX12_about_57 ?_
      refine lv_iload_n hx hb dX12_about_60 rfl (lv_at hl 1 rfl) ?_
      obtain ⟨g5, h⟩ := ob_gd h
      refine x_iald C0 hP ((fun S => lay_138 B ct S) S1) g5 dX12_about_61 ?_
      exact r_Iw C0 hP hS h dX12_about_62
    · have h := ob_f h z4
      rcases Decidable.em ((v2 : Int32) = 1) with z6 | z6
      · have h := ob_t h z6
        refine lv_tableIn (x := v2) (off := 39) (tgt := 63) hx hb dX12_about_24 (by rw [z6]; decide) (by rw [z6]; decide) (by rw [z6]; decide) (by decide) ?_
        refine lv_aload_n hx hb dX12_about_63 rfl (lv_at hl 0 rfl) ?_
        refine x_get C0 hP (lay_X12 B ct S1) rfl inG12 3 (by decide) wd_1144 (fun _ h => h) rfl dX12_about_64 ?_
        refine lv_iload_n hx hb dX12_about_67 rfl (lv_at hl 1 rfl) ?_
        obtain ⟨g7, h⟩ := ob_gd h
        refine x_iald C0 hP ((fun S => lay_139 B ct S) S1) g7 dX12_about_68 ?_
        refine lv_bipush (v := 9) hx hb dX12_about_69 (by decide) ?_
        refine lv_iadd hx hb dX12_about_71 ?_
        exact r_Iw C0 hP hS h dX12_about_72
      · have h := ob_f h z6
        rcases Decidable.em ((v2 : Int32) = 2) with z8 | z8
        · have h := ob_t h z8
          refine lv_tableIn (x := v2) (off := 49) (tgt := 73) hx hb dX12_about_24 (by rw [z8]; decide) (by rw [z8]; decide) (by rw [z8]; decide) (by decide) ?_
          refine lv_aload_n hx hb dX12_about_73 rfl (lv_at hl 0 rfl) ?_
          refine x_get C0 hP (lay_X12 B ct S1) rfl inG12 4 (by decide) wd_1145 (fun _ h => h) rfl dX12_about_74 ?_
          refine lv_iload_n hx hb dX12_about_77 rfl (lv_at hl 1 rfl) ?_
          obtain ⟨g9, h⟩ := ob_gd h
          refine x_iald C0 hP ((fun S => lay_140 B ct S) S1) g9 dX12_about_78 ?_
          exact r_Iw C0 hP hS h dX12_about_79
        · have h := ob_f h z8
          rcases Decidable.em ((v2 : Int32) = 3) with z10 | z10
          · have h := ob_t h z10
            refine lv_tableIn (x := v2) (off := 56) (tgt := 80) hx hb dX12_about_24 (by rw [z10]; decide) (by rw [z10]; decide) (by rw [z10]; decide) (by decide) ?_
            refine lv_aload_n hx hb dX12_about_80 rfl (lv_at hl 0 rfl) ?_
            refine x_get C0 hP (lay_X12 B ct S1) rfl inG12 5 (by decide) wd_1146 (fun _ h => h) rfl dX12_about_81 ?_
            refine lv_iload_n hx hb dX12_about_84 rfl (lv_at hl 1 rfl) ?_
            obtain ⟨g11, h⟩ := ob_gd h
            refine x_iald C0 hP ((fun S => lay_141 B ct S) S1) g11 dX12_about_85 ?_
            exact r_Iw C0 hP hS h dX12_about_86
          · have h := ob_f h z10
            refine lv_tableOut (x := v2) (tgt := 87) hx hb dX12_about_24 (sw_0_4 z4 z6 z8 z10) (by decide) ?_
            refine lv_iconst (v := (-1)) hx hb dX12_about_87 (by decide) ?_
            exact r_Iw C0 hP hS h dX12_about_88
  · have h := ob_t h z3
    refine lv_iconst (v := (-1)) hx hb dX12_about_21 (by decide) ?_
    exact r_Iw C0 hP hS h dX12_about_22
set_option maxRecDepth 100000 in
set_option maxHeartbeats 4000000 in
theorem c_X12_about (l : Launch) (a1 : Int32) (a2 : Int32) {D : va_G} {ct : Nat → ClassId} {B : Nat} {Hb : Heap} {S : St} {V : Int32 × St} (h : L_X12_about a1 a2 S = some V) : Met l yX12_about (Cond.code yX12_about cX12_about 3 (some .int) :: tG) { frames := 1, cells := 0, slots := 0, locals := 25 } (va_Pc [.ref (B + 136), .int a1, .int a2] (MPK D ct B Hb S)) (qIw D ct B Hb V) 0 0 (AB B) := by
  refine mk_met (by decide +kernel) (Nat.le_of_ble_eq_true rfl) (fun p e s m args below meth c ls C0 hP hl _ => ?_)
  have h := ob_of h
  exact w_X12_about_0 l C0 a1 a2 S h hP va_S.rf (lv_sub hl [0, 1, 2] rfl)
set_option maxRecDepth 100000 in
set_option maxHeartbeats 4000000 in
theorem w_X12_chance_0 (l : Launch) {V : Int32 × St} (C0 : XC D ct p s m args meth c cX12_chance 4 (some .int) RX12) (v1 : Int32) (v2 : Int32) (S : St) {H : Heap} {locs : List Loc} {ls : Array Slot} (h : (b_X12_chance_0 v1 v2 S).bind some = some V) (hP : MP D ct B Hb S H) (hS : va_S (AB B) s.heap H locs) (hl : lv_has ls 4 [(0, .ref (B + 136)), (1, .int v1), (2, .int v2)]) : W p l e { frames := 1, cells := 0, slots := 0, locals := 25 } s m args below meth c H locs 0 0 (MQ below (qIw D ct B Hb V) args s 0 0 (AB B)) (F0 m 0 ls []) := by
  obtain ⟨hx, hb, hr, hml, hown, hts, hK, hlocks, hN⟩ := id C0
  unfold b_X12_chance_0 at h
  refine lv_aload_n hx hb dX12_chance_0 rfl (lv_at hl 0 rfl) ?_
  refine lv_iconst (v := 0) hx hb dX12_chance_1 (by decide) ?_
  obtain ⟨S1, eS1, h⟩ := ob_nm h
  refine x_put (S' := si S 136 28 0) (FS := (fs12 B)) C0 hP hS (fun S => lay_X12 B ct S) rfl inG12 tyX12 tyX12_ok nmX12 28 (by decide) wd_1169 rfl rfl (fun a ha => lay_local (gi_si_n _ _ _ ha) rfl rfl rfl) (put_12_28 B _ _) rfl rfl (Nat.le_of_ble_eq_true rfl) dX12_chance_2 (fun H locs hP hS => ?_)
  rw [← eS1] at hP
  refine lv_iload_n hx hb dX12_chance_5 rfl (lv_at hl 1 rfl) ?_
  refine lv_i2l hx hb dX12_chance_6 rfl ?_
  refine lv_lconst (v := 0) hx hb dX12_chance_7 (by decide) ?_
  refine lv_aload_n hx hb dX12_chance_8 rfl (lv_at hl 0 rfl) ?_
  refine x_get C0 hP (lay_X12 B ct S1) rfl inG12 1 (by decide) wd_1142 (fun _ h => h) rfl dX12_chance_9 ?_
  refine lv_iconst (v := 1) hx hb dX12_chance_12 (by decide) ?_
  refine lv_isub hx hb dX12_chance_13 ?_
  refine lv_i2l hx hb dX12_chance_14 rfl ?_
  obtain ⟨r2, hr2, h⟩ := ob_bd h
  refine n_I (kS (As := [.long v1.toInt64, .long 0, .long (((gi S1 136 1) - 1).toInt64)]) C0 (c_X12_in l v1.toInt64 0 (((gi S1 136 1) - 1).toInt64) hr2) ⟨wd_1370, wd_1368, wd_1369, wd_6⟩ kd_X12_in ⟨Nat.le_of_ble_eq_true rfl, Nat.le_of_ble_eq_true rfl⟩ hP rfl hl.1 rfl (Nat.le_of_ble_eq_true rfl) dX12_chance_15 ⟨Nat.le_of_ble_eq_true rfl, Nat.le_of_ble_eq_true rfl⟩) hS (fun H locs hP hS => ?_)
  refine lv_if_eq (tgt := 33) hx hb dX12_chance_18 (by decide) (fun z3 => ?_) (fun z3 => ?_)
  · have h := ob_t h z3
    refine lv_iconst (v := (-1)) hx hb dX12_chance_33 (by decide) ?_
    exact r_Iw C0 hP hS h dX12_chance_34
  · have h := ob_f h z3
    refine lv_iload_n hx hb dX12_chance_21 rfl (lv_at hl 2 rfl) ?_
    refine lv_i2l hx hb dX12_chance_22 rfl ?_
    refine lv_lconst (v := 0) hx hb dX12_chance_23 (by decide) ?_
    refine lv_ldc2 (v := 10) hx hb hown (hts _ wd_1522) dX12_chance_24 ?_
    obtain ⟨r4, hr4, h⟩ := ob_bd h
    refine n_I (kS (As := [.long v2.toInt64, .long 0, .long 10]) C0 (c_X12_in l v2.toInt64 0 10 hr4) ⟨wd_1370, wd_1368, wd_1369, wd_6⟩ kd_X12_in ⟨Nat.le_of_ble_eq_true rfl, Nat.le_of_ble_eq_true rfl⟩ hP rfl hl.1 rfl (Nat.le_of_ble_eq_true rfl) dX12_chance_27 ⟨Nat.le_of_ble_eq_true rfl, Nat.le_of_ble_eq_true rfl⟩) hS (fun H locs hP hS => ?_)
    refine lv_if_ne (tgt := 35) hx hb dX12_chance_30 (by decide) (fun z5 => ?_) (fun z5 => ?_)
    · have h := ob_f h z5
      refine lv_aload_n hx hb dX12_chance_35 rfl (lv_at hl 0 rfl) ?_
      refine x_get C0 hP (lay_X12 B ct S1) rfl inG12 5 (by decide) wd_1146 (fun _ h => h) rfl dX12_chance_36 ?_
      refine lv_iload_n hx hb dX12_chance_39 rfl (lv_at hl 1 rfl) ?_
      obtain ⟨g6, h⟩ := ob_gd h
      refine x_iald C0 hP ((fun S => lay_141 B ct S) S1) g6 dX12_chance_40 ?_
      refine lv_istore_n (lv' := [(3, .int (gi S1 141 v1.toNatClampNeg)), (0, .ref (B + 136)), (1, .int v1), (2, .int v2)]) hx hb dX12_chance_41 rfl hl (by decide) rfl (fun ls hl => ?_)
      refine lv_aload_n hx hb dX12_chance_42 rfl (lv_at hl 1 rfl) ?_
      refine x_get C0 hP (lay_X12 B ct S1) rfl inG12 5 (by decide) wd_1146 (fun _ h => h) rfl dX12_chance_43 ?_
      refine lv_iload_n hx hb dX12_chance_46 rfl (lv_at hl 2 rfl) ?_
      refine lv_iload_n hx hb dX12_chance_47 rfl (lv_at hl 3 rfl) ?_
      obtain ⟨g7, h⟩ := ob_gd h
      obtain ⟨S8, eS8, h⟩ := ob_nm h
      refine x_iast C0 hP hS (fun S => lay_141 B ct S) g7 dX12_chance_48 (fun H locs hP hS => ?_)
      rw [← eS8] at hP
      refine lv_iload_n hx hb dX12_chance_49 rfl (lv_at hl 0 rfl) ?_
      exact r_Iw C0 hP hS h dX12_chance_50
    · have h := ob_t h z5
      refine lv_iconst (v := (-1)) hx hb dX12_chance_33 (by decide) ?_
      exact r_Iw C0 hP hS h dX12_chance_34
set_option maxRecDepth 100000 in
set_option maxHeartbeats 4000000 in
theorem c_X12_chance (l : Launch) (a1 : Int32) (a2 : Int32) {D : va_G} {ct : Nat → ClassId} {B : Nat} {Hb : Heap} {S : St} {V : Int32 × St} (h : L_X12_chance a1 a2 S = some V) : Met l yX12_chance (Cond.code yX12_chance cX12_chance 4 (some .int) :: tG) { frames := 1, cells := 0, slots := 0, locals := 25 } (va_Pc [.ref (B + 136), .int a1, .int a2] (MPK D ct B Hb S)) (qIw D ct B Hb V) 0 0 (AB B) := by
  refine mk_met (by decide +kernel) (Nat.le_of_ble_eq_true rfl) (fun p e s m args below meth c ls C0 hP hl _ => ?_)
  have h := ob_of h
  exact w_X12_chance_0 l C0 a1 a2 S h hP va_S.rf (lv_sub hl [0, 1, 2] rfl)
set_option maxRecDepth 100000 in
set_option maxHeartbeats 4000000 in
theorem w_X12_kin_0 (l : Launch) {V : Int32 × St} (C0 : XC D ct p s m args meth c cX12_kin 3 (some .int) RX12) (v1 : Int32) (v2 : Int32) (S : St) {H : Heap} {locs : List Loc} {ls : Array Slot} (h : (b_X12_kin_0 v1 v2 S).bind some = some V) (hP : MP D ct B Hb S H) (hS : va_S (AB B) s.heap H locs) (hl : lv_has ls 3 [(0, .ref (B + 136)), (1, .int v1), (2, .int v2)]) : W p l e { frames := 2, cells := 0, slots := 0, locals := 45 } s m args below meth c H locs 0 0 (MQ below (qIw D ct B Hb V) args s 0 0 (AB B)) (F0 m 0 ls []) := by
  obtain ⟨hx, hb, hr, hml, hown, hts, hK, hlocks, hN⟩ := id C0
  unfold b_X12_kin_0 at h
  refine lv_aload_n hx hb dX12_kin_0 rfl (lv_at hl 0 rfl) ?_
  refine lv_iconst (v := 0) hx hb dX12_kin_1 (by decide) ?_
  obtain ⟨S1, eS1, h⟩ := ob_nm h
  refine x_put (S' := si S 136 28 0) (FS := (fs12 B)) C0 hP hS (fun S => lay_X12 B ct S) rfl inG12 tyX12 tyX12_ok nmX12 28 (by decide) wd_1169 rfl rfl (fun a ha => lay_local (gi_si_n _ _ _ ha) rfl rfl rfl) (put_12_28 B _ _) rfl rfl (Nat.le_of_ble_eq_true rfl) dX12_kin_2 (fun H locs hP hS => ?_)
  rw [← eS1] at hP
  refine lv_iload_n hx hb dX12_kin_5 rfl (lv_at hl 1 rfl) ?_
  obtain ⟨r2, hr2, h⟩ := ob_bd h
  refine n_I (kS (As := [.int v1]) C0 (c_X12_isCase l v1 hr2) ⟨wd_1410, wd_1408, wd_1409, wd_6⟩ kd_X12_isCase ⟨Nat.le_of_ble_eq_true rfl, Nat.le_of_ble_eq_true rfl⟩ hP rfl hl.1 rfl (Nat.le_of_ble_eq_true rfl) dX12_kin_6 ⟨Nat.le_of_ble_eq_true rfl, Nat.le_of_ble_eq_true rfl⟩) hS (fun H locs hP hS => ?_)
  refine lv_if_eq (tgt := 24) hx hb dX12_kin_9 (by decide) (fun z3 => ?_) (fun z3 => ?_)
  · have h := ob_t h z3
    refine lv_iconst (v := (-1)) hx hb dX12_kin_24 (by decide) ?_
    exact r_Iw C0 hP hS h dX12_kin_25
  · have h := ob_f h z3
    refine lv_iload_n hx hb dX12_kin_12 rfl (lv_at hl 2 rfl) ?_
    obtain ⟨r4, hr4, h⟩ := ob_bd h
    refine n_I (kS (As := [.int v2]) C0 (c_X12_isCase l v2 hr4) ⟨wd_1410, wd_1408, wd_1409, wd_6⟩ kd_X12_isCase ⟨Nat.le_of_ble_eq_true rfl, Nat.le_of_ble_eq_true rfl⟩ hP rfl hl.1 rfl (Nat.le_of_ble_eq_true rfl) dX12_kin_13 ⟨Nat.le_of_ble_eq_true rfl, Nat.le_of_ble_eq_true rfl⟩) hS (fun H locs hP hS => ?_)
    refine lv_if_eq (tgt := 24) hx hb dX12_kin_16 (by decide) (fun z5 => ?_) (fun z5 => ?_)
    · have h := ob_t h z5
      refine lv_iconst (v := (-1)) hx hb dX12_kin_24 (by decide) ?_
      exact r_Iw C0 hP hS h dX12_kin_25
    · have h := ob_f h z5
      refine lv_iload_n hx hb dX12_kin_19 rfl (lv_at hl 1 rfl) ?_
      refine lv_iload_n hx hb dX12_kin_20 rfl (lv_at hl 2 rfl) ?_
      refine lv_icmp_ne (tgt := 26) hx hb dX12_kin_21 (by decide) (fun z6 => ?_) (fun z6 => ?_)
      · have h := ob_f h z6
        refine lv_aload_n hx hb dX12_kin_26 rfl (lv_at hl 0 rfl) ?_
        refine lv_iload_n hx hb dX12_kin_27 rfl (lv_at hl 1 rfl) ?_
        refine lv_iload_n hx hb dX12_kin_28 rfl (lv_at hl 2 rfl) ?_
        obtain ⟨r7, hr7, h⟩ := ob_bd h
        refine n_Vw (kV (As := [.int v1, .int v2]) C0 (c_X12_turnKin l v1 v2 hr7) ⟨wd_1427, wd_1424, wd_1426, wp_33, wd_6⟩ kd_X12_turnKin ⟨Nat.le_of_ble_eq_true rfl, Nat.le_of_ble_eq_true rfl⟩ hP (lay_X12 B ct S1) rfl rfl hl.1 rfl (Nat.le_of_ble_eq_true rfl) dX12_kin_29 ⟨Nat.le_of_ble_eq_true rfl, Nat.le_of_ble_eq_true rfl⟩) hS (fun H locs hP hS => ?_)
        refine lv_aload_n hx hb dX12_kin_32 rfl (lv_at hl 0 rfl) ?_
        refine x_get C0 hP (lay_X12 B ct r7) rfl inG12 0 (by decide) wd_1141 (fun _ h => h) rfl dX12_kin_33 ?_
        refine lv_iconst (v := 4) hx hb dX12_kin_36 (by decide) ?_
        refine lv_iload_n hx hb dX12_kin_37 rfl (lv_at hl 1 rfl) ?_
        refine lv_imul hx hb dX12_kin_38 ?_
        refine lv_iload_n hx hb dX12_kin_39 rfl (lv_at hl 2 rfl) ?_
        refine lv_iadd hx hb dX12_kin_40 ?_
        obtain ⟨g8, h⟩ := ob_gd h
        refine x_iald C0 hP ((fun S => lay_137 B ct S) r7) g8 dX12_kin_41 ?_
        exact r_Iw C0 hP hS h dX12_kin_42
      · have h := ob_t h z6
        refine lv_iconst (v := (-1)) hx hb dX12_kin_24 (by decide) ?_
        exact r_Iw C0 hP hS h dX12_kin_25
set_option maxRecDepth 100000 in
set_option maxHeartbeats 4000000 in
theorem c_X12_kin (l : Launch) (a1 : Int32) (a2 : Int32) {D : va_G} {ct : Nat → ClassId} {B : Nat} {Hb : Heap} {S : St} {V : Int32 × St} (h : L_X12_kin a1 a2 S = some V) : Met l yX12_kin (Cond.code yX12_kin cX12_kin 3 (some .int) :: tG) { frames := 2, cells := 0, slots := 0, locals := 45 } (va_Pc [.ref (B + 136), .int a1, .int a2] (MPK D ct B Hb S)) (qIw D ct B Hb V) 0 0 (AB B) := by
  refine mk_met (by decide +kernel) (Nat.le_of_ble_eq_true rfl) (fun p e s m args below meth c ls C0 hP hl _ => ?_)
  have h := ob_of h
  exact w_X12_kin_0 l C0 a1 a2 S h hP va_S.rf (lv_sub hl [0, 1, 2] rfl)
end WALKS
