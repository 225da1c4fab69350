theorem dX10_addFact_0 : decode cX10_addFact 0 = .ok (.iload_n 1, 1) := by decide +kernel
theorem dX10_addFact_1 : decode cX10_addFact 1 = .ok (.iconst 0, 1) := by decide +kernel
theorem dX10_addFact_2 : decode cX10_addFact 2 = .ok (.iconst 3, 1) := by decide +kernel
theorem dX10_addFact_3 : decode cX10_addFact 3 = .ok (.invokestatic 82, 3) := by decide +kernel
theorem dX10_addFact_6 : decode cX10_addFact 6 = .ok (.ifCond .ne 24, 3) := by decide +kernel
theorem dX10_addFact_9 : decode cX10_addFact 9 = .ok (.iload_n 2, 1) := by decide +kernel
theorem dX10_addFact_10 : decode cX10_addFact 10 = .ok (.bipush (-9), 2) := by decide +kernel
theorem dX10_addFact_12 : decode cX10_addFact 12 = .ok (.bipush 9, 2) := by decide +kernel
theorem dX10_addFact_14 : decode cX10_addFact 14 = .ok (.invokestatic 82, 3) := by decide +kernel
theorem dX10_addFact_17 : decode cX10_addFact 17 = .ok (.ifCond .ne 13, 3) := by decide +kernel
theorem dX10_addFact_20 : decode cX10_addFact 20 = .ok (.iload_n 3, 1) := by decide +kernel
theorem dX10_addFact_21 : decode cX10_addFact 21 = .ok (.iconst 0, 1) := by decide +kernel
theorem dX10_addFact_22 : decode cX10_addFact 22 = .ok (.bipush 23, 2) := by decide +kernel
theorem dX10_addFact_24 : decode cX10_addFact 24 = .ok (.invokestatic 82, 3) := by decide +kernel
theorem dX10_addFact_27 : decode cX10_addFact 27 = .ok (.ifCond .eq 5, 3) := by decide +kernel
theorem dX10_addFact_30 : decode cX10_addFact 30 = .ok (.iconst (-1), 1) := by decide +kernel
theorem dX10_addFact_31 : decode cX10_addFact 31 = .ok (.ireturn, 1) := by decide +kernel
theorem dX10_addFact_32 : decode cX10_addFact 32 = .ok (.aload_n 0, 1) := by decide +kernel
theorem dX10_addFact_33 : decode cX10_addFact 33 = .ok (.getfield 37, 3) := by decide +kernel
theorem dX10_addFact_36 : decode cX10_addFact 36 = .ok (.bipush 6, 2) := by decide +kernel
theorem dX10_addFact_38 : decode cX10_addFact 38 = .ok (.if_icmp .lt 6, 3) := by decide +kernel
theorem dX10_addFact_41 : decode cX10_addFact 41 = .ok (.bipush (-2), 2) := by decide +kernel
theorem dX10_addFact_43 : decode cX10_addFact 43 = .ok (.ireturn, 1) := by decide +kernel
theorem dX10_addFact_44 : decode cX10_addFact 44 = .ok (.aload_n 0, 1) := by decide +kernel
theorem dX10_addFact_45 : decode cX10_addFact 45 = .ok (.getfield 40, 3) := by decide +kernel
theorem dX10_addFact_48 : decode cX10_addFact 48 = .ok (.aload_n 0, 1) := by decide +kernel
theorem dX10_addFact_49 : decode cX10_addFact 49 = .ok (.getfield 37, 3) := by decide +kernel
theorem dX10_addFact_52 : decode cX10_addFact 52 = .ok (.iload_n 1, 1) := by decide +kernel
theorem dX10_addFact_53 : decode cX10_addFact 53 = .ok (.iastore, 1) := by decide +kernel
theorem dX10_addFact_54 : decode cX10_addFact 54 = .ok (.aload_n 0, 1) := by decide +kernel
theorem dX10_addFact_55 : decode cX10_addFact 55 = .ok (.getfield 43, 3) := by decide +kernel
theorem dX10_addFact_58 : decode cX10_addFact 58 = .ok (.aload_n 0, 1) := by decide +kernel
theorem dX10_addFact_59 : decode cX10_addFact 59 = .ok (.getfield 37, 3) := by decide +kernel
theorem dX10_addFact_62 : decode cX10_addFact 62 = .ok (.iload_n 2, 1) := by decide +kernel
theorem dX10_addFact_63 : decode cX10_addFact 63 = .ok (.iastore, 1) := by decide +kernel
theorem dX10_addFact_64 : decode cX10_addFact 64 = .ok (.aload_n 0, 1) := by decide +kernel
theorem dX10_addFact_65 : decode cX10_addFact 65 = .ok (.getfield 46, 3) := by decide +kernel
theorem dX10_addFact_68 : decode cX10_addFact 68 = .ok (.aload_n 0, 1) := by decide +kernel
theorem dX10_addFact_69 : decode cX10_addFact 69 = .ok (.getfield 37, 3) := by decide +kernel
theorem dX10_addFact_72 : decode cX10_addFact 72 = .ok (.iload_n 3, 1) := by decide +kernel
theorem dX10_addFact_73 : decode cX10_addFact 73 = .ok (.iastore, 1) := by decide +kernel
theorem dX10_addFact_74 : decode cX10_addFact 74 = .ok (.aload_n 0, 1) := by decide +kernel
theorem dX10_addFact_75 : decode cX10_addFact 75 = .ok (.getfield 49, 3) := by decide +kernel
theorem dX10_addFact_78 : decode cX10_addFact 78 = .ok (.aload_n 0, 1) := by decide +kernel
theorem dX10_addFact_79 : decode cX10_addFact 79 = .ok (.getfield 37, 3) := by decide +kernel
theorem dX10_addFact_82 : decode cX10_addFact 82 = .ok (.bipush 10, 2) := by decide +kernel
theorem dX10_addFact_84 : decode cX10_addFact 84 = .ok (.iastore, 1) := by decide +kernel
theorem dX10_addFact_85 : decode cX10_addFact 85 = .ok (.aload_n 0, 1) := by decide +kernel
theorem dX10_addFact_86 : decode cX10_addFact 86 = .ok (.dup, 1) := by decide +kernel
theorem dX10_addFact_87 : decode cX10_addFact 87 = .ok (.getfield 37, 3) := by decide +kernel
theorem dX10_addFact_90 : decode cX10_addFact 90 = .ok (.iconst 1, 1) := by decide +kernel
theorem dX10_addFact_91 : decode cX10_addFact 91 = .ok (.iadd, 1) := by decide +kernel
theorem dX10_addFact_92 : decode cX10_addFact 92 = .ok (.putfield 37, 3) := by decide +kernel
theorem dX10_addFact_95 : decode cX10_addFact 95 = .ok (.aload_n 0, 1) := by decide +kernel
theorem dX10_addFact_96 : decode cX10_addFact 96 = .ok (.getfield 37, 3) := by decide +kernel
theorem dX10_addFact_99 : decode cX10_addFact 99 = .ok (.iconst 1, 1) := by decide +kernel
theorem dX10_addFact_100 : decode cX10_addFact 100 = .ok (.isub, 1) := by decide +kernel
theorem dX10_addFact_101 : decode cX10_addFact 101 = .ok (.ireturn, 1) := by decide +kernel
theorem dX10_addPlant_0 : decode cX10_addPlant 0 = .ok (.iload_n 1, 1) := by decide +kernel
theorem dX10_addPlant_1 : decode cX10_addPlant 1 = .ok (.iconst 0, 1) := by decide +kernel
theorem dX10_addPlant_2 : decode cX10_addPlant 2 = .ok (.iconst 3, 1) := by decide +kernel
theorem dX10_addPlant_3 : decode cX10_addPlant 3 = .ok (.invokestatic 82, 3) := by decide +kernel
theorem dX10_addPlant_6 : decode cX10_addPlant 6 = .ok (.ifCond .ne 35, 3) := by decide +kernel
theorem dX10_addPlant_9 : decode cX10_addPlant 9 = .ok (.iload_n 3, 1) := by decide +kernel
theorem dX10_addPlant_10 : decode cX10_addPlant 10 = .ok (.iconst 1, 1) := by decide +kernel
theorem dX10_addPlant_11 : decode cX10_addPlant 11 = .ok (.bipush 60, 2) := by decide +kernel
theorem dX10_addPlant_13 : decode cX10_addPlant 13 = .ok (.invokestatic 82, 3) := by decide +kernel
theorem dX10_addPlant_16 : decode cX10_addPlant 16 = .ok (.ifCond .ne 25, 3) := by decide +kernel
theorem dX10_addPlant_19 : decode cX10_addPlant 19 = .ok (.iload 4, 2) := by decide +kernel
theorem dX10_addPlant_21 : decode cX10_addPlant 21 = .ok (.iconst 0, 1) := by decide +kernel
theorem dX10_addPlant_22 : decode cX10_addPlant 22 = .ok (.bipush 99, 2) := by decide +kernel
theorem dX10_addPlant_24 : decode cX10_addPlant 24 = .ok (.invokestatic 82, 3) := by decide +kernel
theorem dX10_addPlant_27 : decode cX10_addPlant 27 = .ok (.ifCond .ne 14, 3) := by decide +kernel
theorem dX10_addPlant_30 : decode cX10_addPlant 30 = .ok (.iload 5, 2) := by decide +kernel
theorem dX10_addPlant_32 : decode cX10_addPlant 32 = .ok (.iconst 0, 1) := by decide +kernel
theorem dX10_addPlant_33 : decode cX10_addPlant 33 = .ok (.bipush 23, 2) := by decide +kernel
theorem dX10_addPlant_35 : decode cX10_addPlant 35 = .ok (.invokestatic 82, 3) := by decide +kernel
theorem dX10_addPlant_38 : decode cX10_addPlant 38 = .ok (.ifCond .eq 5, 3) := by decide +kernel
theorem dX10_addPlant_41 : decode cX10_addPlant 41 = .ok (.iconst (-1), 1) := by decide +kernel
theorem dX10_addPlant_42 : decode cX10_addPlant 42 = .ok (.ireturn, 1) := by decide +kernel
theorem dX10_addPlant_43 : decode cX10_addPlant 43 = .ok (.aload_n 0, 1) := by decide +kernel
theorem dX10_addPlant_44 : decode cX10_addPlant 44 = .ok (.getfield 52, 3) := by decide +kernel
theorem dX10_addPlant_47 : decode cX10_addPlant 47 = .ok (.iconst 3, 1) := by decide +kernel
theorem dX10_addPlant_48 : decode cX10_addPlant 48 = .ok (.if_icmp .lt 6, 3) := by decide +kernel
theorem dX10_addPlant_51 : decode cX10_addPlant 51 = .ok (.bipush (-2), 2) := by decide +kernel
theorem dX10_addPlant_53 : decode cX10_addPlant 53 = .ok (.ireturn, 1) := by decide +kernel
theorem dX10_addPlant_54 : decode cX10_addPlant 54 = .ok (.aload_n 0, 1) := by decide +kernel
theorem dX10_addPlant_55 : decode cX10_addPlant 55 = .ok (.getfield 55, 3) := by decide +kernel
theorem dX10_addPlant_58 : decode cX10_addPlant 58 = .ok (.aload_n 0, 1) := by decide +kernel
theorem dX10_addPlant_59 : decode cX10_addPlant 59 = .ok (.getfield 52, 3) := by decide +kernel
theorem dX10_addPlant_62 : decode cX10_addPlant 62 = .ok (.iload_n 1, 1) := by decide +kernel
theorem dX10_addPlant_63 : decode cX10_addPlant 63 = .ok (.iastore, 1) := by decide +kernel
theorem dX10_addPlant_64 : decode cX10_addPlant 64 = .ok (.aload_n 0, 1) := by decide +kernel
theorem dX10_addPlant_65 : decode cX10_addPlant 65 = .ok (.getfield 58, 3) := by decide +kernel
theorem dX10_addPlant_68 : decode cX10_addPlant 68 = .ok (.aload_n 0, 1) := by decide +kernel
theorem dX10_addPlant_69 : decode cX10_addPlant 69 = .ok (.getfield 52, 3) := by decide +kernel
theorem dX10_addPlant_72 : decode cX10_addPlant 72 = .ok (.iload_n 2, 1) := by decide +kernel
theorem dX10_addPlant_73 : decode cX10_addPlant 73 = .ok (.iastore, 1) := by decide +kernel
theorem dX10_addPlant_74 : decode cX10_addPlant 74 = .ok (.aload_n 0, 1) := by decide +kernel
theorem dX10_addPlant_75 : decode cX10_addPlant 75 = .ok (.getfield 61, 3) := by decide +kernel
theorem dX10_addPlant_78 : decode cX10_addPlant 78 = .ok (.aload_n 0, 1) := by decide +kernel
theorem dX10_addPlant_79 : decode cX10_addPlant 79 = .ok (.getfield 52, 3) := by decide +kernel
theorem dX10_addPlant_82 : decode cX10_addPlant 82 = .ok (.iload_n 3, 1) := by decide +kernel
theorem dX10_addPlant_83 : decode cX10_addPlant 83 = .ok (.iastore, 1) := by decide +kernel
theorem dX10_addPlant_84 : decode cX10_addPlant 84 = .ok (.aload_n 0, 1) := by decide +kernel
theorem dX10_addPlant_85 : decode cX10_addPlant 85 = .ok (.getfield 64, 3) := by decide +kernel
theorem dX10_addPlant_88 : decode cX10_addPlant 88 = .ok (.aload_n 0, 1) := by decide +kernel
theorem dX10_addPlant_89 : decode cX10_addPlant 89 = .ok (.getfield 52, 3) := by decide +kernel
theorem dX10_addPlant_92 : decode cX10_addPlant 92 = .ok (.iload 4, 2) := by decide +kernel
theorem dX10_addPlant_94 : decode cX10_addPlant 94 = .ok (.iastore, 1) := by decide +kernel
theorem dX10_addPlant_95 : decode cX10_addPlant 95 = .ok (.aload_n 0, 1) := by decide +kernel
theorem dX10_addPlant_96 : decode cX10_addPlant 96 = .ok (.getfield 67, 3) := by decide +kernel
theorem dX10_addPlant_99 : decode cX10_addPlant 99 = .ok (.aload_n 0, 1) := by decide +kernel
theorem dX10_addPlant_100 : decode cX10_addPlant 100 = .ok (.getfield 52, 3) := by decide +kernel
theorem dX10_addPlant_103 : decode cX10_addPlant 103 = .ok (.iload 5, 2) := by decide +kernel
theorem dX10_addPlant_105 : decode cX10_addPlant 105 = .ok (.iastore, 1) := by decide +kernel
theorem dX10_addPlant_106 : decode cX10_addPlant 106 = .ok (.aload_n 0, 1) := by decide +kernel
theorem dX10_addPlant_107 : decode cX10_addPlant 107 = .ok (.dup, 1) := by decide +kernel
theorem dX10_addPlant_108 : decode cX10_addPlant 108 = .ok (.getfield 52, 3) := by decide +kernel
theorem dX10_addPlant_111 : decode cX10_addPlant 111 = .ok (.iconst 1, 1) := by decide +kernel
theorem dX10_addPlant_112 : decode cX10_addPlant 112 = .ok (.iadd, 1) := by decide +kernel
theorem dX10_addPlant_113 : decode cX10_addPlant 113 = .ok (.putfield 52, 3) := by decide +kernel
theorem dX10_addPlant_116 : decode cX10_addPlant 116 = .ok (.aload_n 0, 1) := by decide +kernel
theorem dX10_addPlant_117 : decode cX10_addPlant 117 = .ok (.getfield 52, 3) := by decide +kernel
theorem dX10_addPlant_120 : decode cX10_addPlant 120 = .ok (.iconst 1, 1) := by decide +kernel
theorem dX10_addPlant_121 : decode cX10_addPlant 121 = .ok (.isub, 1) := by decide +kernel
theorem dX10_addPlant_122 : decode cX10_addPlant 122 = .ok (.ireturn, 1) := by decide +kernel
theorem dX10_turnKin_0 : decode cX10_turnKin 0 = .ok (.iload_n 1, 1) := by decide +kernel
theorem dX10_turnKin_1 : decode cX10_turnKin 1 = .ok (.iconst 0, 1) := by decide +kernel
theorem dX10_turnKin_2 : decode cX10_turnKin 2 = .ok (.iconst 3, 1) := by decide +kernel
theorem dX10_turnKin_3 : decode cX10_turnKin 3 = .ok (.invokestatic 82, 3) := by decide +kernel
theorem dX10_turnKin_6 : decode cX10_turnKin 6 = .ok (.ifCond .ne 17, 3) := by decide +kernel
theorem dX10_turnKin_9 : decode cX10_turnKin 9 = .ok (.iload_n 2, 1) := by decide +kernel
theorem dX10_turnKin_10 : decode cX10_turnKin 10 = .ok (.iconst 0, 1) := by decide +kernel
theorem dX10_turnKin_11 : decode cX10_turnKin 11 = .ok (.iconst 3, 1) := by decide +kernel
theorem dX10_turnKin_12 : decode cX10_turnKin 12 = .ok (.invokestatic 82, 3) := by decide +kernel
theorem dX10_turnKin_15 : decode cX10_turnKin 15 = .ok (.ifCond .ne 8, 3) := by decide +kernel
theorem dX10_turnKin_18 : decode cX10_turnKin 18 = .ok (.iload_n 1, 1) := by decide +kernel
theorem dX10_turnKin_19 : decode cX10_turnKin 19 = .ok (.iload_n 2, 1) := by decide +kernel
theorem dX10_turnKin_20 : decode cX10_turnKin 20 = .ok (.if_icmp .ne 5, 3) := by decide +kernel
theorem dX10_turnKin_23 : decode cX10_turnKin 23 = .ok (.iconst (-1), 1) := by decide +kernel
theorem dX10_turnKin_24 : decode cX10_turnKin 24 = .ok (.ireturn, 1) := by decide +kernel
theorem dX10_turnKin_25 : decode cX10_turnKin 25 = .ok (.aload_n 0, 1) := by decide +kernel
theorem dX10_turnKin_26 : decode cX10_turnKin 26 = .ok (.getfield 70, 3) := by decide +kernel
theorem dX10_turnKin_29 : decode cX10_turnKin 29 = .ok (.iload_n 1, 1) := by decide +kernel
theorem dX10_turnKin_30 : decode cX10_turnKin 30 = .ok (.dup2, 1) := by decide +kernel
theorem dX10_turnKin_31 : decode cX10_turnKin 31 = .ok (.iaload, 1) := by decide +kernel
theorem dX10_turnKin_32 : decode cX10_turnKin 32 = .ok (.iconst 1, 1) := by decide +kernel
theorem dX10_turnKin_33 : decode cX10_turnKin 33 = .ok (.iload_n 2, 1) := by decide +kernel
theorem dX10_turnKin_34 : decode cX10_turnKin 34 = .ok (.ishl, 1) := by decide +kernel
theorem dX10_turnKin_35 : decode cX10_turnKin 35 = .ok (.ixor, 1) := by decide +kernel
theorem dX10_turnKin_36 : decode cX10_turnKin 36 = .ok (.iastore, 1) := by decide +kernel
theorem dX10_turnKin_37 : decode cX10_turnKin 37 = .ok (.aload_n 0, 1) := by decide +kernel
theorem dX10_turnKin_38 : decode cX10_turnKin 38 = .ok (.getfield 70, 3) := by decide +kernel
theorem dX10_turnKin_41 : decode cX10_turnKin 41 = .ok (.iload_n 2, 1) := by decide +kernel
theorem dX10_turnKin_42 : decode cX10_turnKin 42 = .ok (.dup2, 1) := by decide +kernel
theorem dX10_turnKin_43 : decode cX10_turnKin 43 = .ok (.iaload, 1) := by decide +kernel
theorem dX10_turnKin_44 : decode cX10_turnKin 44 = .ok (.iconst 1, 1) := by decide +kernel
theorem dX10_turnKin_45 : decode cX10_turnKin 45 = .ok (.iload_n 1, 1) := by decide +kernel
theorem dX10_turnKin_46 : decode cX10_turnKin 46 = .ok (.ishl, 1) := by decide +kernel
theorem dX10_turnKin_47 : decode cX10_turnKin 47 = .ok (.ixor, 1) := by decide +kernel
theorem dX10_turnKin_48 : decode cX10_turnKin 48 = .ok (.iastore, 1) := by decide +kernel
theorem dX10_turnKin_49 : decode cX10_turnKin 49 = .ok (.aload_n 0, 1) := by decide +kernel
theorem dX10_turnKin_50 : decode cX10_turnKin 50 = .ok (.iload_n 1, 1) := by decide +kernel
theorem dX10_turnKin_51 : decode cX10_turnKin 51 = .ok (.iload_n 2, 1) := by decide +kernel
theorem dX10_turnKin_52 : decode cX10_turnKin 52 = .ok (.invokevirtual 90, 3) := by decide +kernel
theorem dX10_turnKin_55 : decode cX10_turnKin 55 = .ok (.ifCond .eq 7, 3) := by decide +kernel
theorem dX10_turnKin_58 : decode cX10_turnKin 58 = .ok (.iconst 1, 1) := by decide +kernel
theorem dX10_turnKin_59 : decode cX10_turnKin 59 = .ok (.goto 4, 3) := by decide +kernel
theorem dX10_turnKin_62 : decode cX10_turnKin 62 = .ok (.iconst 0, 1) := by decide +kernel
theorem dX10_turnKin_63 : decode cX10_turnKin 63 = .ok (.ireturn, 1) := by decide +kernel
theorem dX10_pairsOfKin_0 : decode cX10_pairsOfKin 0 = .ok (.iconst 0, 1) := by decide +kernel
theorem dX10_pairsOfKin_1 : decode cX10_pairsOfKin 1 = .ok (.istore_n 1, 1) := by decide +kernel
theorem dX10_pairsOfKin_2 : decode cX10_pairsOfKin 2 = .ok (.iconst 0, 1) := by decide +kernel
theorem dX10_pairsOfKin_3 : decode cX10_pairsOfKin 3 = .ok (.istore_n 2, 1) := by decide +kernel
theorem dX10_pairsOfKin_4 : decode cX10_pairsOfKin 4 = .ok (.iload_n 2, 1) := by decide +kernel
theorem dX10_pairsOfKin_5 : decode cX10_pairsOfKin 5 = .ok (.iconst 4, 1) := by decide +kernel
theorem dX10_pairsOfKin_6 : decode cX10_pairsOfKin 6 = .ok (.if_icmp .ge 41, 3) := by decide +kernel
theorem dX10_pairsOfKin_9 : decode cX10_pairsOfKin 9 = .ok (.iload_n 2, 1) := by decide +kernel
theorem dX10_pairsOfKin_10 : decode cX10_pairsOfKin 10 = .ok (.iconst 1, 1) := by decide +kernel
theorem dX10_pairsOfKin_11 : decode cX10_pairsOfKin 11 = .ok (.iadd, 1) := by decide +kernel
theorem dX10_pairsOfKin_12 : decode cX10_pairsOfKin 12 = .ok (.istore_n 3, 1) := by decide +kernel
theorem dX10_pairsOfKin_13 : decode cX10_pairsOfKin 13 = .ok (.iload_n 3, 1) := by decide +kernel
theorem dX10_pairsOfKin_14 : decode cX10_pairsOfKin 14 = .ok (.iconst 4, 1) := by decide +kernel
theorem dX10_pairsOfKin_15 : decode cX10_pairsOfKin 15 = .ok (.if_icmp .ge 26, 3) := by decide +kernel
theorem dX10_pairsOfKin_18 : decode cX10_pairsOfKin 18 = .ok (.iload_n 1, 1) := by decide +kernel
theorem dX10_pairsOfKin_19 : decode cX10_pairsOfKin 19 = .ok (.aload_n 0, 1) := by decide +kernel
theorem dX10_pairsOfKin_20 : decode cX10_pairsOfKin 20 = .ok (.iload_n 2, 1) := by decide +kernel
theorem dX10_pairsOfKin_21 : decode cX10_pairsOfKin 21 = .ok (.iload_n 3, 1) := by decide +kernel
theorem dX10_pairsOfKin_22 : decode cX10_pairsOfKin 22 = .ok (.invokevirtual 90, 3) := by decide +kernel
theorem dX10_pairsOfKin_25 : decode cX10_pairsOfKin 25 = .ok (.ifCond .eq 7, 3) := by decide +kernel
theorem dX10_pairsOfKin_28 : decode cX10_pairsOfKin 28 = .ok (.iconst 1, 1) := by decide +kernel
theorem dX10_pairsOfKin_29 : decode cX10_pairsOfKin 29 = .ok (.goto 4, 3) := by decide +kernel
theorem dX10_pairsOfKin_32 : decode cX10_pairsOfKin 32 = .ok (.iconst 0, 1) := by decide +kernel
theorem dX10_pairsOfKin_33 : decode cX10_pairsOfKin 33 = .ok (.iadd, 1) := by decide +kernel
theorem dX10_pairsOfKin_34 : decode cX10_pairsOfKin 34 = .ok (.istore_n 1, 1) := by decide +kernel
theorem dX10_pairsOfKin_35 : decode cX10_pairsOfKin 35 = .ok (.iinc 3 1, 3) := by decide +kernel
theorem dX10_pairsOfKin_38 : decode cX10_pairsOfKin 38 = .ok (.goto (-25), 3) := by decide +kernel
theorem dX10_pairsOfKin_41 : decode cX10_pairsOfKin 41 = .ok (.iinc 2 1, 3) := by decide +kernel
theorem dX10_pairsOfKin_44 : decode cX10_pairsOfKin 44 = .ok (.goto (-40), 3) := by decide +kernel
theorem dX10_pairsOfKin_47 : decode cX10_pairsOfKin 47 = .ok (.iload_n 1, 1) := by decide +kernel
theorem dX10_pairsOfKin_48 : decode cX10_pairsOfKin 48 = .ok (.ireturn, 1) := by decide +kernel
theorem dX10_changeRule_0 : decode cX10_changeRule 0 = .ok (.iload_n 1, 1) := by decide +kernel
theorem dX10_changeRule_1 : decode cX10_changeRule 1 = .ok (.ifCond .ne 8, 3) := by decide +kernel
theorem dX10_changeRule_4 : decode cX10_changeRule 4 = .ok (.bipush 23, 2) := by decide +kernel
theorem dX10_changeRule_6 : decode cX10_changeRule 6 = .ok (.goto 15, 3) := by decide +kernel
theorem dX10_changeRule_9 : decode cX10_changeRule 9 = .ok (.iload_n 1, 1) := by decide +kernel
theorem dX10_changeRule_10 : decode cX10_changeRule 10 = .ok (.iconst 1, 1) := by decide +kernel
theorem dX10_changeRule_11 : decode cX10_changeRule 11 = .ok (.if_icmp .ne 8, 3) := by decide +kernel
theorem dX10_changeRule_14 : decode cX10_changeRule 14 = .ok (.bipush 9, 2) := by decide +kernel
theorem dX10_changeRule_16 : decode cX10_changeRule 16 = .ok (.goto 5, 3) := by decide +kernel
theorem dX10_changeRule_19 : decode cX10_changeRule 19 = .ok (.bipush 9, 2) := by decide +kernel
theorem dX10_changeRule_21 : decode cX10_changeRule 21 = .ok (.istore_n 3, 1) := by decide +kernel
theorem dX10_changeRule_22 : decode cX10_changeRule 22 = .ok (.iload_n 1, 1) := by decide +kernel
theorem dX10_changeRule_23 : decode cX10_changeRule 23 = .ok (.iconst 0, 1) := by decide +kernel
theorem dX10_changeRule_24 : decode cX10_changeRule 24 = .ok (.iconst 2, 1) := by decide +kernel
theorem dX10_changeRule_25 : decode cX10_changeRule 25 = .ok (.invokestatic 82, 3) := by decide +kernel
theorem dX10_changeRule_28 : decode cX10_changeRule 28 = .ok (.ifCond .ne 21, 3) := by decide +kernel
theorem dX10_changeRule_31 : decode cX10_changeRule 31 = .ok (.iload_n 2, 1) := by decide +kernel
theorem dX10_changeRule_32 : decode cX10_changeRule 32 = .ok (.iload_n 1, 1) := by decide +kernel
theorem dX10_changeRule_33 : decode cX10_changeRule 33 = .ok (.iconst 2, 1) := by decide +kernel
theorem dX10_changeRule_34 : decode cX10_changeRule 34 = .ok (.if_icmp .ne 7, 3) := by decide +kernel
theorem dX10_changeRule_37 : decode cX10_changeRule 37 = .ok (.iconst 1, 1) := by decide +kernel
theorem dX10_changeRule_38 : decode cX10_changeRule 38 = .ok (.goto 4, 3) := by decide +kernel
theorem dX10_changeRule_41 : decode cX10_changeRule 41 = .ok (.iconst 0, 1) := by decide +kernel
theorem dX10_changeRule_42 : decode cX10_changeRule 42 = .ok (.iload_n 3, 1) := by decide +kernel
theorem dX10_changeRule_43 : decode cX10_changeRule 43 = .ok (.invokestatic 82, 3) := by decide +kernel
theorem dX10_changeRule_46 : decode cX10_changeRule 46 = .ok (.ifCond .eq 5, 3) := by decide +kernel
theorem dX10_changeRule_49 : decode cX10_changeRule 49 = .ok (.iconst (-1), 1) := by decide +kernel
theorem dX10_changeRule_50 : decode cX10_changeRule 50 = .ok (.ireturn, 1) := by decide +kernel
theorem dX10_changeRule_51 : decode cX10_changeRule 51 = .ok (.aload_n 0, 1) := by decide +kernel
theorem dX10_changeRule_52 : decode cX10_changeRule 52 = .ok (.getfield 73, 3) := by decide +kernel
theorem dX10_changeRule_55 : decode cX10_changeRule 55 = .ok (.iload_n 1, 1) := by decide +kernel
theorem dX10_changeRule_56 : decode cX10_changeRule 56 = .ok (.iaload, 1) := by decide +kernel
theorem dX10_changeRule_57 : decode cX10_changeRule 57 = .ok (.istore 4, 2) := by decide +kernel
theorem dX10_changeRule_59 : decode cX10_changeRule 59 = .ok (.aload_n 0, 1) := by decide +kernel
theorem dX10_changeRule_60 : decode cX10_changeRule 60 = .ok (.getfield 73, 3) := by decide +kernel
theorem dX10_changeRule_63 : decode cX10_changeRule 63 = .ok (.iload_n 1, 1) := by decide +kernel
theorem dX10_changeRule_64 : decode cX10_changeRule 64 = .ok (.iload_n 2, 1) := by decide +kernel
theorem dX10_changeRule_65 : decode cX10_changeRule 65 = .ok (.iastore, 1) := by decide +kernel
theorem dX10_changeRule_66 : decode cX10_changeRule 66 = .ok (.iload 4, 2) := by decide +kernel
theorem dX10_changeRule_68 : decode cX10_changeRule 68 = .ok (.ireturn, 1) := by decide +kernel
theorem dX10_allCoins_0 : decode cX10_allCoins 0 = .ok (.iconst 0, 1) := by decide +kernel
theorem dX10_allCoins_1 : decode cX10_allCoins 1 = .ok (.istore_n 1, 1) := by decide +kernel
theorem dX10_allCoins_2 : decode cX10_allCoins 2 = .ok (.iconst 0, 1) := by decide +kernel
theorem dX10_allCoins_3 : decode cX10_allCoins 3 = .ok (.istore_n 2, 1) := by decide +kernel
theorem dX10_allCoins_4 : decode cX10_allCoins 4 = .ok (.iload_n 2, 1) := by decide +kernel
theorem dX10_allCoins_5 : decode cX10_allCoins 5 = .ok (.aload_n 0, 1) := by decide +kernel
theorem dX10_allCoins_6 : decode cX10_allCoins 6 = .ok (.getfield 9, 3) := by decide +kernel
theorem dX10_allCoins_9 : decode cX10_allCoins 9 = .ok (.if_icmp .ge 18, 3) := by decide +kernel
theorem dX10_allCoins_12 : decode cX10_allCoins 12 = .ok (.iload_n 1, 1) := by decide +kernel
theorem dX10_allCoins_13 : decode cX10_allCoins 13 = .ok (.aload_n 0, 1) := by decide +kernel
theorem dX10_allCoins_14 : decode cX10_allCoins 14 = .ok (.getfield 34, 3) := by decide +kernel
theorem dX10_allCoins_17 : decode cX10_allCoins 17 = .ok (.iload_n 2, 1) := by decide +kernel
theorem dX10_allCoins_18 : decode cX10_allCoins 18 = .ok (.iaload, 1) := by decide +kernel
theorem dX10_allCoins_19 : decode cX10_allCoins 19 = .ok (.iadd, 1) := by decide +kernel
theorem dX10_allCoins_20 : decode cX10_allCoins 20 = .ok (.istore_n 1, 1) := by decide +kernel
theorem dX10_allCoins_21 : decode cX10_allCoins 21 = .ok (.iinc 2 1, 3) := by decide +kernel
theorem dX10_allCoins_24 : decode cX10_allCoins 24 = .ok (.goto (-20), 3) := by decide +kernel
theorem dX10_allCoins_27 : decode cX10_allCoins 27 = .ok (.iload_n 1, 1) := by decide +kernel
theorem dX10_allCoins_28 : decode cX10_allCoins 28 = .ok (.ireturn, 1) := by decide +kernel
theorem dX10_fitsShape_0 : decode cX10_fitsShape 0 = .ok (.iload_n 0, 1) := by decide +kernel
theorem dX10_fitsShape_1 : decode cX10_fitsShape 1 = .ok (.lookupswitch 63 #[(43, 45), (48, 27)], 27) := by decide +kernel
theorem dX10_fitsShape_28 : decode cX10_fitsShape 28 = .ok (.iload_n 1, 1) := by decide +kernel
theorem dX10_fitsShape_29 : decode cX10_fitsShape 29 = .ok (.bipush 48, 2) := by decide +kernel
theorem dX10_fitsShape_31 : decode cX10_fitsShape 31 = .ok (.if_icmp .lt 13, 3) := by decide +kernel
theorem dX10_fitsShape_34 : decode cX10_fitsShape 34 = .ok (.iload_n 1, 1) := by decide +kernel
theorem dX10_fitsShape_35 : decode cX10_fitsShape 35 = .ok (.bipush 57, 2) := by decide +kernel
theorem dX10_fitsShape_37 : decode cX10_fitsShape 37 = .ok (.if_icmp .gt 7, 3) := by decide +kernel
theorem dX10_fitsShape_40 : decode cX10_fitsShape 40 = .ok (.iconst 1, 1) := by decide +kernel
theorem dX10_fitsShape_41 : decode cX10_fitsShape 41 = .ok (.goto 4, 3) := by decide +kernel
theorem dX10_fitsShape_44 : decode cX10_fitsShape 44 = .ok (.iconst 0, 1) := by decide +kernel
theorem dX10_fitsShape_45 : decode cX10_fitsShape 45 = .ok (.ireturn, 1) := by decide +kernel
theorem dX10_fitsShape_46 : decode cX10_fitsShape 46 = .ok (.iload_n 1, 1) := by decide +kernel
theorem dX10_fitsShape_47 : decode cX10_fitsShape 47 = .ok (.bipush 43, 2) := by decide +kernel
theorem dX10_fitsShape_49 : decode cX10_fitsShape 49 = .ok (.if_icmp .eq 9, 3) := by decide +kernel
theorem dX10_fitsShape_52 : decode cX10_fitsShape 52 = .ok (.iload_n 1, 1) := by decide +kernel
theorem dX10_fitsShape_53 : decode cX10_fitsShape 53 = .ok (.bipush 45, 2) := by decide +kernel
theorem dX10_fitsShape_55 : decode cX10_fitsShape 55 = .ok (.if_icmp .ne 7, 3) := by decide +kernel
theorem dX10_fitsShape_58 : decode cX10_fitsShape 58 = .ok (.iconst 1, 1) := by decide +kernel
theorem dX10_fitsShape_59 : decode cX10_fitsShape 59 = .ok (.goto 4, 3) := by decide +kernel
theorem dX10_fitsShape_62 : decode cX10_fitsShape 62 = .ok (.iconst 0, 1) := by decide +kernel
theorem dX10_fitsShape_63 : decode cX10_fitsShape 63 = .ok (.ireturn, 1) := by decide +kernel
theorem dX10_fitsShape_64 : decode cX10_fitsShape 64 = .ok (.iload_n 1, 1) := by decide +kernel
theorem dX10_fitsShape_65 : decode cX10_fitsShape 65 = .ok (.iload_n 0, 1) := by decide +kernel
theorem dX10_fitsShape_66 : decode cX10_fitsShape 66 = .ok (.if_icmp .ne 7, 3) := by decide +kernel
theorem dX10_fitsShape_69 : decode cX10_fitsShape 69 = .ok (.iconst 1, 1) := by decide +kernel
theorem dX10_fitsShape_70 : decode cX10_fitsShape 70 = .ok (.goto 4, 3) := by decide +kernel
theorem dX10_fitsShape_73 : decode cX10_fitsShape 73 = .ok (.iconst 0, 1) := by decide +kernel
theorem dX10_fitsShape_74 : decode cX10_fitsShape 74 = .ok (.ireturn, 1) := by decide +kernel
theorem dX11_isNobody_0 : decode cX11_isNobody 0 = .ok (.iload_n 1, 1) := by decide +kernel
theorem dX11_isNobody_1 : decode cX11_isNobody 1 = .ok (.ifCond .lt 14, 3) := by decide +kernel
theorem dX11_isNobody_4 : decode cX11_isNobody 4 = .ok (.iload_n 1, 1) := by decide +kernel
theorem dX11_isNobody_5 : decode cX11_isNobody 5 = .ok (.aload_n 0, 1) := by decide +kernel
theorem dX11_isNobody_6 : decode cX11_isNobody 6 = .ok (.getfield 12, 3) := by decide +kernel
theorem dX11_isNobody_9 : decode cX11_isNobody 9 = .ok (.getfield 185, 3) := by decide +kernel
theorem dX11_isNobody_12 : decode cX11_isNobody 12 = .ok (.if_icmp .lt 7, 3) := by decide +kernel
theorem dX11_isNobody_15 : decode cX11_isNobody 15 = .ok (.iconst 1, 1) := by decide +kernel
theorem dX11_isNobody_16 : decode cX11_isNobody 16 = .ok (.goto 4, 3) := by decide +kernel
theorem dX11_isNobody_19 : decode cX11_isNobody 19 = .ok (.iconst 0, 1) := by decide +kernel
theorem dX11_isNobody_20 : decode cX11_isNobody 20 = .ok (.ireturn, 1) := by decide +kernel
theorem dX11_person_0 : decode cX11_person 0 = .ok (.aload_n 0, 1) := by decide +kernel
theorem dX11_person_1 : decode cX11_person 1 = .ok (.iload_n 1, 1) := by decide +kernel
theorem dX11_person_2 : decode cX11_person 2 = .ok (.invokevirtual 81, 3) := by decide +kernel
theorem dX11_person_5 : decode cX11_person 5 = .ok (.ifCond .eq 5, 3) := by decide +kernel
theorem dX11_person_8 : decode cX11_person 8 = .ok (.iconst (-1), 1) := by decide +kernel
theorem dX11_person_9 : decode cX11_person 9 = .ok (.ireturn, 1) := by decide +kernel
theorem dX11_person_10 : decode cX11_person 10 = .ok (.iload_n 2, 1) := by decide +kernel
theorem dX11_person_11 : decode cX11_person 11 = .ok (.tableswitch 132 0 6 #[41, 54, 67, 77, 87, 109, 119], 41) := by decide +kernel
theorem dX11_person_52 : decode cX11_person 52 = .ok (.aload_n 0, 1) := by decide +kernel
theorem dX11_person_53 : decode cX11_person 53 = .ok (.getfield 12, 3) := by decide +kernel
theorem dX11_person_56 : decode cX11_person 56 = .ok (.getfield 85, 3) := by decide +kernel
theorem dX11_person_59 : decode cX11_person 59 = .ok (.iload_n 1, 1) := by decide +kernel
theorem dX11_person_60 : decode cX11_person 60 = .ok (.aaload, 1) := by decide +kernel
theorem dX11_person_61 : decode cX11_person 61 = .ok (.getfield 88, 3) := by decide +kernel
theorem dX11_person_64 : decode cX11_person 64 = .ok (.ireturn, 1) := by decide +kernel
theorem dX11_person_65 : decode cX11_person 65 = .ok (.aload_n 0, 1) := by decide +kernel
theorem dX11_person_66 : decode cX11_person 66 = .ok (.getfield 12, 3) := by decide +kernel
theorem dX11_person_69 : decode cX11_person 69 = .ok (.getfield 85, 3) := by decide +kernel
theorem dX11_person_72 : decode cX11_person 72 = .ok (.iload_n 1, 1) := by decide +kernel
theorem dX11_person_73 : decode cX11_person 73 = .ok (.aaload, 1) := by decide +kernel
theorem dX11_person_74 : decode cX11_person 74 = .ok (.getfield 91, 3) := by decide +kernel
theorem dX11_person_77 : decode cX11_person 77 = .ok (.ireturn, 1) := by decide +kernel
theorem dX11_person_78 : decode cX11_person 78 = .ok (.aload_n 0, 1) := by decide +kernel
theorem dX11_person_79 : decode cX11_person 79 = .ok (.getfield 12, 3) := by decide +kernel
theorem dX11_person_82 : decode cX11_person 82 = .ok (.getfield 94, 3) := by decide +kernel
theorem dX11_person_85 : decode cX11_person 85 = .ok (.iload_n 1, 1) := by decide +kernel
theorem dX11_person_86 : decode cX11_person 86 = .ok (.iaload, 1) := by decide +kernel
theorem dX11_person_87 : decode cX11_person 87 = .ok (.ireturn, 1) := by decide +kernel
theorem dX11_person_88 : decode cX11_person 88 = .ok (.aload_n 0, 1) := by decide +kernel
theorem dX11_person_89 : decode cX11_person 89 = .ok (.getfield 12, 3) := by decide +kernel
theorem dX11_person_92 : decode cX11_person 92 = .ok (.getfield 97, 3) := by decide +kernel
theorem dX11_person_95 : decode cX11_person 95 = .ok (.iload_n 1, 1) := by decide +kernel
theorem dX11_person_96 : decode cX11_person 96 = .ok (.iaload, 1) := by decide +kernel
theorem dX11_person_97 : decode cX11_person 97 = .ok (.ireturn, 1) := by decide +kernel
theorem dX11_person_98 : decode cX11_person 98 = .ok (.aload_n 0, 1) := by decide +kernel
theorem dX11_person_99 : decode cX11_person 99 = .ok (.getfield 12, 3) := by decide +kernel
theorem dX11_person_102 : decode cX11_person 102 = .ok (.getfield 85, 3) := by decide +kernel
theorem dX11_person_105 : decode cX11_person 105 = .ok (.iload_n 1, 1) := by decide +kernel
theorem dX11_person_106 : decode cX11_person 106 = .ok (.aaload, 1) := by decide +kernel
theorem dX11_person_107 : decode cX11_person 107 = .ok (.aload_n 0, 1) := by decide +kernel
theorem dX11_person_108 : decode cX11_person 108 = .ok (.getfield 12, 3) := by decide +kernel
theorem dX11_person_111 : decode cX11_person 111 = .ok (.getfield 97, 3) := by decide +kernel
theorem dX11_person_114 : decode cX11_person 114 = .ok (.iload_n 1, 1) := by decide +kernel
theorem dX11_person_115 : decode cX11_person 115 = .ok (.iaload, 1) := by decide +kernel
theorem dX11_person_116 : decode cX11_person 116 = .ok (.invokevirtual 100, 3) := by decide +kernel
theorem dX11_person_119 : decode cX11_person 119 = .ok (.ireturn, 1) := by decide +kernel
theorem dX11_person_120 : decode cX11_person 120 = .ok (.aload_n 0, 1) := by decide +kernel
theorem dX11_person_121 : decode cX11_person 121 = .ok (.getfield 12, 3) := by decide +kernel
theorem dX11_person_124 : decode cX11_person 124 = .ok (.getfield 104, 3) := by decide +kernel
theorem dX11_person_127 : decode cX11_person 127 = .ok (.iload_n 1, 1) := by decide +kernel
theorem dX11_person_128 : decode cX11_person 128 = .ok (.iaload, 1) := by decide +kernel
theorem dX11_person_129 : decode cX11_person 129 = .ok (.ireturn, 1) := by decide +kernel
theorem dX11_person_130 : decode cX11_person 130 = .ok (.aload_n 0, 1) := by decide +kernel
theorem dX11_person_131 : decode cX11_person 131 = .ok (.getfield 12, 3) := by decide +kernel
theorem dX11_person_134 : decode cX11_person 134 = .ok (.getfield 107, 3) := by decide +kernel
theorem dX11_person_137 : decode cX11_person 137 = .ok (.iload_n 1, 1) := by decide +kernel
theorem dX11_person_138 : decode cX11_person 138 = .ok (.iaload, 1) := by decide +kernel
theorem dX11_person_139 : decode cX11_person 139 = .ok (.bipush 9, 2) := by decide +kernel
theorem dX11_person_141 : decode cX11_person 141 = .ok (.iadd, 1) := by decide +kernel
theorem dX11_person_142 : decode cX11_person 142 = .ok (.ireturn, 1) := by decide +kernel
theorem dX11_person_143 : decode cX11_person 143 = .ok (.iconst (-1), 1) := by decide +kernel
theorem dX11_person_144 : decode cX11_person 144 = .ok (.ireturn, 1) := by decide +kernel
theorem dX11_strength_0 : decode cX11_strength 0 = .ok (.aload_n 0, 1) := by decide +kernel
theorem dX11_strength_1 : decode cX11_strength 1 = .ok (.iload_n 1, 1) := by decide +kernel
theorem dX11_strength_2 : decode cX11_strength 2 = .ok (.invokevirtual 81, 3) := by decide +kernel
theorem dX11_strength_5 : decode cX11_strength 5 = .ok (.ifCond .ne 16, 3) := by decide +kernel
theorem dX11_strength_8 : decode cX11_strength 8 = .ok (.iload_n 2, 1) := by decide +kernel
theorem dX11_strength_9 : decode cX11_strength 9 = .ok (.sipush (-999), 3) := by decide +kernel
theorem dX11_strength_12 : decode cX11_strength 12 = .ok (.sipush 999, 3) := by decide +kernel
theorem dX11_strength_15 : decode cX11_strength 15 = .ok (.invokestatic 110, 3) := by decide +kernel
theorem dX11_strength_18 : decode cX11_strength 18 = .ok (.ifCond .eq 5, 3) := by decide +kernel
theorem dX11_strength_21 : decode cX11_strength 21 = .ok (.iconst (-1), 1) := by decide +kernel
theorem dX11_strength_22 : decode cX11_strength 22 = .ok (.ireturn, 1) := by decide +kernel
theorem dX11_strength_23 : decode cX11_strength 23 = .ok (.aload_n 0, 1) := by decide +kernel
theorem dX11_strength_24 : decode cX11_strength 24 = .ok (.getfield 12, 3) := by decide +kernel
theorem dX11_strength_27 : decode cX11_strength 27 = .ok (.getfield 85, 3) := by decide +kernel
theorem dX11_strength_30 : decode cX11_strength 30 = .ok (.iload_n 1, 1) := by decide +kernel
theorem dX11_strength_31 : decode cX11_strength 31 = .ok (.aaload, 1) := by decide +kernel
theorem dX11_strength_32 : decode cX11_strength 32 = .ok (.iload_n 2, 1) := by decide +kernel
theorem dX11_strength_33 : decode cX11_strength 33 = .ok (.invokevirtual 118, 3) := by decide +kernel
theorem dX11_strength_36 : decode cX11_strength 36 = .ok (.ireturn, 1) := by decide +kernel
theorem dX11_isNoShelf_0 : decode cX11_isNoShelf 0 = .ok (.iload_n 0, 1) := by decide +kernel
theorem dX11_isNoShelf_1 : decode cX11_isNoShelf 1 = .ok (.ifCond .lt 9, 3) := by decide +kernel
theorem dX11_isNoShelf_4 : decode cX11_isNoShelf 4 = .ok (.iload_n 0, 1) := by decide +kernel
theorem dX11_isNoShelf_5 : decode cX11_isNoShelf 5 = .ok (.bipush 8, 2) := by decide +kernel
theorem dX11_isNoShelf_7 : decode cX11_isNoShelf 7 = .ok (.if_icmp .lt 7, 3) := by decide +kernel
theorem dX11_isNoShelf_10 : decode cX11_isNoShelf 10 = .ok (.iconst 1, 1) := by decide +kernel
theorem dX11_isNoShelf_11 : decode cX11_isNoShelf 11 = .ok (.goto 4, 3) := by decide +kernel
theorem dX11_isNoShelf_14 : decode cX11_isNoShelf 14 = .ok (.iconst 0, 1) := by decide +kernel
theorem dX11_isNoShelf_15 : decode cX11_isNoShelf 15 = .ok (.ireturn, 1) := by decide +kernel
theorem dX11_shelfRefusal_0 : decode cX11_shelfRefusal 0 = .ok (.iload_n 1, 1) := by decide +kernel
theorem dX11_shelfRefusal_1 : decode cX11_shelfRefusal 1 = .ok (.invokestatic 127, 3) := by decide +kernel
theorem dX11_shelfRefusal_4 : decode cX11_shelfRefusal 4 = .ok (.ifCond .eq 5, 3) := by decide +kernel
theorem dX11_shelfRefusal_7 : decode cX11_shelfRefusal 7 = .ok (.iconst (-1), 1) := by decide +kernel
theorem dX11_shelfRefusal_8 : decode cX11_shelfRefusal 8 = .ok (.ireturn, 1) := by decide +kernel
theorem dX11_shelfRefusal_9 : decode cX11_shelfRefusal 9 = .ok (.aload_n 0, 1) := by decide +kernel
theorem dX11_shelfRefusal_10 : decode cX11_shelfRefusal 10 = .ok (.getfield 35, 3) := by decide +kernel
theorem dX11_shelfRefusal_13 : decode cX11_shelfRefusal 13 = .ok (.iload_n 1, 1) := by decide +kernel
theorem dX11_shelfRefusal_14 : decode cX11_shelfRefusal 14 = .ok (.iaload, 1) := by decide +kernel
theorem dX11_shelfRefusal_15 : decode cX11_shelfRefusal 15 = .ok (.ifCond .ne 6, 3) := by decide +kernel
theorem dX11_shelfRefusal_18 : decode cX11_shelfRefusal 18 = .ok (.bipush (-11), 2) := by decide +kernel
theorem dX11_shelfRefusal_20 : decode cX11_shelfRefusal 20 = .ok (.ireturn, 1) := by decide +kernel
theorem dX11_shelfRefusal_21 : decode cX11_shelfRefusal 21 = .ok (.aload_n 0, 1) := by decide +kernel
theorem dX11_shelfRefusal_22 : decode cX11_shelfRefusal 22 = .ok (.getfield 35, 3) := by decide +kernel
theorem dX11_shelfRefusal_25 : decode cX11_shelfRefusal 25 = .ok (.iload_n 1, 1) := by decide +kernel
theorem dX11_shelfRefusal_26 : decode cX11_shelfRefusal 26 = .ok (.iaload, 1) := by decide +kernel
theorem dX11_shelfRefusal_27 : decode cX11_shelfRefusal 27 = .ok (.iload_n 2, 1) := by decide +kernel
theorem dX11_shelfRefusal_28 : decode cX11_shelfRefusal 28 = .ok (.if_icmp .ne 7, 3) := by decide +kernel
theorem dX11_shelfRefusal_31 : decode cX11_shelfRefusal 31 = .ok (.iconst 0, 1) := by decide +kernel
theorem dX11_shelfRefusal_32 : decode cX11_shelfRefusal 32 = .ok (.goto 5, 3) := by decide +kernel
theorem dX11_shelfRefusal_35 : decode cX11_shelfRefusal 35 = .ok (.bipush (-12), 2) := by decide +kernel
theorem dX11_shelfRefusal_37 : decode cX11_shelfRefusal 37 = .ok (.ireturn, 1) := by decide +kernel
def b_X10_addFact_0 (t : Nat) (v1 : Int32) (v2 : Int32) (v3 : Int32) (S : St) : Option (Int32 × St) := (L_X11_isOut v1 0 3 S).bind fun r1 => (if (r1 : Int32) = 0 then (L_X11_isOut v2 ((-9)) 9 S).bind fun r3 => (if (r3 : Int32) = 0 then (L_X11_isOut v3 0 23 S).bind fun r5 => (if (r5 : Int32) = 0 then (if (gi S t 6 : Int32) < 6 then gd (inb (gi S t 6) 6) (nm (si S (t + 7) (gi S t 6).toNatClampNeg v1) fun S9 => gd (inb (gi S9 t 6) 6) (nm (si S9 (t + 8) (gi S9 t 6).toNatClampNeg v2) fun S11 => gd (inb (gi S11 t 6) 6) (nm (si S11 (t + 9) (gi S11 t 6).toNatClampNeg v3) fun S13 => gd (inb (gi S13 t 6) 6) (nm (si S13 (t + 10) (gi S13 t 6).toNatClampNeg 10) fun S15 => nm (si S15 t 6 ((gi S15 t 6) + 1)) fun S16 => some ((gi S16 t 6) - 1, S16))))) else some ((-2), S)) else some ((-1), S)) else some ((-1), S)) else some ((-1), S))
def L_X10_addFact (t : Nat) (a1 : Int32) (a2 : Int32) (a3 : Int32) (S : St) : Option (Int32 × St) := b_X10_addFact_0 t a1 a2 a3 S
def b_X10_addPlant_0 (t : Nat) (v1 : Int32) (v2 : Int32) (v3 : Int32) (v4 : Int32) (v5 : Int32) (S : St) : Option (Int32 × St) := (L_X11_isOut v1 0 3 S).bind fun r1 => (if (r1 : Int32) = 0 then (L_X11_isOut v3 1 60 S).bind fun r3 => (if (r3 : Int32) = 0 then (L_X11_isOut v4 0 99 S).bind fun r5 => (if (r5 : Int32) = 0 then (L_X11_isOut v5 0 23 S).bind fun r7 => (if (r7 : Int32) = 0 then (if (gi S t 11 : Int32) < 3 then gd (inb (gi S t 11) 3) (nm (si S (t + 11) (gi S t 11).toNatClampNeg v1) fun S11 => gd (inb (gi S11 t 11) 3) (nm (si S11 (t + 12) (gi S11 t 11).toNatClampNeg v2) fun S13 => gd (inb (gi S13 t 11) 3) (nm (si S13 (t + 13) (gi S13 t 11).toNatClampNeg v3) fun S15 => gd (inb (gi S15 t 11) 3) (nm (si S15 (t + 14) (gi S15 t 11).toNatClampNeg v4) fun S17 => gd (inb (gi S17 t 11) 3) (nm (si S17 (t + 15) (gi S17 t 11).toNatClampNeg v5) fun S19 => nm (si S19 t 11 ((gi S19 t 11) + 1)) fun S20 => some ((gi S20 t 11) - 1, S20)))))) else some ((-2), S)) else some ((-1), S)) else some ((-1), S)) else some ((-1), S)) else some ((-1), S))
def L_X10_addPlant (t : Nat) (a1 : Int32) (a2 : Int32) (a3 : Int32) (a4 : Int32) (a5 : Int32) (S : St) : Option (Int32 × St) := b_X10_addPlant_0 t a1 a2 a3 a4 a5 S
def b_X10_turnKin_0 (t : Nat) (v1 : Int32) (v2 : Int32) (S : St) : Option (Int32 × St) := (L_X11_isOut v1 0 3 S).bind fun r1 => (if (r1 : Int32) = 0 then (L_X11_isOut v2 0 3 S).bind fun r3 => (if (r3 : Int32) = 0 then (if (v1 : Int32) = v2 then some ((-1), S) else gd (inb v1 4) (gd (inb v1 4) (nm (si S (t + 16) v1.toNatClampNeg ((gi S (t + 16) v1.toNatClampNeg) ^^^ ((1 : Int32) <<< (v2 &&& 31)))) fun S8 => gd (inb v2 4) (gd (inb v2 4) (nm (si S8 (t + 16) v2.toNatClampNeg ((gi S8 (t + 16) v2.toNatClampNeg) ^^^ ((1 : Int32) <<< (v1 &&& 31)))) fun S11 => (L_X10_areKin t v1 v2 S11).bind fun r12 => (if (r12 : Int32) = 0 then some (0, S11) else some (1, S11))))))) else some ((-1), S)) else some ((-1), S))
def L_X10_turnKin (t : Nat) (a1 : Int32) (a2 : Int32) (S : St) : Option (Int32 × St) := b_X10_turnKin_0 t a1 a2 S
def b_X10_pairsOfKin_41 (t : Nat) (v1 : Int32) (v2 : Int32) (S : St) : Option ((Int32 × Int32) ⊕ Int32) := some (.inl (v1, (v2 + 1)))
def b_X10_pairsOfKin_33 (t : Nat) (v2 : Int32) (v3 : Int32) (s0 : Int32) (s1 : Int32) (S : St) : Option ((Int32 × Int32 × Int32) ⊕ ((Int32 × Int32) ⊕ Int32)) := some (.inl ((s1 + s0), v2, (v3 + 1)))
def b_X10_pairsOfKin_13 (t : Nat) (v1 : Int32) (v2 : Int32) (v3 : Int32) (S : St) : Option ((Int32 × Int32 × Int32) ⊕ ((Int32 × Int32) ⊕ Int32)) := (if (4 : Int32) ≤ v3 then ((b_X10_pairsOfKin_41 t v1 v2 S).map Sum.inr) else (L_X10_areKin t v2 v3 S).bind fun r2 => (if (r2 : Int32) = 0 then (b_X10_pairsOfKin_33 t v2 v3 0 v1 S) else (b_X10_pairsOfKin_33 t v2 v3 1 v1 S)))
def l_X10_pairsOfKin_13 (t : Nat) (S : St) (x : (Int32 × Int32 × Int32)) : Option ((Int32 × Int32 × Int32) ⊕ ((Int32 × Int32) ⊕ Int32)) := b_X10_pairsOfKin_13 t x.1 x.2.1 x.2.2 S
def b_X10_pairsOfKin_4 (t : Nat) (v1 : Int32) (v2 : Int32) (S : St) : Option ((Int32 × Int32) ⊕ Int32) := (if (4 : Int32) ≤ v2 then some (.inr v1) else (lp 1000 (l_X10_pairsOfKin_13 t S) (v1, v2, (v2 + 1))))
def l_X10_pairsOfKin_4 (t : Nat) (S : St) (x : (Int32 × Int32)) : Option ((Int32 × Int32) ⊕ Int32) := b_X10_pairsOfKin_4 t x.1 x.2 S
def b_X10_pairsOfKin_0 (t : Nat) (S : St) : Option Int32 := (lp 1000 (l_X10_pairsOfKin_4 t S) (0, 0))
def L_X10_pairsOfKin (t : Nat) (S : St) : Option Int32 := b_X10_pairsOfKin_0 t S
def b_X10_changeRule_42 (t : Nat) (v1 : Int32) (v2 : Int32) (v3 : Int32) (s0 : Int32) (s1 : Int32) (S : St) : Option (Int32 × St) := (L_X11_isOut s1 s0 v3 S).bind fun r1 => (if (r1 : Int32) = 0 then gd (inb v1 3) (gd (inb v1 3) (nm (si S (t + 17) v1.toNatClampNeg v2) fun S5 => some (gi S (t + 17) v1.toNatClampNeg, S5))) else some ((-1), S))
def b_X10_changeRule_21 (t : Nat) (v1 : Int32) (v2 : Int32) (s0 : Int32) (S : St) : Option (Int32 × St) := (L_X11_isOut v1 0 2 S).bind fun r1 => (if (r1 : Int32) = 0 then (if (v1 : Int32) = 2 then (b_X10_changeRule_42 t v1 v2 s0 1 v2 S) else (b_X10_changeRule_42 t v1 v2 s0 0 v2 S)) else some ((-1), S))
def b_X10_changeRule_0 (t : Nat) (v1 : Int32) (v2 : Int32) (S : St) : Option (Int32 × St) := (if (v1 : Int32) = 0 then (b_X10_changeRule_21 t v1 v2 23 S) else (if (v1 : Int32) = 1 then (b_X10_changeRule_21 t v1 v2 9 S) else (b_X10_changeRule_21 t v1 v2 9 S)))
def L_X10_changeRule (t : Nat) (a1 : Int32) (a2 : Int32) (S : St) : Option (Int32 × St) := b_X10_changeRule_0 t a1 a2 S
def b_X10_allCoins_4 (t : Nat) (v1 : Int32) (v2 : Int32) (S : St) : Option ((Int32 × Int32) ⊕ Int32) := (if (gi S t 0 : Int32) ≤ v2 then some (.inr v1) else gd (inb v2 8) (some (.inl ((v1 + (gi S (t + 6) v2.toNatClampNeg)), (v2 + 1)))))
def l_X10_allCoins_4 (t : Nat) (S : St) (x : (Int32 × Int32)) : Option ((Int32 × Int32) ⊕ Int32) := b_X10_allCoins_4 t x.1 x.2 S
def b_X10_allCoins_0 (t : Nat) (S : St) : Option Int32 := (lp 1000 (l_X10_allCoins_4 t S) (0, 0))
def L_X10_allCoins (t : Nat) (S : St) : Option Int32 := b_X10_allCoins_0 t S
def b_X10_fitsShape_58 (S : St) : Option Int32 := some 1
def b_X10_fitsShape_44 (S : St) : Option Int32 := some 0
def b_X10_fitsShape_0 (v0 : Int32) (v1 : Int32) (S : St) : Option Int32 := (if (v0 : Int32) = 43 then (if (v1 : Int32) = 43 then (b_X10_fitsShape_58 S) else (if (v1 : Int32) = 45 then (b_X10_fitsShape_58 S) else some 0)) else if (v0 : Int32) = 48 then (if (v1 : Int32) < 48 then (b_X10_fitsShape_44 S) else (if (57 : Int32) < v1 then (b_X10_fitsShape_44 S) else some 1)) else (if (v1 : Int32) = v0 then some 1 else some 0))
def L_X10_fitsShape (a0 : Int32) (a1 : Int32) (S : St) : Option Int32 := b_X10_fitsShape_0 a0 a1 S
def b_X11_isNobody_15 (S : St) : Option Int32 := some 1
def b_X11_isNobody_0 (v1 : Int32) (S : St) : Option Int32 := (if (v1 : Int32) < 0 then (b_X11_isNobody_15 S) else (if (v1 : Int32) < (gi S 1 0) then some 0 else (b_X11_isNobody_15 S)))
def L_X11_isNobody (a1 : Int32) (S : St) : Option Int32 := b_X11_isNobody_0 a1 S
def b_X11_person_0 (v1 : Int32) (v2 : Int32) (S : St) : Option Int32 := (L_X11_isNobody v1 S).bind fun r1 => (if (r1 : Int32) = 0 then (if (v2 : Int32) = 0 then gd (inb v1 8) ((gr S (1 + 1) v1.toNatClampNeg).bind fun q5 => (gq S q5).bind fun k6 => some (nI k6.1)) else if (v2 : Int32) = 1 then gd (inb v1 8) ((gr S (1 + 1) v1.toNatClampNeg).bind fun q9 => (gq S q9).bind fun k10 => some k10.2) else if (v2 : Int32) = 2 then gd (inb v1 8) (some (gi S (1 + 3) v1.toNatClampNeg)) else if (v2 : Int32) = 3 then gd (inb v1 8) (some (gi S (1 + 4) v1.toNatClampNeg)) else if (v2 : Int32) = 4 then gd (inb v1 8) ((gr S (1 + 1) v1.toNatClampNeg).bind fun q17 => gd (inb v1 8) ((L_v_dueWhenTold q17 (gi S (1 + 4) v1.toNatClampNeg) S).bind fun r19 => some r19)) else if (v2 : Int32) = 5 then gd (inb v1 8) (some (gi S (1 + 6) v1.toNatClampNeg)) else if (v2 : Int32) = 6 then gd (inb v1 8) (some ((gi S (1 + 5) v1.toNatClampNeg) + 9)) else some ((-1))) else some ((-1)))
def L_X11_person (a1 : Int32) (a2 : Int32) (S : St) : Option Int32 := b_X11_person_0 a1 a2 S
def b_X11_strength_0 (v1 : Int32) (v2 : Int32) (S : St) : Option Int32 := (L_X11_isNobody v1 S).bind fun r1 => (if (r1 : Int32) = 0 then (L_X11_isOut v2 ((-999)) 999 S).bind fun r3 => (if (r3 : Int32) = 0 then gd (inb v1 8) ((gr S (1 + 1) v1.toNatClampNeg).bind fun q6 => (L_v_strengthOf q6 v2 S).bind fun r7 => some r7) else some ((-1))) else some ((-1)))
def L_X11_strength (a1 : Int32) (a2 : Int32) (S : St) : Option Int32 := b_X11_strength_0 a1 a2 S
def b_X11_isNoShelf_10 (S : St) : Option Int32 := some 1
def b_X11_isNoShelf_0 (v0 : Int32) (S : St) : Option Int32 := (if (v0 : Int32) < 0 then (b_X11_isNoShelf_10 S) else (if (v0 : Int32) < 8 then some 0 else (b_X11_isNoShelf_10 S)))
def L_X11_isNoShelf (a0 : Int32) (S : St) : Option Int32 := b_X11_isNoShelf_0 a0 S
def b_X11_shelfRefusal_0 (v1 : Int32) (v2 : Int32) (S : St) : Option Int32 := (L_X11_isNoShelf v1 S).bind fun r1 => (if (r1 : Int32) = 0 then gd (inb v1 8) ((if (gi S 66 v1.toNatClampNeg : Int32) = 0 then some ((-11)) else gd (inb v1 8) ((if (gi S 66 v1.toNatClampNeg : Int32) = v2 then some 0 else some ((-12)))))) else some ((-1)))
def L_X11_shelfRefusal (a1 : Int32) (a2 : Int32) (S : St) : Option Int32 := b_X11_shelfRefusal_0 a1 a2 S
section WALKS
variable {p : Program} {e : Env} {s : State} {m : MethodId} {args : Array Value} {below : List Frame} {meth : Method} {c : Code} {D : va_G} {ct : Nat → ClassId} {B : Nat} {Hb : Heap}
set_option maxRecDepth 100000 in
set_option maxHeartbeats 4000000 in
theorem w_X10_addFact_0 (l : Launch) {V : Int32 × St} (C0 : XC D ct p s m args meth c cX10_addFact 4 (some .int) RX10) (t : Nat) (ht : isTown t) (v1 : Int32) (v2 : Int32) (v3 : Int32) (S : St) {H : Heap} {locs : List Loc} {ls : Array Slot} (h : (b_X10_addFact_0 t v1 v2 v3 S).bind some = some V) (hP : MP D ct B Hb S H) (hS : va_S (AB B) s.heap H locs) (hl : lv_has ls 4 [(0, .ref (B + t)), (1, .int v1), (2, .int v2), (3, .int v3)]) : W p l e { frames := 1, cells := 0, slots := 0, locals := 22 } s m args below meth c H locs 0 0 (MQ below (qIw D ct B Hb V) args s 0 0 (AB B)) (F0 m 0 ls []) := by
  obtain ⟨hx, hb, hr, hml, hown, hts, hK, hlocks, hN⟩ := id C0
  unfold b_X10_addFact_0 at h
  refine lv_iload_n hx hb dX10_addFact_0 rfl (lv_at hl 1 rfl) ?_
  refine lv_iconst (v := 0) hx hb dX10_addFact_1 (by decide) ?_
  refine lv_iconst (v := 3) hx hb dX10_addFact_2 (by decide) ?_
  obtain ⟨r1, hr1, h⟩ := ob_bd h
  refine n_I (kN (host := "ThoughtBetterOf") (As := [.int v1, .int 0, .int 3]) C0 (c_X11_isOut l v1 0 3 hr1) ⟨wd_338, nw_isOut, wd_337, wd_1⟩ kd_X11_isOut ⟨Nat.le_of_ble_eq_true rfl, Nat.le_of_ble_eq_true rfl⟩ hP rfl hl.1 rfl (Nat.le_of_ble_eq_true rfl) dX10_addFact_3 ⟨Nat.le_of_ble_eq_true rfl, Nat.le_of_ble_eq_true rfl⟩) hS (fun H locs hP hS => ?_)
  refine lv_if_ne (tgt := 30) hx hb dX10_addFact_6 (by decide) (fun z2 => ?_) (fun z2 => ?_)
  · have h := ob_f h z2
    refine lv_iconst (v := (-1)) hx hb dX10_addFact_30 (by decide) ?_
    exact r_Iw C0 hP hS h dX10_addFact_31
  · have h := ob_t h z2
    refine lv_iload_n hx hb dX10_addFact_9 rfl (lv_at hl 2 rfl) ?_
    refine lv_bipush (v := (-9)) hx hb dX10_addFact_10 (by decide) ?_
    refine lv_bipush (v := 9) hx hb dX10_addFact_12 (by decide) ?_
    obtain ⟨r3, hr3, h⟩ := ob_bd h
    refine n_I (kN (host := "ThoughtBetterOf") (As := [.int v2, .int ((-9)), .int 9]) C0 (c_X11_isOut l v2 ((-9)) 9 hr3) ⟨wd_338, nw_isOut, wd_337, wd_1⟩ kd_X11_isOut ⟨Nat.le_of_ble_eq_true rfl, Nat.le_of_ble_eq_true rfl⟩ hP rfl hl.1 rfl (Nat.le_of_ble_eq_true rfl) dX10_addFact_14 ⟨Nat.le_of_ble_eq_true rfl, Nat.le_of_ble_eq_true rfl⟩) hS (fun H locs hP hS => ?_)
    refine lv_if_ne (tgt := 30) hx hb dX10_addFact_17 (by decide) (fun z4 => ?_) (fun z4 => ?_)
    · have h := ob_f h z4
      refine lv_iconst (v := (-1)) hx hb dX10_addFact_30 (by decide) ?_
      exact r_Iw C0 hP hS h dX10_addFact_31
    · have h := ob_t h z4
      refine lv_iload_n hx hb dX10_addFact_20 rfl (lv_at hl 3 rfl) ?_
      refine lv_iconst (v := 0) hx hb dX10_addFact_21 (by decide) ?_
      refine lv_bipush (v := 23) hx hb dX10_addFact_22 (by decide) ?_
      obtain ⟨r5, hr5, h⟩ := ob_bd h
      refine n_I (kN (host := "ThoughtBetterOf") (As := [.int v3, .int 0, .int 23]) C0 (c_X11_isOut l v3 0 23 hr5) ⟨wd_338, nw_isOut, wd_337, wd_1⟩ kd_X11_isOut ⟨Nat.le_of_ble_eq_true rfl, Nat.le_of_ble_eq_true rfl⟩ hP rfl hl.1 rfl (Nat.le_of_ble_eq_true rfl) dX10_addFact_24 ⟨Nat.le_of_ble_eq_true rfl, Nat.le_of_ble_eq_true rfl⟩) hS (fun H locs hP hS => ?_)
      refine lv_if_eq (tgt := 32) hx hb dX10_addFact_27 (by decide) (fun z6 => ?_) (fun z6 => ?_)
      · have h := ob_t h z6
        refine lv_aload_n hx hb dX10_addFact_32 rfl (lv_at hl 0 rfl) ?_
        refine x_get C0 hP (lay_X10 B ct S ht) rfl inG10 6 (by decide) wd_77 (fun _ h => h) rfl dX10_addFact_33 ?_
        refine lv_bipush (v := 6) hx hb dX10_addFact_36 (by decide) ?_
        refine lv_icmp_lt (tgt := 44) hx hb dX10_addFact_38 (by decide) (fun z7 => ?_) (fun z7 => ?_)
        · have h := ob_t h z7
          refine lv_aload_n hx hb dX10_addFact_44 rfl (lv_at hl 0 rfl) ?_
          refine x_get C0 hP (lay_X10 B ct S ht) rfl inG10 7 (by decide) wd_79 (fun _ h => h) rfl dX10_addFact_45 ?_
          refine lv_aload_n hx hb dX10_addFact_48 rfl (lv_at hl 0 rfl) ?_
          refine x_get C0 hP (lay_X10 B ct S ht) rfl inG10 6 (by decide) wd_77 (fun _ h => h) rfl dX10_addFact_49 ?_
          refine lv_iload_n hx hb dX10_addFact_52 rfl (lv_at hl 1 rfl) ?_
          obtain ⟨g8, h⟩ := ob_gd h
          obtain ⟨S9, eS9, h⟩ := ob_nm h
          refine x_iast C0 hP hS (fun S => lay_t7 B ct S ht) g8 dX10_addFact_53 (fun H locs hP hS => ?_)
          rw [← eS9] at hP
          refine lv_aload_n hx hb dX10_addFact_54 rfl (lv_at hl 0 rfl) ?_
          refine x_get C0 hP (lay_X10 B ct S9 ht) rfl inG10 8 (by decide) wd_80 (fun _ h => h) rfl dX10_addFact_55 ?_
          refine lv_aload_n hx hb dX10_addFact_58 rfl (lv_at hl 0 rfl) ?_
          refine x_get C0 hP (lay_X10 B ct S9 ht) rfl inG10 6 (by decide) wd_77 (fun _ h => h) rfl dX10_addFact_59 ?_
          refine lv_iload_n hx hb dX10_addFact_62 rfl (lv_at hl 2 rfl) ?_
          obtain ⟨g10, h⟩ := ob_gd h
          obtain ⟨S11, eS11, h⟩ := ob_nm h
          refine x_iast C0 hP hS (fun S => lay_t8 B ct S ht) g10 dX10_addFact_63 (fun H locs hP hS => ?_)
          rw [← eS11] at hP
          refine lv_aload_n hx hb dX10_addFact_64 rfl (lv_at hl 0 rfl) ?_
          refine x_get C0 hP (lay_X10 B ct S11 ht) rfl inG10 9 (by decide) wd_81 (fun _ h => h) rfl dX10_addFact_65 ?_
          refine lv_aload_n hx hb dX10_addFact_68 rfl (lv_at hl 0 rfl) ?_
          refine x_get C0 hP (lay_X10 B ct S11 ht) rfl inG10 6 (by decide) wd_77 (fun _ h => h) rfl dX10_addFact_69 ?_
          refine lv_iload_n hx hb dX10_addFact_72 rfl (lv_at hl 3 rfl) ?_
          obtain ⟨g12, h⟩ := ob_gd h
          obtain ⟨S13, eS13, h⟩ := ob_nm h
          refine x_iast C0 hP hS (fun S => lay_t9 B ct S ht) g12 dX10_addFact_73 (fun H locs hP hS => ?_)
          rw [← eS13] at hP
          refine lv_aload_n hx hb dX10_addFact_74 rfl (lv_at hl 0 rfl) ?_
          refine x_get C0 hP (lay_X10 B ct S13 ht) rfl inG10 10 (by decide) wd_82 (fun _ h => h) rfl dX10_addFact_75 ?_
          refine lv_aload_n hx hb dX10_addFact_78 rfl (lv_at hl 0 rfl) ?_
          refine x_get C0 hP (lay_X10 B ct S13 ht) rfl inG10 6 (by decide) wd_77 (fun _ h => h) rfl dX10_addFact_79 ?_
          refine lv_bipush (v := 10) hx hb dX10_addFact_82 (by decide) ?_
          obtain ⟨g14, h⟩ := ob_gd h
          obtain ⟨S15, eS15, h⟩ := ob_nm h
          refine x_iast C0 hP hS (fun S => lay_t10 B ct S ht) g14 dX10_addFact_84 (fun H locs hP hS => ?_)
          rw [← eS15] at hP
          refine lv_aload_n hx hb dX10_addFact_85 rfl (lv_at hl 0 rfl) ?_
          refine lv_dup hx hb dX10_addFact_86 rfl ?_
          refine x_get C0 hP (lay_X10 B ct S15 ht) rfl inG10 6 (by decide) wd_77 (fun _ h => h) rfl dX10_addFact_87 ?_
          refine lv_iconst (v := 1) hx hb dX10_addFact_90 (by decide) ?_
          refine lv_iadd hx hb dX10_addFact_91 ?_
          obtain ⟨S16, eS16, h⟩ := ob_nm h
          refine x_put (S' := si S15 t 6 ((gi S15 t 6) + 1)) (FS := (fs10 B t)) C0 hP hS (fun S => lay_X10 B ct S ht) rfl inG10 tyX10 tyX10_ok nmX10 6 (by decide) wd_77 rfl rfl (fun a ha => lay_local (gi_si_n _ _ _ ha) rfl rfl rfl) (put_10_6 B t _ _) rfl rfl (Nat.le_of_ble_eq_true rfl) dX10_addFact_92 (fun H locs hP hS => ?_)
          rw [← eS16] at hP
          refine lv_aload_n hx hb dX10_addFact_95 rfl (lv_at hl 0 rfl) ?_
          refine x_get C0 hP (lay_X10 B ct S16 ht) rfl inG10 6 (by decide) wd_77 (fun _ h => h) rfl dX10_addFact_96 ?_
          refine lv_iconst (v := 1) hx hb dX10_addFact_99 (by decide) ?_
          refine lv_isub hx hb dX10_addFact_100 ?_
          exact r_Iw C0 hP hS h dX10_addFact_101
        · have h := ob_f h z7
          refine lv_bipush (v := (-2)) hx hb dX10_addFact_41 (by decide) ?_
          exact r_Iw C0 hP hS h dX10_addFact_43
      · have h := ob_f h z6
        refine lv_iconst (v := (-1)) hx hb dX10_addFact_30 (by decide) ?_
        exact r_Iw C0 hP hS h dX10_addFact_31
set_option maxRecDepth 100000 in
set_option maxHeartbeats 4000000 in
theorem c_X10_addFact (l : Launch) (t : Nat) (ht : isTown t) (a1 : Int32) (a2 : Int32) (a3 : Int32) {D : va_G} {ct : Nat → ClassId} {B : Nat} {Hb : Heap} {S : St} {V : Int32 × St} (h : L_X10_addFact t a1 a2 a3 S = some V) : Met l yX10_addFact (Cond.code yX10_addFact cX10_addFact 4 (some .int) :: tG) { frames := 1, cells := 0, slots := 0, locals := 22 } (va_Pc [.ref (B + t), .int a1, .int a2, .int a3] (MPK D ct B Hb S)) (qIw D ct B Hb V) 0 0 (AB B) := by
  refine mk_met (by decide +kernel) (Nat.le_of_ble_eq_true rfl) (fun p e s m args below meth c ls C0 hP hl _ => ?_)
  have h := ob_of h
  exact w_X10_addFact_0 l C0 t ht a1 a2 a3 S h hP va_S.rf (lv_sub hl [0, 1, 2, 3] rfl)
set_option maxRecDepth 100000 in
set_option maxHeartbeats 4000000 in
theorem w_X10_addPlant_0 (l : Launch) {V : Int32 × St} (C0 : XC D ct p s m args meth c cX10_addPlant 6 (some .int) RX10) (t : Nat) (ht : isTown t) (v1 : Int32) (v2 : Int32) (v3 : Int32) (v4 : Int32) (v5 : Int32) (S : St) {H : Heap} {locs : List Loc} {ls : Array Slot} (h : (b_X10_addPlant_0 t v1 v2 v3 v4 v5 S).bind some = some V) (hP : MP D ct B Hb S H) (hS : va_S (AB B) s.heap H locs) (hl : lv_has ls 6 [(0, .ref (B + t)), (1, .int v1), (2, .int v2), (3, .int v3), (4, .int v4), (5, .int v5)]) : W p l e { frames := 1, cells := 0, slots := 0, locals := 22 } s m args below meth c H locs 0 0 (MQ below (qIw D ct B Hb V) args s 0 0 (AB B)) (F0 m 0 ls []) := by
  obtain ⟨hx, hb, hr, hml, hown, hts, hK, hlocks, hN⟩ := id C0
  unfold b_X10_addPlant_0 at h
  refine lv_iload_n hx hb dX10_addPlant_0 rfl (lv_at hl 1 rfl) ?_
  refine lv_iconst (v := 0) hx hb dX10_addPlant_1 (by decide) ?_
  refine lv_iconst (v := 3) hx hb dX10_addPlant_2 (by decide) ?_
  obtain ⟨r1, hr1, h⟩ := ob_bd h
  refine n_I (kN (host := "ThoughtBetterOf") (As := [.int v1, .int 0, .int 3]) C0 (c_X11_isOut l v1 0 3 hr1) ⟨wd_338, nw_isOut, wd_337, wd_1⟩ kd_X11_isOut ⟨Nat.le_of_ble_eq_true rfl, Nat.le_of_ble_eq_true rfl⟩ hP rfl hl.1 rfl (Nat.le_of_ble_eq_true rfl) dX10_addPlant_3 ⟨Nat.le_of_ble_eq_true rfl, Nat.le_of_ble_eq_true rfl⟩) hS (fun H locs hP hS => ?_)
  refine lv_if_ne (tgt := 41) hx hb dX10_addPlant_6 (by decide) (fun z2 => ?_) (fun z2 => ?_)
  · have h := ob_f h z2
    refine lv_iconst (v := (-1)) hx hb dX10_addPlant_41 (by decide) ?_
    exact r_Iw C0 hP hS h dX10_addPlant_42
  · have h := ob_t h z2
    refine lv_iload_n hx hb dX10_addPlant_9 rfl (lv_at hl 3 rfl) ?_
    refine lv_iconst (v := 1) hx hb dX10_addPlant_10 (by decide) ?_
    refine lv_bipush (v := 60) hx hb dX10_addPlant_11 (by decide) ?_
    obtain ⟨r3, hr3, h⟩ := ob_bd h
    refine n_I (kN (host := "ThoughtBetterOf") (As := [.int v3, .int 1, .int 60]) C0 (c_X11_isOut l v3 1 60 hr3) ⟨wd_338, nw_isOut, wd_337, wd_1⟩ kd_X11_isOut ⟨Nat.le_of_ble_eq_true rfl, Nat.le_of_ble_eq_true rfl⟩ hP rfl hl.1 rfl (Nat.le_of_ble_eq_true rfl) dX10_addPlant_13 ⟨Nat.le_of_ble_eq_true rfl, Nat.le_of_ble_eq_true rfl⟩) hS (fun H locs hP hS => ?_)
    refine lv_if_ne (tgt := 41) hx hb dX10_addPlant_16 (by decide) (fun z4 => ?_) (fun z4 => ?_)
    · have h := ob_f h z4
      refine lv_iconst (v := (-1)) hx hb dX10_addPlant_41 (by decide) ?_
      exact r_Iw C0 hP hS h dX10_addPlant_42
    · have h := ob_t h z4
      refine lv_iload hx hb dX10_addPlant_19 (lv_at hl 4 rfl) ?_
      refine lv_iconst (v := 0) hx hb dX10_addPlant_21 (by decide) ?_
      refine lv_bipush (v := 99) hx hb dX10_addPlant_22 (by decide) ?_
      obtain ⟨r5, hr5, h⟩ := ob_bd h
      refine n_I (kN (host := "ThoughtBetterOf") (As := [.int v4, .int 0, .int 99]) C0 (c_X11_isOut l v4 0 99 hr5) ⟨wd_338, nw_isOut, wd_337, wd_1⟩ kd_X11_isOut ⟨Nat.le_of_ble_eq_true rfl, Nat.le_of_ble_eq_true rfl⟩ hP rfl hl.1 rfl (Nat.le_of_ble_eq_true rfl) dX10_addPlant_24 ⟨Nat.le_of_ble_eq_true rfl, Nat.le_of_ble_eq_true rfl⟩) hS (fun H locs hP hS => ?_)
      refine lv_if_ne (tgt := 41) hx hb dX10_addPlant_27 (by decide) (fun z6 => ?_) (fun z6 => ?_)
      · have h := ob_f h z6
        refine lv_iconst (v := (-1)) hx hb dX10_addPlant_41 (by decide) ?_
        exact r_Iw C0 hP hS h dX10_addPlant_42
      · have h := ob_t h z6
        refine lv_iload hx hb dX10_addPlant_30 (lv_at hl 5 rfl) ?_
        refine lv_iconst (v := 0) hx hb dX10_addPlant_32 (by decide) ?_
        refine lv_bipush (v := 23) hx hb dX10_addPlant_33 (by decide) ?_
        obtain ⟨r7, hr7, h⟩ := ob_bd h
        refine n_I (kN (host := "ThoughtBetterOf") (As := [.int v5, .int 0, .int 23]) C0 (c_X11_isOut l v5 0 23 hr7) ⟨wd_338, nw_isOut, wd_337, wd_1⟩ kd_X11_isOut ⟨Nat.le_of_ble_eq_true rfl, Nat.le_of_ble_eq_true rfl⟩ hP rfl hl.1 rfl (Nat.le_of_ble_eq_true rfl) dX10_addPlant_35 ⟨Nat.le_of_ble_eq_true rfl, Nat.le_of_ble_eq_true rfl⟩) hS (fun H locs hP hS => ?_)
        refine lv_if_eq (tgt := 43) hx hb dX10_addPlant_38 (by decide) (fun z8 => ?_) (fun z8 => ?_)
        · have h := ob_t h z8
          refine lv_aload_n hx hb dX10_addPlant_43 rfl (lv_at hl 0 rfl) ?_
          refine x_get C0 hP (lay_X10 B ct S ht) rfl inG10 11 (by decide) wd_84 (fun _ h => h) rfl dX10_addPlant_44 ?_
          refine lv_iconst (v := 3) hx hb dX10_addPlant_47 (by decide) ?_
          refine lv_icmp_lt (tgt := 54) hx hb dX10_addPlant_48 (by decide) (fun z9 => ?_) (fun z9 => ?_)
          · have h := ob_t h z9
            refine lv_aload_n hx hb dX10_addPlant_54 rfl (lv_at hl 0 rfl) ?_
            refine x_get C0 hP (lay_X10 B ct S ht) rfl inG10 12 (by decide) wd_87 (fun _ h => h) rfl dX10_addPlant_55 ?_
            refine lv_aload_n hx hb dX10_addPlant_58 rfl (lv_at hl 0 rfl) ?_
            refine x_get C0 hP (lay_X10 B ct S ht) rfl inG10 11 (by decide) wd_84 (fun _ h => h) rfl dX10_addPlant_59 ?_
            refine lv_iload_n hx hb dX10_addPlant_62 rfl (lv_at hl 1 rfl) ?_
            obtain ⟨g10, h⟩ := ob_gd h
            obtain ⟨S11, eS11, h⟩ := ob_nm h
            refine x_iast C0 hP hS (fun S => lay_t11 B ct S ht) g10 dX10_addPlant_63 (fun H locs hP hS => ?_)
            rw [← eS11] at hP
            refine lv_aload_n hx hb dX10_addPlant_64 rfl (lv_at hl 0 rfl) ?_
            refine x_get C0 hP (lay_X10 B ct S11 ht) rfl inG10 13 (by decide) wd_90 (fun _ h => h) rfl dX10_addPlant_65 ?_
            refine lv_aload_n hx hb dX10_addPlant_68 rfl (lv_at hl 0 rfl) ?_
            refine x_get C0 hP (lay_X10 B ct S11 ht) rfl inG10 11 (by decide) wd_84 (fun _ h => h) rfl dX10_addPlant_69 ?_
            refine lv_iload_n hx hb dX10_addPlant_72 rfl (lv_at hl 2 rfl) ?_
            obtain ⟨g12, h⟩ := ob_gd h
            obtain ⟨S13, eS13, h⟩ := ob_nm h
            refine x_iast C0 hP hS (fun S => lay_t12 B ct S ht) g12 dX10_addPlant_73 (fun H locs hP hS => ?_)
            rw [← eS13] at hP
            refine lv_aload_n hx hb dX10_addPlant_74 rfl (lv_at hl 0 rfl) ?_
            refine x_get C0 hP (lay_X10 B ct S13 ht) rfl inG10 14 (by decide) wd_92 (fun _ h => h) rfl dX10_addPlant_75 ?_
            refine lv_aload_n hx hb dX10_addPlant_78 rfl (lv_at hl 0 rfl) ?_
            refine x_get C0 hP (lay_X10 B ct S13 ht) rfl inG10 11 (by decide) wd_84 (fun _ h => h) rfl dX10_addPlant_79 ?_
            refine lv_iload_n hx hb dX10_addPlant_82 rfl (lv_at hl 3 rfl) ?_
            obtain ⟨g14, h⟩ := ob_gd h
            obtain ⟨S15, eS15, h⟩ := ob_nm h
            refine x_iast C0 hP hS (fun S => lay_t13 B ct S ht) g14 dX10_addPlant_83 (fun H locs hP hS => ?_)
            rw [← eS15] at hP
            refine lv_aload_n hx hb dX10_addPlant_84 rfl (lv_at hl 0 rfl) ?_
            refine x_get C0 hP (lay_X10 B ct S15 ht) rfl inG10 15 (by decide) wd_95 (fun _ h => h) rfl dX10_addPlant_85 ?_
            refine lv_aload_n hx hb dX10_addPlant_88 rfl (lv_at hl 0 rfl) ?_
            refine x_get C0 hP (lay_X10 B ct S15 ht) rfl inG10 11 (by decide) wd_84 (fun _ h => h) rfl dX10_addPlant_89 ?_
            refine lv_iload hx hb dX10_addPlant_92 (lv_at hl 4 rfl) ?_
            obtain ⟨g16, h⟩ := ob_gd h
            obtain ⟨S17, eS17, h⟩ := ob_nm h
            refine x_iast C0 hP hS (fun S => lay_t14 B ct S ht) g16 dX10_addPlant_94 (fun H locs hP hS => ?_)
            rw [← eS17] at hP
            refine lv_aload_n hx hb dX10_addPlant_95 rfl (lv_at hl 0 rfl) ?_
            refine x_get C0 hP (lay_X10 B ct S17 ht) rfl inG10 16 (by decide) wd_97 (fun _ h => h) rfl dX10_addPlant_96 ?_
            refine lv_aload_n hx hb dX10_addPlant_99 rfl (lv_at hl 0 rfl) ?_
            refine x_get C0 hP (lay_X10 B ct S17 ht) rfl inG10 11 (by decide) wd_84 (fun _ h => h) rfl dX10_addPlant_100 ?_
            refine lv_iload hx hb dX10_addPlant_103 (lv_at hl 5 rfl) ?_
            obtain ⟨g18, h⟩ := ob_gd h
            obtain ⟨S19, eS19, h⟩ := ob_nm h
            refine x_iast C0 hP hS (fun S => lay_t15 B ct S ht) g18 dX10_addPlant_105 (fun H locs hP hS => ?_)
            rw [← eS19] at hP
            refine lv_aload_n hx hb dX10_addPlant_106 rfl (lv_at hl 0 rfl) ?_
            refine lv_dup hx hb dX10_addPlant_107 rfl ?_
            refine x_get C0 hP (lay_X10 B ct S19 ht) rfl inG10 11 (by decide) wd_84 (fun _ h => h) rfl dX10_addPlant_108 ?_
            refine lv_iconst (v := 1) hx hb dX10_addPlant_111 (by decide) ?_
            refine lv_iadd hx hb dX10_addPlant_112 ?_
            obtain ⟨S20, eS20, h⟩ := ob_nm h
            refine x_put (S' := si S19 t 11 ((gi S19 t 11) + 1)) (FS := (fs10 B t)) C0 hP hS (fun S => lay_X10 B ct S ht) rfl inG10 tyX10 tyX10_ok nmX10 11 (by decide) wd_84 rfl rfl (fun a ha => lay_local (gi_si_n _ _ _ ha) rfl rfl rfl) (put_10_11 B t _ _) rfl rfl (Nat.le_of_ble_eq_true rfl) dX10_addPlant_113 (fun H locs hP hS => ?_)
            rw [← eS20] at hP
            refine lv_aload_n hx hb dX10_addPlant_116 rfl (lv_at hl 0 rfl) ?_
            refine x_get C0 hP (lay_X10 B ct S20 ht) rfl inG10 11 (by decide) wd_84 (fun _ h => h) rfl dX10_addPlant_117 ?_
            refine lv_iconst (v := 1) hx hb dX10_addPlant_120 (by decide) ?_
            refine lv_isub hx hb dX10_addPlant_121 ?_
            exact r_Iw C0 hP hS h dX10_addPlant_122
          · have h := ob_f h z9
            refine lv_bipush (v := (-2)) hx hb dX10_addPlant_51 (by decide) ?_
            exact r_Iw C0 hP hS h dX10_addPlant_53
        · have h := ob_f h z8
          refine lv_iconst (v := (-1)) hx hb dX10_addPlant_41 (by decide) ?_
          exact r_Iw C0 hP hS h dX10_addPlant_42
set_option maxRecDepth 100000 in
set_option maxHeartbeats 4000000 in
theorem c_X10_addPlant (l : Launch) (t : Nat) (ht : isTown t) (a1 : Int32) (a2 : Int32) (a3 : Int32) (a4 : Int32) (a5 : Int32) {D : va_G} {ct : Nat → ClassId} {B : Nat} {Hb : Heap} {S : St} {V : Int32 × St} (h : L_X10_addPlant t a1 a2 a3 a4 a5 S = some V) : Met l yX10_addPlant (Cond.code yX10_addPlant cX10_addPlant 6 (some .int) :: tG) { frames := 1, cells := 0, slots := 0, locals := 22 } (va_Pc [.ref (B + t), .int a1, .int a2, .int a3, .int a4, .int a5] (MPK D ct B Hb S)) (qIw D ct B Hb V) 0 0 (AB B) := by
  refine mk_met (by decide +kernel) (Nat.le_of_ble_eq_true rfl) (fun p e s m args below meth c ls C0 hP hl _ => ?_)
  have h := ob_of h
  exact w_X10_addPlant_0 l C0 t ht a1 a2 a3 a4 a5 S h hP va_S.rf (lv_sub hl [0, 1, 2, 3, 4, 5] rfl)
set_option maxRecDepth 100000 in
set_option maxHeartbeats 4000000 in
theorem w_X10_turnKin_0 (l : Launch) {V : Int32 × St} (C0 : XC D ct p s m args meth c cX10_turnKin 3 (some .int) RX10) (t : Nat) (ht : isTown t) (v1 : Int32) (v2 : Int32) (S : St) {H : Heap} {locs : List Loc} {ls : Array Slot} (h : (b_X10_turnKin_0 t v1 v2 S).bind some = some V) (hP : MP D ct B Hb S H) (hS : va_S (AB B) s.heap H locs) (hl : lv_has ls 3 [(0, .ref (B + t)), (1, .int v1), (2, .int v2)]) : W p l e { frames := 1, cells := 0, slots := 0, locals := 22 } s m args below meth c H locs 0 0 (MQ below (qIw D ct B Hb V) args s 0 0 (AB B)) (F0 m 0 ls []) := by
  obtain ⟨hx, hb, hr, hml, hown, hts, hK, hlocks, hN⟩ := id C0
  unfold b_X10_turnKin_0 at h
  refine lv_iload_n hx hb dX10_turnKin_0 rfl (lv_at hl 1 rfl) ?_
  refine lv_iconst (v := 0) hx hb dX10_turnKin_1 (by decide) ?_
  refine lv_iconst (v := 3) hx hb dX10_turnKin_2 (by decide) ?_
  obtain ⟨r1, hr1, h⟩ := ob_bd h
  refine n_I (kN (host := "ThoughtBetterOf") (As := [.int v1, .int 0, .int 3]) C0 (c_X11_isOut l v1 0 3 hr1) ⟨wd_338, nw_isOut, wd_337, wd_1⟩ kd_X11_isOut ⟨Nat.le_of_ble_eq_true rfl, Nat.le_of_ble_eq_true rfl⟩ hP rfl hl.1 rfl (Nat.le_of_ble_eq_true rfl) dX10_turnKin_3 ⟨Nat.le_of_ble_eq_true rfl, Nat.le_of_ble_eq_true rfl⟩) hS (fun H locs hP hS => ?_)
  refine lv_if_ne (tgt := 23) hx hb dX10_turnKin_6 (by decide) (fun z2 => ?_) (fun z2 => ?_)
  · have h := ob_f h z2
    refine lv_iconst (v := (-1)) hx hb dX10_turnKin_23 (by decide) ?_
    exact r_Iw C0 hP hS h dX10_turnKin_24
  · have h := ob_t h z2
    refine lv_iload_n hx hb dX10_turnKin_9 rfl (lv_at hl 2 rfl) ?_
    refine lv_iconst (v := 0) hx hb dX10_turnKin_10 (by decide) ?_
    refine lv_iconst (v := 3) hx hb dX10_turnKin_11 (by decide) ?_
    obtain ⟨r3, hr3, h⟩ := ob_bd h
    refine n_I (kN (host := "ThoughtBetterOf") (As := [.int v2, .int 0, .int 3]) C0 (c_X11_isOut l v2 0 3 hr3) ⟨wd_338, nw_isOut, wd_337, wd_1⟩ kd_X11_isOut ⟨Nat.le_of_ble_eq_true rfl, Nat.le_of_ble_eq_true rfl⟩ hP rfl hl.1 rfl (Nat.le_of_ble_eq_true rfl) dX10_turnKin_12 ⟨Nat.le_of_ble_eq_true rfl, Nat.le_of_ble_eq_true rfl⟩) hS (fun H locs hP hS => ?_)
    refine lv_if_ne (tgt := 23) hx hb dX10_turnKin_15 (by decide) (fun z4 => ?_) (fun z4 => ?_)
    · have h := ob_f h z4
      refine lv_iconst (v := (-1)) hx hb dX10_turnKin_23 (by decide) ?_
      exact r_Iw C0 hP hS h dX10_turnKin_24
    · have h := ob_t h z4
      refine lv_iload_n hx hb dX10_turnKin_18 rfl (lv_at hl 1 rfl) ?_
      refine lv_iload_n hx hb dX10_turnKin_19 rfl (lv_at hl 2 rfl) ?_
      refine lv_icmp_ne (tgt := 25) hx hb dX10_turnKin_20 (by decide) (fun z5 => ?_) (fun z5 => ?_)
      · have h := ob_f h z5
        refine lv_aload_n hx hb dX10_turnKin_25 rfl (lv_at hl 0 rfl) ?_
        refine x_get C0 hP (lay_X10 B ct S ht) rfl inG10 17 (by decide) wd_99 (fun _ h => h) rfl dX10_turnKin_26 ?_
        refine lv_iload_n hx hb dX10_turnKin_29 rfl (lv_at hl 1 rfl) ?_
        refine lv_dup2_11 hx hb dX10_turnKin_30 rfl rfl ?_
        obtain ⟨g6, h⟩ := ob_gd h
        refine x_iald C0 hP ((fun S => lay_t16 B ct S ht) S) g6 dX10_turnKin_31 ?_
        refine lv_iconst (v := 1) hx hb dX10_turnKin_32 (by decide) ?_
        refine lv_iload_n hx hb dX10_turnKin_33 rfl (lv_at hl 2 rfl) ?_
        refine lv_ishl hx hb dX10_turnKin_34 ?_
        refine lv_ixor hx hb dX10_turnKin_35 ?_
        obtain ⟨g7, h⟩ := ob_gd h
        obtain ⟨S8, eS8, h⟩ := ob_nm h
        refine x_iast C0 hP hS (fun S => lay_t16 B ct S ht) g7 dX10_turnKin_36 (fun H locs hP hS => ?_)
        rw [← eS8] at hP
        refine lv_aload_n hx hb dX10_turnKin_37 rfl (lv_at hl 0 rfl) ?_
        refine x_get C0 hP (lay_X10 B ct S8 ht) rfl inG10 17 (by decide) wd_99 (fun _ h => h) rfl dX10_turnKin_38 ?_
        refine lv_iload_n hx hb dX10_turnKin_41 rfl (lv_at hl 2 rfl) ?_
        refine lv_dup2_11 hx hb dX10_turnKin_42 rfl rfl ?_
        obtain ⟨g9, h⟩ := ob_gd h
        refine x_iald C0 hP ((fun S => lay_t16 B ct S ht) S8) g9 dX10_turnKin_43 ?_
        refine lv_iconst (v := 1) hx hb dX10_turnKin_44 (by decide) ?_
        refine lv_iload_n hx hb dX10_turnKin_45 rfl (lv_at hl 1 rfl) ?_
        refine lv_ishl hx hb dX10_turnKin_46 ?_
        refine lv_ixor hx hb dX10_turnKin_47 ?_
        obtain ⟨g10, h⟩ := ob_gd h
        obtain ⟨S11, eS11, h⟩ := ob_nm h
        refine x_iast C0 hP hS (fun S => lay_t16 B ct S ht) g10 dX10_turnKin_48 (fun H locs hP hS => ?_)
        rw [← eS11] at hP
        refine lv_aload_n hx hb dX10_turnKin_49 rfl (lv_at hl 0 rfl) ?_
        refine lv_iload_n hx hb dX10_turnKin_50 rfl (lv_at hl 1 rfl) ?_
        refine lv_iload_n hx hb dX10_turnKin_51 rfl (lv_at hl 2 rfl) ?_
        obtain ⟨r12, hr12, h⟩ := ob_bd h
        refine n_I (kV (As := [.int v1, .int v2]) C0 (c_X10_areKin l t ht v1 v2 hr12) ⟨wd_448, wd_445, wd_446, wd_447, wd_2⟩ kd_X10_areKin ⟨Nat.le_of_ble_eq_true rfl, Nat.le_of_ble_eq_true rfl⟩ hP (lay_X10 B ct S11 ht) rfl rfl hl.1 rfl (Nat.le_of_ble_eq_true rfl) dX10_turnKin_52 ⟨Nat.le_of_ble_eq_true rfl, Nat.le_of_ble_eq_true rfl⟩) hS (fun H locs hP hS => ?_)
        refine lv_if_eq (tgt := 62) hx hb dX10_turnKin_55 (by decide) (fun z13 => ?_) (fun z13 => ?_)
        · have h := ob_t h z13
          refine lv_iconst (v := 0) hx hb dX10_turnKin_62 (by decide) ?_
          exact r_Iw C0 hP hS h dX10_turnKin_63
        · have h := ob_f h z13
          refine lv_iconst (v := 1) hx hb dX10_turnKin_58 (by decide) ?_
          refine lv_goto (tgt := 63) hx hb dX10_turnKin_59 (by decide) ?_
          exact r_Iw C0 hP hS h dX10_turnKin_63
      · have h := ob_t h z5
        refine lv_iconst (v := (-1)) hx hb dX10_turnKin_23 (by decide) ?_
        exact r_Iw C0 hP hS h dX10_turnKin_24
set_option maxRecDepth 100000 in
set_option maxHeartbeats 4000000 in
theorem c_X10_turnKin (l : Launch) (t : Nat) (ht : isTown t) (a1 : Int32) (a2 : Int32) {D : va_G} {ct : Nat → ClassId} {B : Nat} {Hb : Heap} {S : St} {V : Int32 × St} (h : L_X10_turnKin t a1 a2 S = some V) : Met l yX10_turnKin (Cond.code yX10_turnKin cX10_turnKin 3 (some .int) :: tG) { frames := 1, cells := 0, slots := 0, locals := 22 } (va_Pc [.ref (B + t), .int a1, .int a2] (MPK D ct B Hb S)) (qIw D ct B Hb V) 0 0 (AB B) := by
  refine mk_met (by decide +kernel) (Nat.le_of_ble_eq_true rfl) (fun p e s m args below meth c ls C0 hP hl _ => ?_)
  have h := ob_of h
  exact w_X10_turnKin_0 l C0 t ht a1 a2 S h hP va_S.rf (lv_sub hl [0, 1, 2] rfl)
set_option maxRecDepth 100000 in
set_option maxHeartbeats 4000000 in
theorem w_X10_pairsOfKin_41 (l : Launch) {V : Int32} (C0 : XC D ct p s m args meth c cX10_pairsOfKin 4 (some .int) RX10) (t : Nat) (ht : isTown t) (v1 : Int32) (v2 : Int32) (S : St) (n0 : Nat) (ih0 : ∀ (v1 : Int32) (v2 : Int32) (H : Heap) (locs : List Loc) (ls : Array Slot), (lp n0 (l_X10_pairsOfKin_4 t S) (v1, v2)).bind some = some V → MP D ct B Hb S H → va_S (AB B) s.heap H locs → lv_has ls 4 [(0, .ref (B + t)), (1, .int v1), (2, .int v2)] → W p l e { frames := 1, cells := 0, slots := 0, locals := 22 } s m args below meth c H locs 0 0 (MQ below (qI D ct B Hb S V) args s 0 0 (AB B)) (F0 m 4 ls [])) {H : Heap} {locs : List Loc} {ls : Array Slot} (h : (b_X10_pairsOfKin_41 t v1 v2 S).bind (lpF n0 (l_X10_pairsOfKin_4 t S) some) = some V) (hP : MP D ct B Hb S H) (hS : va_S (AB B) s.heap H locs) (hl : lv_has ls 4 [(0, .ref (B + t)), (1, .int v1), (2, .int v2)]) : W p l e { frames := 1, cells := 0, slots := 0, locals := 22 } s m args below meth c H locs 0 0 (MQ below (qI D ct B Hb S V) args s 0 0 (AB B)) (F0 m 41 ls []) := by
  obtain ⟨hx, hb, hr, hml, hown, hts, hK, hlocks, hN⟩ := id C0
  unfold b_X10_pairsOfKin_41 at h
  refine lv_iinc (v := v2 + 1) (lv' := [(2, .int (v2 + 1)), (0, .ref (B + t)), (1, .int v1)]) hx hb dX10_pairsOfKin_41 hl (k := 2) rfl rfl (by decide) rfl (fun ls hl => ?_)
  refine lv_goto (tgt := 4) hx hb dX10_pairsOfKin_44 (by decide) ?_
  exact ih0 v1 (v2 + 1) _ _ _ h hP hS (lv_sub hl [1, 2, 0] rfl)
set_option maxRecDepth 100000 in
set_option maxHeartbeats 4000000 in
theorem w_X10_pairsOfKin_33 (l : Launch) {V : Int32} (C0 : XC D ct p s m args meth c cX10_pairsOfKin 4 (some .int) RX10) (t : Nat) (ht : isTown t) (v2 : Int32) (v3 : Int32) (s0 : Int32) (s1 : Int32) (S : St) (n0 : Nat) (ih0 : ∀ (v1 : Int32) (v2 : Int32) (H : Heap) (locs : List Loc) (ls : Array Slot), (lp n0 (l_X10_pairsOfKin_4 t S) (v1, v2)).bind some = some V → MP D ct B Hb S H → va_S (AB B) s.heap H locs → lv_has ls 4 [(0, .ref (B + t)), (1, .int v1), (2, .int v2)] → W p l e { frames := 1, cells := 0, slots := 0, locals := 22 } s m args below meth c H locs 0 0 (MQ below (qI D ct B Hb S V) args s 0 0 (AB B)) (F0 m 4 ls [])) (n1 : Nat) (ih1 : ∀ (v1 : Int32) (v2 : Int32) (v3 : Int32) (H : Heap) (locs : List Loc) (ls : Array Slot), (lp n1 (l_X10_pairsOfKin_13 t S) (v1, v2, v3)).bind (lpF n0 (l_X10_pairsOfKin_4 t S) some) = some V → MP D ct B Hb S H → va_S (AB B) s.heap H locs → lv_has ls 4 [(0, .ref (B + t)), (1, .int v1), (2, .int v2), (3, .int v3)] → W p l e { frames := 1, cells := 0, slots := 0, locals := 22 } s m args below meth c H locs 0 0 (MQ below (qI D ct B Hb S V) args s 0 0 (AB B)) (F0 m 13 ls [])) {H : Heap} {locs : List Loc} {ls : Array Slot} (h : (b_X10_pairsOfKin_33 t v2 v3 s0 s1 S).bind (lpF n1 (l_X10_pairsOfKin_13 t S) (lpF n0 (l_X10_pairsOfKin_4 t S) some)) = some V) (hP : MP D ct B Hb S H) (hS : va_S (AB B) s.heap H locs) (hl : lv_has ls 4 [(0, .ref (B + t)), (2, .int v2), (3, .int v3)]) : W p l e { frames := 1, cells := 0, slots := 0, locals := 22 } s m args below meth c H locs 0 0 (MQ below (qI D ct B Hb S V) args s 0 0 (AB B)) (F0 m 33 ls [.int s0, .int s1]) := by
  obtain ⟨hx, hb, hr, hml, hown, hts, hK, hlocks, hN⟩ := id C0
  unfold b_X10_pairsOfKin_33 at h
  refine lv_iadd hx hb dX10_pairsOfKin_33 ?_
  refine lv_istore_n (lv' := [(1, .int (s1 + s0)), (0, .ref (B + t)), (2, .int v2), (3, .int v3)]) hx hb dX10_pairsOfKin_34 rfl hl (by decide) rfl (fun ls hl => ?_)
  refine lv_iinc (v := v3 + 1) (lv' := [(3, .int (v3 + 1)), (1, .int (s1 + s0)), (0, .ref (B + t)), (2, .int v2)]) hx hb dX10_pairsOfKin_35 hl (k := 3) rfl rfl (by decide) rfl (fun ls hl => ?_)
  refine lv_goto (tgt := 13) hx hb dX10_pairsOfKin_38 (by decide) ?_
  exact ih1 (s1 + s0) v2 (v3 + 1) _ _ _ h hP hS (lv_sub hl [2, 1, 3, 0] rfl)
set_option maxRecDepth 100000 in
set_option maxHeartbeats 4000000 in
theorem w_X10_pairsOfKin_13 (l : Launch) {V : Int32} (C0 : XC D ct p s m args meth c cX10_pairsOfKin 4 (some .int) RX10) (t : Nat) (ht : isTown t) (v1 : Int32) (v2 : Int32) (v3 : Int32) (S : St) (n0 : Nat) (ih0 : ∀ (v1 : Int32) (v2 : Int32) (H : Heap) (locs : List Loc) (ls : Array Slot), (lp n0 (l_X10_pairsOfKin_4 t S) (v1, v2)).bind some = some V → MP D ct B Hb S H → va_S (AB B) s.heap H locs → lv_has ls 4 [(0, .ref (B + t)), (1, .int v1), (2, .int v2)] → W p l e { frames := 1, cells := 0, slots := 0, locals := 22 } s m args below meth c H locs 0 0 (MQ below (qI D ct B Hb S V) args s 0 0 (AB B)) (F0 m 4 ls [])) (n1 : Nat) (ih1 : ∀ (v1 : Int32) (v2 : Int32) (v3 : Int32) (H : Heap) (locs : List Loc) (ls : Array Slot), (lp n1 (l_X10_pairsOfKin_13 t S) (v1, v2, v3)).bind (lpF n0 (l_X10_pairsOfKin_4 t S) some) = some V → MP D ct B Hb S H → va_S (AB B) s.heap H locs → lv_has ls 4 [(0, .ref (B + t)), (1, .int v1), (2, .int v2), (3, .int v3)] → W p l e { frames := 1, cells := 0, slots := 0, locals := 22 } s m args below meth c H locs 0 0 (MQ below (qI D ct B Hb S V) args s 0 0 (AB B)) (F0 m 13 ls [])) {H : Heap} {locs : List Loc} {ls : Array Slot} (h : (b_X10_pairsOfKin_13 t v1 v2 v3 S).bind (lpF n1 (l_X10_pairsOfKin_13 t S) (lpF n0 (l_X10_pairsOfKin_4 t S) some)) = some V) (hP : MP D ct B Hb S H) (hS : va_S (AB B) s.heap H locs) (hl : lv_has ls 4 [(0, .ref (B + t)), (1, .int v1), (2, .int v2), (3, .int v3)]) : W p l e { frames := 1, cells := 0, slots := 0, locals := 22 } s m args below meth c H locs 0 0 (MQ below (qI D ct B Hb S V) args s 0 0 (AB B)) (F0 m 13 ls []) := by
  obtain ⟨hx, hb, hr, hml, hown, hts, hK, hlocks, hN⟩ := id C0
  unfold b_X10_pairsOfKin_13 at h
  refine lv_iload_n hx hb dX10_pairsOfKin_13 rfl (lv_at hl 3 rfl) ?_
  refine lv_iconst (v := 4) hx hb dX10_pairsOfKin_14 (by decide) ?_
  refine lv_icmp_ge (tgt := 41) hx hb dX10_pairsOfKin_15 (by decide) (fun z1 => ?_) (fun z1 => ?_)
  · have h := ob_t h z1
    have h := ob_mp h
    exact w_X10_pairsOfKin_41 l C0 t ht v1 v2 S n0 ih0 h hP hS (lv_sub hl [0, 1, 2] rfl)
  · have h := ob_f h z1
    refine lv_iload_n hx hb dX10_pairsOfKin_18 rfl (lv_at hl 1 rfl) ?_
    refine lv_aload_n hx hb dX10_pairsOfKin_19 rfl (lv_at hl 0 rfl) ?_
    refine lv_iload_n hx hb dX10_pairsOfKin_20 rfl (lv_at hl 2 rfl) ?_
    refine lv_iload_n hx hb dX10_pairsOfKin_21 rfl (lv_at hl 3 rfl) ?_
    obtain ⟨r2, hr2, h⟩ := ob_bd h
    refine n_I (kV (As := [.int v2, .int v3]) C0 (c_X10_areKin l t ht v2 v3 hr2) ⟨wd_448, wd_445, wd_446, wd_447, wd_2⟩ kd_X10_areKin ⟨Nat.le_of_ble_eq_true rfl, Nat.le_of_ble_eq_true rfl⟩ hP (lay_X10 B ct S ht) rfl rfl hl.1 rfl (Nat.le_of_ble_eq_true rfl) dX10_pairsOfKin_22 ⟨Nat.le_of_ble_eq_true rfl, Nat.le_of_ble_eq_true rfl⟩) hS (fun H locs hP hS => ?_)
    refine lv_if_eq (tgt := 32) hx hb dX10_pairsOfKin_25 (by decide) (fun z3 => ?_) (fun z3 => ?_)
    · have h := ob_t h z3
      refine lv_iconst (v := 0) hx hb dX10_pairsOfKin_32 (by decide) ?_
      exact w_X10_pairsOfKin_33 l C0 t ht v2 v3 0 v1 S n0 ih0 n1 ih1 h hP hS (lv_sub hl [0, 2, 3] rfl)
    · have h := ob_f h z3
      refine lv_iconst (v := 1) hx hb dX10_pairsOfKin_28 (by decide) ?_
      refine lv_goto (tgt := 33) hx hb dX10_pairsOfKin_29 (by decide) ?_
      exact w_X10_pairsOfKin_33 l C0 t ht v2 v3 1 v1 S n0 ih0 n1 ih1 h hP hS (lv_sub hl [0, 2, 3] rfl)
set_option maxRecDepth 100000 in
set_option maxHeartbeats 4000000 in
theorem wl_X10_pairsOfKin_13 (l : Launch) {V : Int32} (C0 : XC D ct p s m args meth c cX10_pairsOfKin 4 (some .int) RX10) (t : Nat) (ht : isTown t) (S : St) (n0 : Nat) (ih0 : ∀ (v1 : Int32) (v2 : Int32) (H : Heap) (locs : List Loc) (ls : Array Slot), (lp n0 (l_X10_pairsOfKin_4 t S) (v1, v2)).bind some = some V → MP D ct B Hb S H → va_S (AB B) s.heap H locs → lv_has ls 4 [(0, .ref (B + t)), (1, .int v1), (2, .int v2)] → W p l e { frames := 1, cells := 0, slots := 0, locals := 22 } s m args below meth c H locs 0 0 (MQ below (qI D ct B Hb S V) args s 0 0 (AB B)) (F0 m 4 ls []))  : ∀ (n1 : Nat) (v1 : Int32) (v2 : Int32) (v3 : Int32) {H : Heap} {locs : List Loc} {ls : Array Slot}, (lp n1 (l_X10_pairsOfKin_13 t S) (v1, v2, v3)).bind (lpF n0 (l_X10_pairsOfKin_4 t S) some) = some V → MP D ct B Hb S H → va_S (AB B) s.heap H locs → lv_has ls 4 [(0, .ref (B + t)), (1, .int v1), (2, .int v2), (3, .int v3)] → W p l e { frames := 1, cells := 0, slots := 0, locals := 22 } s m args below meth c H locs 0 0 (MQ below (qI D ct B Hb S V) args s 0 0 (AB B)) (F0 m 13 ls []) := by
  intro n1
  induction n1 with
  | zero =>
    intro v1 v2 v3 H locs ls h hP hS hl
    exact (lp_0 h).elim
  | succ n1 ih1 =>
    intro v1 v2 v3 H locs ls h hP hS hl
    have h := lp_s h
    exact w_X10_pairsOfKin_13 l C0 t ht v1 v2 v3 S n0 ih0 n1 (fun v1 v2 v3 H locs ls h hP hS hl => ih1 v1 v2 v3 h hP hS hl) h hP hS hl
set_option maxRecDepth 100000 in
set_option maxHeartbeats 4000000 in
theorem w_X10_pairsOfKin_4 (l : Launch) {V : Int32} (C0 : XC D ct p s m args meth c cX10_pairsOfKin 4 (some .int) RX10) (t : Nat) (ht : isTown t) (v1 : Int32) (v2 : Int32) (S : St) (n0 : Nat) (ih0 : ∀ (v1 : Int32) (v2 : Int32) (H : Heap) (locs : List Loc) (ls : Array Slot), (lp n0 (l_X10_pairsOfKin_4 t S) (v1, v2)).bind some = some V → MP D ct B Hb S H → va_S (AB B) s.heap H locs → lv_has ls 4 [(0, .ref (B + t)), (1, .int v1), (2, .int v2)] → W p l e { frames := 1, cells := 0, slots := 0, locals := 22 } s m args below meth c H locs 0 0 (MQ below (qI D ct B Hb S V) args s 0 0 (AB B)) (F0 m 4 ls [])) {H : Heap} {locs : List Loc} {ls : Array Slot} (h : (b_X10_pairsOfKin_4 t v1 v2 S).bind (lpF n0 (l_X10_pairsOfKin_4 t S) some) = some V) (hP : MP D ct B Hb S H) (hS : va_S (AB B) s.heap H locs) (hl : lv_has ls 4 [(0, .ref (B + t)), (1, .int v1), (2, .int v2)]) : W p l e { frames := 1, cells := 0, slots := 0, locals := 22 } s m args below meth c H locs 0 0 (MQ below (qI D ct B Hb S V) args s 0 0 (AB B)) (F0 m 4 ls []) := by
  obtain ⟨hx, hb, hr, hml, hown, hts, hK, hlocks, hN⟩ := id C0
  unfold b_X10_pairsOfKin_4 at h
  refine lv_iload_n hx hb dX10_pairsOfKin_4 rfl (lv_at hl 2 rfl) ?_
  refine lv_iconst (v := 4) hx hb dX10_pairsOfKin_5 (by decide) ?_
  refine lv_icmp_ge (tgt := 47) hx hb dX10_pairsOfKin_6 (by decide) (fun z1 => ?_) (fun z1 => ?_)
  · have h := ob_t h z1
    refine lv_iload_n hx hb dX10_pairsOfKin_47 rfl (lv_at hl 1 rfl) ?_
    exact r_I C0 hP hS h dX10_pairsOfKin_48
  · have h := ob_f h z1
    refine lv_iload_n hx hb dX10_pairsOfKin_9 rfl (lv_at hl 2 rfl) ?_
    refine lv_iconst (v := 1) hx hb dX10_pairsOfKin_10 (by decide) ?_
    refine lv_iadd hx hb dX10_pairsOfKin_11 ?_
    refine lv_istore_n (lv' := [(3, .int (v2 + 1)), (0, .ref (B + t)), (1, .int v1), (2, .int v2)]) hx hb dX10_pairsOfKin_12 rfl hl (by decide) rfl (fun ls hl => ?_)
    exact wl_X10_pairsOfKin_13 l C0 t ht S n0 ih0 1000 v1 v2 (v2 + 1) h hP hS (lv_sub hl [1, 2, 3, 0] rfl)
set_option maxRecDepth 100000 in
set_option maxHeartbeats 4000000 in
theorem wl_X10_pairsOfKin_4 (l : Launch) {V : Int32} (C0 : XC D ct p s m args meth c cX10_pairsOfKin 4 (some .int) RX10) (t : Nat) (ht : isTown t) (S : St)  : ∀ (n0 : Nat) (v1 : Int32) (v2 : Int32) {H : Heap} {locs : List Loc} {ls : Array Slot}, (lp n0 (l_X10_pairsOfKin_4 t S) (v1, v2)).bind some = some V → MP D ct B Hb S H → va_S (AB B) s.heap H locs → lv_has ls 4 [(0, .ref (B + t)), (1, .int v1), (2, .int v2)] → W p l e { frames := 1, cells := 0, slots := 0, locals := 22 } s m args below meth c H locs 0 0 (MQ below (qI D ct B Hb S V) args s 0 0 (AB B)) (F0 m 4 ls []) := by
  intro n0
  induction n0 with
  | zero =>
    intro v1 v2 H locs ls h hP hS hl
    exact (lp_0 h).elim
  | succ n0 ih0 =>
    intro v1 v2 H locs ls h hP hS hl
    have h := lp_s h
    exact w_X10_pairsOfKin_4 l C0 t ht v1 v2 S n0 (fun v1 v2 H locs ls h hP hS hl => ih0 v1 v2 h hP hS hl) h hP hS hl
set_option maxRecDepth 100000 in
set_option maxHeartbeats 4000000 in
theorem w_X10_pairsOfKin_0 (l : Launch) {V : Int32} (C0 : XC D ct p s m args meth c cX10_pairsOfKin 4 (some .int) RX10) (t : Nat) (ht : isTown t) (S : St) {H : Heap} {locs : List Loc} {ls : Array Slot} (h : (b_X10_pairsOfKin_0 t S).bind some = some V) (hP : MP D ct B Hb S H) (hS : va_S (AB B) s.heap H locs) (hl : lv_has ls 4 [(0, .ref (B + t))]) : W p l e { frames := 1, cells := 0, slots := 0, locals := 22 } s m args below meth c H locs 0 0 (MQ below (qI D ct B Hb S V) args s 0 0 (AB B)) (F0 m 0 ls []) := by
  obtain ⟨hx, hb, hr, hml, hown, hts, hK, hlocks, hN⟩ := id C0
  unfold b_X10_pairsOfKin_0 at h
  refine lv_iconst (v := 0) hx hb dX10_pairsOfKin_0 (by decide) ?_
  refine lv_istore_n (lv' := [(1, .int 0), (0, .ref (B + t))]) hx hb dX10_pairsOfKin_1 rfl hl (by decide) rfl (fun ls hl => ?_)
  refine lv_iconst (v := 0) hx hb dX10_pairsOfKin_2 (by decide) ?_
  refine lv_istore_n (lv' := [(2, .int 0), (1, .int 0), (0, .ref (B + t))]) hx hb dX10_pairsOfKin_3 rfl hl (by decide) rfl (fun ls hl => ?_)
  exact wl_X10_pairsOfKin_4 l C0 t ht S 1000 0 0 h hP hS (lv_sub hl [2, 1, 0] rfl)
set_option maxRecDepth 100000 in
set_option maxHeartbeats 4000000 in
theorem c_X10_pairsOfKin (l : Launch) (t : Nat) (ht : isTown t) {D : va_G} {ct : Nat → ClassId} {B : Nat} {Hb : Heap} {S : St} {V : Int32} (h : L_X10_pairsOfKin t S = some V) : Met l yX10_pairsOfKin (Cond.code yX10_pairsOfKin cX10_pairsOfKin 4 (some .int) :: tG) { frames := 1, cells := 0, slots := 0, locals := 22 } (va_Pc [.ref (B + t)] (MPK D ct B Hb S)) (qI D ct B Hb S V) 0 0 (AB B) := by
  refine mk_met (by decide +kernel) (Nat.le_of_ble_eq_true rfl) (fun p e s m args below meth c ls C0 hP hl _ => ?_)
  have h := ob_of h
  exact w_X10_pairsOfKin_0 l C0 t ht S h hP va_S.rf (lv_sub hl [0] rfl)
set_option maxRecDepth 100000 in
set_option maxHeartbeats 4000000 in
theorem w_X10_changeRule_42 (l : Launch) {V : Int32 × St} (C0 : XC D ct p s m args meth c cX10_changeRule 5 (some .int) RX10) (t : Nat) (ht : isTown t) (v1 : Int32) (v2 : Int32) (v3 : Int32) (s0 : Int32) (s1 : Int32) (S : St) {H : Heap} {locs : List Loc} {ls : Array Slot} (h : (b_X10_changeRule_42 t v1 v2 v3 s0 s1 S).bind some = some V) (hP : MP D ct B Hb S H) (hS : va_S (AB B) s.heap H locs) (hl : lv_has ls 5 [(0, .ref (B + t)), (1, .int v1), (2, .int v2), (3, .int v3)]) : W p l e { frames := 1, cells := 0, slots := 0, locals := 22 } s m args below meth c H locs 0 0 (MQ below (qIw D ct B Hb V) args s 0 0 (AB B)) (F0 m 42 ls [.int s0, .int s1]) := by
  obtain ⟨hx, hb, hr, hml, hown, hts, hK, hlocks, hN⟩ := id C0
  unfold b_X10_changeRule_42 at h
  refine lv_iload_n hx hb dX10_changeRule_42 rfl (lv_at hl 3 rfl) ?_
  obtain ⟨r1, hr1, h⟩ := ob_bd h
  refine n_I (kN (host := "ThoughtBetterOf") (As := [.int s1, .int s0, .int v3]) C0 (c_X11_isOut l s1 s0 v3 hr1) ⟨wd_338, nw_isOut, wd_337, wd_1⟩ kd_X11_isOut ⟨Nat.le_of_ble_eq_true rfl, Nat.le_of_ble_eq_true rfl⟩ hP rfl hl.1 rfl (Nat.le_of_ble_eq_true rfl) dX10_changeRule_43 ⟨Nat.le_of_ble_eq_true rfl, Nat.le_of_ble_eq_true rfl⟩) hS (fun H locs hP hS => ?_)
  refine lv_if_eq (tgt := 51) hx hb dX10_changeRule_46 (by decide) (fun z2 => ?_) (fun z2 => ?_)
  · have h := ob_t h z2
    refine lv_aload_n hx hb dX10_changeRule_51 rfl (lv_at hl 0 rfl) ?_
    refine x_get C0 hP (lay_X10 B ct S ht) rfl inG10 18 (by decide) wd_100 (fun _ h => h) rfl dX10_changeRule_52 ?_
    refine lv_iload_n hx hb dX10_changeRule_55 rfl (lv_at hl 1 rfl) ?_
    obtain ⟨g3, h⟩ := ob_gd h
    refine x_iald C0 hP ((fun S => lay_t17 B ct S ht) S) g3 dX10_changeRule_56 ?_
    refine lv_istore (lv' := [(4, .int (gi S (t + 17) v1.toNatClampNeg)), (0, .ref (B + t)), (1, .int v1), (2, .int v2), (3, .int v3)]) hx hb dX10_changeRule_57 hl (by decide) rfl (fun ls hl => ?_)
    refine lv_aload_n hx hb dX10_changeRule_59 rfl (lv_at hl 1 rfl) ?_
    refine x_get C0 hP (lay_X10 B ct S ht) rfl inG10 18 (by decide) wd_100 (fun _ h => h) rfl dX10_changeRule_60 ?_
    refine lv_iload_n hx hb dX10_changeRule_63 rfl (lv_at hl 2 rfl) ?_
    refine lv_iload_n hx hb dX10_changeRule_64 rfl (lv_at hl 3 rfl) ?_
    obtain ⟨g4, h⟩ := ob_gd h
    obtain ⟨S5, eS5, h⟩ := ob_nm h
    refine x_iast C0 hP hS (fun S => lay_t17 B ct S ht) g4 dX10_changeRule_65 (fun H locs hP hS => ?_)
    rw [← eS5] at hP
    refine lv_iload hx hb dX10_changeRule_66 (lv_at hl 0 rfl) ?_
    exact r_Iw C0 hP hS h dX10_changeRule_68
  · have h := ob_f h z2
    refine lv_iconst (v := (-1)) hx hb dX10_changeRule_49 (by decide) ?_
    exact r_Iw C0 hP hS h dX10_changeRule_50
set_option maxRecDepth 100000 in
set_option maxHeartbeats 4000000 in
theorem w_X10_changeRule_21 (l : Launch) {V : Int32 × St} (C0 : XC D ct p s m args meth c cX10_changeRule 5 (some .int) RX10) (t : Nat) (ht : isTown t) (v1 : Int32) (v2 : Int32) (s0 : Int32) (S : St) {H : Heap} {locs : List Loc} {ls : Array Slot} (h : (b_X10_changeRule_21 t v1 v2 s0 S).bind some = some V) (hP : MP D ct B Hb S H) (hS : va_S (AB B) s.heap H locs) (hl : lv_has ls 5 [(0, .ref (B + t)), (1, .int v1), (2, .int v2)]) : W p l e { frames := 1, cells := 0, slots := 0, locals := 22 } s m args below meth c H locs 0 0 (MQ below (qIw D ct B Hb V) args s 0 0 (AB B)) (F0 m 21 ls [.int s0]) := by
  obtain ⟨hx, hb, hr, hml, hown, hts, hK, hlocks, hN⟩ := id C0
  unfold b_X10_changeRule_21 at h
  refine lv_istore_n (lv' := [(3, .int s0), (0, .ref (B + t)), (1, .int v1), (2, .int v2)]) hx hb dX10_changeRule_21 rfl hl (by decide) rfl (fun ls hl => ?_)
  refine lv_iload_n hx hb dX10_changeRule_22 rfl (lv_at hl 2 rfl) ?_
  refine lv_iconst (v := 0) hx hb dX10_changeRule_23 (by decide) ?_
  refine lv_iconst (v := 2) hx hb dX10_changeRule_24 (by decide) ?_
  obtain ⟨r1, hr1, h⟩ := ob_bd h
  refine n_I (kN (host := "ThoughtBetterOf") (As := [.int v1, .int 0, .int 2]) C0 (c_X11_isOut l v1 0 2 hr1) ⟨wd_338, nw_isOut, wd_337, wd_1⟩ kd_X11_isOut ⟨Nat.le_of_ble_eq_true rfl, Nat.le_of_ble_eq_true rfl⟩ hP rfl hl.1 rfl (Nat.le_of_ble_eq_true rfl) dX10_changeRule_25 ⟨Nat.le_of_ble_eq_true rfl, Nat.le_of_ble_eq_true rfl⟩) hS (fun H locs hP hS => ?_)
  refine lv_if_ne (tgt := 49) hx hb dX10_changeRule_28 (by decide) (fun z2 => ?_) (fun z2 => ?_)
  · have h := ob_f h z2
    refine lv_iconst (v := (-1)) hx hb dX10_changeRule_49 (by decide) ?_
    exact r_Iw C0 hP hS h dX10_changeRule_50
  · have h := ob_t h z2
    refine lv_iload_n hx hb dX10_changeRule_31 rfl (lv_at hl 3 rfl) ?_
    refine lv_iload_n hx hb dX10_changeRule_32 rfl (lv_at hl 2 rfl) ?_
    refine lv_iconst (v := 2) hx hb dX10_changeRule_33 (by decide) ?_
    refine lv_icmp_ne (tgt := 41) hx hb dX10_changeRule_34 (by decide) (fun z3 => ?_) (fun z3 => ?_)
    · have h := ob_f h z3
      refine lv_iconst (v := 0) hx hb dX10_changeRule_41 (by decide) ?_
      exact w_X10_changeRule_42 l C0 t ht v1 v2 s0 0 v2 S h hP hS (lv_sub hl [1, 2, 3, 0] rfl)
    · have h := ob_t h z3
      refine lv_iconst (v := 1) hx hb dX10_changeRule_37 (by decide) ?_
      refine lv_goto (tgt := 42) hx hb dX10_changeRule_38 (by decide) ?_
      exact w_X10_changeRule_42 l C0 t ht v1 v2 s0 1 v2 S h hP hS (lv_sub hl [1, 2, 3, 0] rfl)
set_option maxRecDepth 100000 in
set_option maxHeartbeats 4000000 in
theorem w_X10_changeRule_0 (l : Launch) {V : Int32 × St} (C0 : XC D ct p s m args meth c cX10_changeRule 5 (some .int) RX10) (t : Nat) (ht : isTown t) (v1 : Int32) (v2 : Int32) (S : St) {H : Heap} {locs : List Loc} {ls : Array Slot} (h : (b_X10_changeRule_0 t v1 v2 S).bind some = some V) (hP : MP D ct B Hb S H) (hS : va_S (AB B) s.heap H locs) (hl : lv_has ls 5 [(0, .ref (B + t)), (1, .int v1), (2, .int v2)]) : W p l e { frames := 1, cells := 0, slots := 0, locals := 22 } s m args below meth c H locs 0 0 (MQ below (qIw D ct B Hb V) args s 0 0 (AB B)) (F0 m 0 ls []) := by
  obtain ⟨hx, hb, hr, hml, hown, hts, hK, hlocks, hN⟩ := id C0
  unfold b_X10_changeRule_0 at h
  refine lv_iload_n hx hb dX10_changeRule_0 rfl (lv_at hl 1 rfl) ?_
  refine lv_if_ne (tgt := 9) hx hb dX10_changeRule_1 (by decide) (fun z1 => ?_) (fun z1 => ?_)
  · have h := ob_f h z1
    refine lv_iload_n hx hb dX10_changeRule_9 rfl (lv_at hl 1 rfl) ?_
    refine lv_iconst (v := 1) hx hb dX10_changeRule_10 (by decide) ?_
    refine lv_icmp_ne (tgt := 19) hx hb dX10_changeRule_11 (by decide) (fun z2 => ?_) (fun z2 => ?_)
    · have h := ob_f h z2
      refine lv_bipush (v := 9) hx hb dX10_changeRule_19 (by decide) ?_
      exact w_X10_changeRule_21 l C0 t ht v1 v2 9 S h hP hS (lv_sub hl [0, 1, 2] rfl)
    · have h := ob_t h z2
      refine lv_bipush (v := 9) hx hb dX10_changeRule_14 (by decide) ?_
      refine lv_goto (tgt := 21) hx hb dX10_changeRule_16 (by decide) ?_
      exact w_X10_changeRule_21 l C0 t ht v1 v2 9 S h hP hS (lv_sub hl [0, 1, 2] rfl)
  · have h := ob_t h z1
    refine lv_bipush (v := 23) hx hb dX10_changeRule_4 (by decide) ?_
    refine lv_goto (tgt := 21) hx hb dX10_changeRule_6 (by decide) ?_
    exact w_X10_changeRule_21 l C0 t ht v1 v2 23 S h hP hS (lv_sub hl [0, 1, 2] rfl)
set_option maxRecDepth 100000 in
set_option maxHeartbeats 4000000 in
theorem c_X10_changeRule (l : Launch) (t : Nat) (ht : isTown t) (a1 : Int32) (a2 : Int32) {D : va_G} {ct : Nat → ClassId} {B : Nat} {Hb : Heap} {S : St} {V : Int32 × St} (h : L_X10_changeRule t a1 a2 S = some V) : Met l yX10_changeRule (Cond.code yX10_changeRule cX10_changeRule 5 (some .int) :: tG) { frames := 1, cells := 0, slots := 0, locals := 22 } (va_Pc [.ref (B + t), .int a1, .int a2] (MPK D ct B Hb S)) (qIw D ct B Hb V) 0 0 (AB B) := by
  refine mk_met (by decide +kernel) (Nat.le_of_ble_eq_true rfl) (fun p e s m args below meth c ls C0 hP hl _ => ?_)
  have h := ob_of h
  exact w_X10_changeRule_0 l C0 t ht a1 a2 S h hP va_S.rf (lv_sub hl [0, 1, 2] rfl)
set_option maxRecDepth 100000 in
set_option maxHeartbeats 4000000 in
theorem w_X10_allCoins_4 (l : Launch) {V : Int32} (C0 : XC D ct p s m args meth c cX10_allCoins 3 (some .int) RX10) (t : Nat) (ht : isTown t) (v1 : Int32) (v2 : Int32) (S : St) (n0 : Nat) (ih0 : ∀ (v1 : Int32) (v2 : Int32) (H : Heap) (locs : List Loc) (ls : Array Slot), (lp n0 (l_X10_allCoins_4 t S) (v1, v2)).bind some = some V → MP D ct B Hb S H → va_S (AB B) s.heap H locs → lv_has ls 3 [(0, .ref (B + t)), (1, .int v1), (2, .int v2)] → W p l e { frames := 0, cells := 0, slots := 0, locals := 0 } s m args below meth c H locs 0 0 (MQ below (qI D ct B Hb S V) args s 0 0 (AB B)) (F0 m 4 ls [])) {H : Heap} {locs : List Loc} {ls : Array Slot} (h : (b_X10_allCoins_4 t v1 v2 S).bind (lpF n0 (l_X10_allCoins_4 t S) some) = some V) (hP : MP D ct B Hb S H) (hS : va_S (AB B) s.heap H locs) (hl : lv_has ls 3 [(0, .ref (B + t)), (1, .int v1), (2, .int v2)]) : W p l e { frames := 0, cells := 0, slots := 0, locals := 0 } s m args below meth c H locs 0 0 (MQ below (qI D ct B Hb S V) args s 0 0 (AB B)) (F0 m 4 ls []) := by
  obtain ⟨hx, hb, hr, hml, hown, hts, hK, hlocks, hN⟩ := id C0
  unfold b_X10_allCoins_4 at h
  refine lv_iload_n hx hb dX10_allCoins_4 rfl (lv_at hl 2 rfl) ?_
  refine lv_aload_n hx hb dX10_allCoins_5 rfl (lv_at hl 0 rfl) ?_
  refine x_get C0 hP (lay_X10 B ct S ht) rfl inG10 0 (by decide) wd_59 (fun _ h => h) rfl dX10_allCoins_6 ?_
  refine lv_icmp_ge (tgt := 27) hx hb dX10_allCoins_9 (by decide) (fun z1 => ?_) (fun z1 => ?_)
  · have h := ob_t h z1
    refine lv_iload_n hx hb dX10_allCoins_27 rfl (lv_at hl 1 rfl) ?_
    exact r_I C0 hP hS h dX10_allCoins_28
  · have h := ob_f h z1
    refine lv_iload_n hx hb dX10_allCoins_12 rfl (lv_at hl 1 rfl) ?_
    refine lv_aload_n hx hb dX10_allCoins_13 rfl (lv_at hl 0 rfl) ?_
    refine x_get C0 hP (lay_X10 B ct S ht) rfl inG10 5 (by decide) wd_74 (fun _ h => h) rfl dX10_allCoins_14 ?_
    refine lv_iload_n hx hb dX10_allCoins_17 rfl (lv_at hl 2 rfl) ?_
    obtain ⟨g2, h⟩ := ob_gd h
    refine x_iald C0 hP ((fun S => lay_t6 B ct S ht) S) g2 dX10_allCoins_18 ?_
    refine lv_iadd hx hb dX10_allCoins_19 ?_
    refine lv_istore_n (lv' := [(1, .int (v1 + (gi S (t + 6) v2.toNatClampNeg))), (0, .ref (B + t)), (2, .int v2)]) hx hb dX10_allCoins_20 rfl hl (by decide) rfl (fun ls hl => ?_)
    refine lv_iinc (v := v2 + 1) (lv' := [(2, .int (v2 + 1)), (1, .int (v1 + (gi S (t + 6) v2.toNatClampNeg))), (0, .ref (B + t))]) hx hb dX10_allCoins_21 hl (k := 2) rfl rfl (by decide) rfl (fun ls hl => ?_)
    refine lv_goto (tgt := 4) hx hb dX10_allCoins_24 (by decide) ?_
    exact ih0 (v1 + (gi S (t + 6) v2.toNatClampNeg)) (v2 + 1) _ _ _ h hP hS (lv_sub hl [2, 1, 0] rfl)
set_option maxRecDepth 100000 in
set_option maxHeartbeats 4000000 in
theorem wl_X10_allCoins_4 (l : Launch) {V : Int32} (C0 : XC D ct p s m args meth c cX10_allCoins 3 (some .int) RX10) (t : Nat) (ht : isTown t) (S : St)  : ∀ (n0 : Nat) (v1 : Int32) (v2 : Int32) {H : Heap} {locs : List Loc} {ls : Array Slot}, (lp n0 (l_X10_allCoins_4 t S) (v1, v2)).bind some = some V → MP D ct B Hb S H → va_S (AB B) s.heap H locs → lv_has ls 3 [(0, .ref (B + t)), (1, .int v1), (2, .int v2)] → W p l e { frames := 0, cells := 0, slots := 0, locals := 0 } s m args below meth c H locs 0 0 (MQ below (qI D ct B Hb S V) args s 0 0 (AB B)) (F0 m 4 ls []) := by
  intro n0
  induction n0 with
  | zero =>
    intro v1 v2 H locs ls h hP hS hl
    exact (lp_0 h).elim
  | succ n0 ih0 =>
    intro v1 v2 H locs ls h hP hS hl
    have h := lp_s h
    exact w_X10_allCoins_4 l C0 t ht v1 v2 S n0 (fun v1 v2 H locs ls h hP hS hl => ih0 v1 v2 h hP hS hl) h hP hS hl
set_option maxRecDepth 100000 in
set_option maxHeartbeats 4000000 in
theorem w_X10_allCoins_0 (l : Launch) {V : Int32} (C0 : XC D ct p s m args meth c cX10_allCoins 3 (some .int) RX10) (t : Nat) (ht : isTown t) (S : St) {H : Heap} {locs : List Loc} {ls : Array Slot} (h : (b_X10_allCoins_0 t S).bind some = some V) (hP : MP D ct B Hb S H) (hS : va_S (AB B) s.heap H locs) (hl : lv_has ls 3 [(0, .ref (B + t))]) : W p l e { frames := 0, cells := 0, slots := 0, locals := 0 } s m args below meth c H locs 0 0 (MQ below (qI D ct B Hb S V) args s 0 0 (AB B)) (F0 m 0 ls []) := by
  obtain ⟨hx, hb, hr, hml, hown, hts, hK, hlocks, hN⟩ := id C0
  unfold b_X10_allCoins_0 at h
  refine lv_iconst (v := 0) hx hb dX10_allCoins_0 (by decide) ?_
  refine lv_istore_n (lv' := [(1, .int 0), (0, .ref (B + t))]) hx hb dX10_allCoins_1 rfl hl (by decide) rfl (fun ls hl => ?_)
  refine lv_iconst (v := 0) hx hb dX10_allCoins_2 (by decide) ?_
  refine lv_istore_n (lv' := [(2, .int 0), (1, .int 0), (0, .ref (B + t))]) hx hb dX10_allCoins_3 rfl hl (by decide) rfl (fun ls hl => ?_)
  exact wl_X10_allCoins_4 l C0 t ht S 1000 0 0 h hP hS (lv_sub hl [2, 1, 0] rfl)
set_option maxRecDepth 100000 in
set_option maxHeartbeats 4000000 in
theorem c_X10_allCoins (l : Launch) (t : Nat) (ht : isTown t) {D : va_G} {ct : Nat → ClassId} {B : Nat} {Hb : Heap} {S : St} {V : Int32} (h : L_X10_allCoins t S = some V) : Met l yX10_allCoins (Cond.code yX10_allCoins cX10_allCoins 3 (some .int) :: tG) { frames := 0, cells := 0, slots := 0, locals := 0 } (va_Pc [.ref (B + t)] (MPK D ct B Hb S)) (qI D ct B Hb S V) 0 0 (AB B) := by
  refine mk_met (by decide +kernel) (Nat.le_of_ble_eq_true rfl) (fun p e s m args below meth c ls C0 hP hl _ => ?_)
  have h := ob_of h
  exact w_X10_allCoins_0 l C0 t ht S h hP va_S.rf (lv_sub hl [0] rfl)
set_option maxRecDepth 100000 in
set_option maxHeartbeats 4000000 in
theorem w_X10_fitsShape_58 (l : Launch) {V : Int32} (C0 : XC D ct p s m args meth c cX10_fitsShape 2 (some .boolean) RX10) (S : St) {H : Heap} {locs : List Loc} {ls : Array Slot} (h : (b_X10_fitsShape_58 S).bind some = some V) (hP : MP D ct B Hb S H) (hS : va_S (AB B) s.heap H locs) (hl : lv_has ls 2 []) : W p l e { frames := 0, cells := 0, slots := 0, locals := 0 } s m args below meth c H locs 0 0 (MQ below (qI D ct B Hb S V) args s 0 0 (AB B)) (F0 m 58 ls []) := by
  obtain ⟨hx, hb, hr, hml, hown, hts, hK, hlocks, hN⟩ := id C0
  unfold b_X10_fitsShape_58 at h
  refine lv_iconst (v := 1) hx hb dX10_fitsShape_58 (by decide) ?_
  refine lv_goto (tgt := 63) hx hb dX10_fitsShape_59 (by decide) ?_
  exact r_Z C0 hP hS bool_1 h dX10_fitsShape_63
set_option maxRecDepth 100000 in
set_option maxHeartbeats 4000000 in
theorem w_X10_fitsShape_44 (l : Launch) {V : Int32} (C0 : XC D ct p s m args meth c cX10_fitsShape 2 (some .boolean) RX10) (S : St) {H : Heap} {locs : List Loc} {ls : Array Slot} (h : (b_X10_fitsShape_44 S).bind some = some V) (hP : MP D ct B Hb S H) (hS : va_S (AB B) s.heap H locs) (hl : lv_has ls 2 []) : W p l e { frames := 0, cells := 0, slots := 0, locals := 0 } s m args below meth c H locs 0 0 (MQ below (qI D ct B Hb S V) args s 0 0 (AB B)) (F0 m 44 ls []) := by
  obtain ⟨hx, hb, hr, hml, hown, hts, hK, hlocks, hN⟩ := id C0
  unfold b_X10_fitsShape_44 at h
  refine lv_iconst (v := 0) hx hb dX10_fitsShape_44 (by decide) ?_
  exact r_Z C0 hP hS bool_0 h dX10_fitsShape_45
set_option maxRecDepth 100000 in
set_option maxHeartbeats 4000000 in
theorem w_X10_fitsShape_0 (l : Launch) {V : Int32} (C0 : XC D ct p s m args meth c cX10_fitsShape 2 (some .boolean) RX10) (v0 : Int32) (v1 : Int32) (S : St) {H : Heap} {locs : List Loc} {ls : Array Slot} (h : (b_X10_fitsShape_0 v0 v1 S).bind some = some V) (hP : MP D ct B Hb S H) (hS : va_S (AB B) s.heap H locs) (hl : lv_has ls 2 [(0, .int v0), (1, .int v1)]) : W p l e { frames := 0, cells := 0, slots := 0, locals := 0 } s m args below meth c H locs 0 0 (MQ below (qI D ct B Hb S V) args s 0 0 (AB B)) (F0 m 0 ls []) := by
  obtain ⟨hx, hb, hr, hml, hown, hts, hK, hlocks, hN⟩ := id C0
  unfold b_X10_fitsShape_0 at h
  refine lv_iload_n hx hb dX10_fitsShape_0 rfl (lv_at hl 0 rfl) ?_
  rcases Decidable.em ((v0 : Int32) = 43) with z1 | z1
  · have h := ob_t h z1
    refine lv_lookup (x := v0) (off := 45) (tgt := 46) hx hb dX10_fitsShape_1 (by decide) (by rw [z1]; decide) (by decide) ?_
    refine lv_iload_n hx hb dX10_fitsShape_46 rfl (lv_at hl 1 rfl) ?_
    refine lv_bipush (v := 43) hx hb dX10_fitsShape_47 (by decide) ?_
    refine lv_icmp_eq (tgt := 58) hx hb dX10_fitsShape_49 (by decide) (fun z2 => ?_) (fun z2 => ?_)
    · have h := ob_t h z2
      exact w_X10_fitsShape_58 l C0 S h hP hS (lv_sub hl [] rfl)
    · have h := ob_f h z2
      refine lv_iload_n hx hb dX10_fitsShape_52 rfl (lv_at hl 1 rfl) ?_
      refine lv_bipush (v := 45) hx hb dX10_fitsShape_53 (by decide) ?_
      refine lv_icmp_ne (tgt := 62) hx hb dX10_fitsShape_55 (by decide) (fun z3 => ?_) (fun z3 => ?_)
      · have h := ob_f h z3
        refine lv_iconst (v := 0) hx hb dX10_fitsShape_62 (by decide) ?_
        exact r_Z C0 hP hS bool_0 h dX10_fitsShape_63
      · have h := ob_t h z3
        exact w_X10_fitsShape_58 l C0 S h hP hS (lv_sub hl [] rfl)
  · have h := ob_f h z1
    rcases Decidable.em ((v0 : Int32) = 48) with z4 | z4
    · have h := ob_t h z4
      refine lv_lookup (x := v0) (off := 27) (tgt := 28) hx hb dX10_fitsShape_1 (by decide) (by rw [z4]; decide) (by decide) ?_
      refine lv_iload_n hx hb dX10_fitsShape_28 rfl (lv_at hl 1 rfl) ?_
      refine lv_bipush (v := 48) hx hb dX10_fitsShape_29 (by decide) ?_
      refine lv_icmp_lt (tgt := 44) hx hb dX10_fitsShape_31 (by decide) (fun z5 => ?_) (fun z5 => ?_)
      · have h := ob_t h z5
        exact w_X10_fitsShape_44 l C0 S h hP hS (lv_sub hl [] rfl)
      · have h := ob_f h z5
        refine lv_iload_n hx hb dX10_fitsShape_34 rfl (lv_at hl 1 rfl) ?_
        refine lv_bipush (v := 57) hx hb dX10_fitsShape_35 (by decide) ?_
        refine lv_icmp_gt (tgt := 44) hx hb dX10_fitsShape_37 (by decide) (fun z6 => ?_) (fun z6 => ?_)
        · have h := ob_t h z6
          exact w_X10_fitsShape_44 l C0 S h hP hS (lv_sub hl [] rfl)
        · have h := ob_f h z6
          refine lv_iconst (v := 1) hx hb dX10_fitsShape_40 (by decide) ?_
          refine lv_goto (tgt := 45) hx hb dX10_fitsShape_41 (by decide) ?_
          exact r_Z C0 hP hS bool_1 h dX10_fitsShape_45
    · have h := ob_f h z4
      refine lv_lookup (x := v0) (off := 63) (tgt := 64) hx hb dX10_fitsShape_1 (by decide) (by simp [Op.lookupswitch.offset, sw_k z1 (k := 43) rfl, sw_k z4 (k := 48) rfl]) (by decide) ?_
      refine lv_iload_n hx hb dX10_fitsShape_64 rfl (lv_at hl 1 rfl) ?_
      refine lv_iload_n hx hb dX10_fitsShape_65 rfl (lv_at hl 0 rfl) ?_
      refine lv_icmp_ne (tgt := 73) hx hb dX10_fitsShape_66 (by decide) (fun z7 => ?_) (fun z7 => ?_)
      · have h := ob_f h z7
        refine lv_iconst (v := 0) hx hb dX10_fitsShape_73 (by decide) ?_
        exact r_Z C0 hP hS bool_0 h dX10_fitsShape_74
      · have h := ob_t h z7
        refine lv_iconst (v := 1) hx hb dX10_fitsShape_69 (by decide) ?_
        refine lv_goto (tgt := 74) hx hb dX10_fitsShape_70 (by decide) ?_
        exact r_Z C0 hP hS bool_1 h dX10_fitsShape_74
set_option maxRecDepth 100000 in
set_option maxHeartbeats 4000000 in
theorem c_X10_fitsShape (l : Launch) (a0 : Int32) (a1 : Int32) {D : va_G} {ct : Nat → ClassId} {B : Nat} {Hb : Heap} {S : St} {V : Int32} (h : L_X10_fitsShape a0 a1 S = some V) : Met l yX10_fitsShape (Cond.code yX10_fitsShape cX10_fitsShape 2 (some .boolean) :: tG) { frames := 0, cells := 0, slots := 0, locals := 0 } (va_Pc [.int a0, .int a1] (MPK D ct B Hb S)) (qI D ct B Hb S V) 0 0 (AB B) := by
  refine mk_met (by decide +kernel) (Nat.le_of_ble_eq_true rfl) (fun p e s m args below meth c ls C0 hP hl _ => ?_)
  have h := ob_of h
  exact w_X10_fitsShape_0 l C0 a0 a1 S h hP va_S.rf (lv_sub hl [0, 1] rfl)
set_option maxRecDepth 100000 in
set_option maxHeartbeats 4000000 in
theorem w_X11_isNobody_15 (l : Launch) {V : Int32} (C0 : XC D ct p s m args meth c cX11_isNobody 2 (some .boolean) RX11) (S : St) {H : Heap} {locs : List Loc} {ls : Array Slot} (h : (b_X11_isNobody_15 S).bind some = some V) (hP : MP D ct B Hb S H) (hS : va_S (AB B) s.heap H locs) (hl : lv_has ls 2 []) : W p l e { frames := 0, cells := 0, slots := 0, locals := 0 } s m args below meth c H locs 0 0 (MQ below (qI D ct B Hb S V) args s 0 0 (AB B)) (F0 m 15 ls []) := by
  obtain ⟨hx, hb, hr, hml, hown, hts, hK, hlocks, hN⟩ := id C0
  unfold b_X11_isNobody_15 at h
  refine lv_iconst (v := 1) hx hb dX11_isNobody_15 (by decide) ?_
  refine lv_goto (tgt := 20) hx hb dX11_isNobody_16 (by decide) ?_
  exact r_Z C0 hP hS bool_1 h dX11_isNobody_20
set_option maxRecDepth 100000 in
set_option maxHeartbeats 4000000 in
theorem w_X11_isNobody_0 (l : Launch) {V : Int32} (C0 : XC D ct p s m args meth c cX11_isNobody 2 (some .boolean) RX11) (v1 : Int32) (S : St) {H : Heap} {locs : List Loc} {ls : Array Slot} (h : (b_X11_isNobody_0 v1 S).bind some = some V) (hP : MP D ct B Hb S H) (hS : va_S (AB B) s.heap H locs) (hl : lv_has ls 2 [(0, .ref (B + 0)), (1, .int v1)]) : W p l e { frames := 0, cells := 0, slots := 0, locals := 0 } s m args below meth c H locs 0 0 (MQ below (qI D ct B Hb S V) args s 0 0 (AB B)) (F0 m 0 ls []) := by
  obtain ⟨hx, hb, hr, hml, hown, hts, hK, hlocks, hN⟩ := id C0
  unfold b_X11_isNobody_0 at h
  refine lv_iload_n hx hb dX11_isNobody_0 rfl (lv_at hl 1 rfl) ?_
  refine lv_if_lt (tgt := 15) hx hb dX11_isNobody_1 (by decide) (fun z1 => ?_) (fun z1 => ?_)
  · have h := ob_t h z1
    exact w_X11_isNobody_15 l C0 S h hP hS (lv_sub hl [] rfl)
  · have h := ob_f h z1
    refine lv_iload_n hx hb dX11_isNobody_4 rfl (lv_at hl 1 rfl) ?_
    refine lv_aload_n hx hb dX11_isNobody_5 rfl (lv_at hl 0 rfl) ?_
    refine x_get C0 hP (lay_X11 B ct S) rfl inG11 0 (by decide) wd_212 (fun _ h => h) rfl dX11_isNobody_6 ?_
    refine x_get C0 hP (lay_X10 B ct S (Or.inl rfl)) rfl inG10 0 (by decide) wd_61 (fun _ h => h) rfl dX11_isNobody_9 ?_
    refine lv_icmp_lt (tgt := 19) hx hb dX11_isNobody_12 (by decide) (fun z2 => ?_) (fun z2 => ?_)
    · have h := ob_t h z2
      refine lv_iconst (v := 0) hx hb dX11_isNobody_19 (by decide) ?_
      exact r_Z C0 hP hS bool_0 h dX11_isNobody_20
    · have h := ob_f h z2
      exact w_X11_isNobody_15 l C0 S h hP hS (lv_sub hl [] rfl)
set_option maxRecDepth 100000 in
set_option maxHeartbeats 4000000 in
theorem c_X11_isNobody (l : Launch) (a1 : Int32) {D : va_G} {ct : Nat → ClassId} {B : Nat} {Hb : Heap} {S : St} {V : Int32} (h : L_X11_isNobody a1 S = some V) : Met l yX11_isNobody (Cond.code yX11_isNobody cX11_isNobody 2 (some .boolean) :: tG) { frames := 0, cells := 0, slots := 0, locals := 0 } (va_Pc [.ref (B + 0), .int a1] (MPK D ct B Hb S)) (qI D ct B Hb S V) 0 0 (AB B) := by
  refine mk_met (by decide +kernel) (Nat.le_of_ble_eq_true rfl) (fun p e s m args below meth c ls C0 hP hl _ => ?_)
  have h := ob_of h
  exact w_X11_isNobody_0 l C0 a1 S h hP va_S.rf (lv_sub hl [0, 1] rfl)
set_option maxRecDepth 100000 in
set_option maxHeartbeats 4000000 in
theorem w_X11_person_0 (l : Launch) {V : Int32} (C0 : XC D ct p s m args meth c cX11_person 3 (some .int) RX11) (v1 : Int32) (v2 : Int32) (S : St) {H : Heap} {locs : List Loc} {ls : Array Slot} (h : (b_X11_person_0 v1 v2 S).bind some = some V) (hP : MP D ct B Hb S H) (hS : va_S (AB B) s.heap H locs) (hl : lv_has ls 3 [(0, .ref (B + 0)), (1, .int v1), (2, .int v2)]) : W p l e { frames := 2, cells := 0, slots := 0, locals := 42 } s m args below meth c H locs 0 0 (MQ below (qI D ct B Hb S V) args s 0 0 (AB B)) (F0 m 0 ls []) := by
  obtain ⟨hx, hb, hr, hml, hown, hts, hK, hlocks, hN⟩ := id C0
  unfold b_X11_person_0 at h
  refine lv_aload_n hx hb dX11_person_0 rfl (lv_at hl 0 rfl) ?_
  refine lv_iload_n hx hb dX11_person_1 rfl (lv_at hl 1 rfl) ?_
  obtain ⟨r1, hr1, h⟩ := ob_bd h
  refine n_I (kV (As := [.int v1]) C0 (c_X11_isNobody l v1 hr1) ⟨wd_620, wd_617, wd_619, wp_6, wd_1⟩ kd_X11_isNobody ⟨Nat.le_of_ble_eq_true rfl, Nat.le_of_ble_eq_true rfl⟩ hP (lay_X11 B ct S) rfl rfl hl.1 rfl (Nat.le_of_ble_eq_true rfl) dX11_person_2 ⟨Nat.le_of_ble_eq_true rfl, Nat.le_of_ble_eq_true rfl⟩) hS (fun H locs hP hS => ?_)
  refine lv_if_eq (tgt := 10) hx hb dX11_person_5 (by decide) (fun z2 => ?_) (fun z2 => ?_)
  · have h := ob_t h z2
    refine lv_iload_n hx hb dX11_person_10 rfl (lv_at hl 2 rfl) ?_
    rcases Decidable.em ((v2 : Int32) = 0) with z3 | z3
    · have h := ob_t h z3
      refine lv_tableIn (x := v2) (off := 41) (tgt := 52) hx hb dX11_person_11 (by rw [z3]; decide) (by rw [z3]; decide) (by rw [z3]; decide) (by decide) ?_
      refine lv_aload_n hx hb dX11_person_52 rfl (lv_at hl 0 rfl) ?_
      refine x_get C0 hP (lay_X11 B ct S) rfl inG11 0 (by decide) wd_212 (fun _ h => h) rfl dX11_person_53 ?_
      refine x_get C0 hP (lay_X10 B ct S (Or.inl rfl)) rfl inG10 1 (by decide) wd_64 (fun _ h => h) rfl dX11_person_56 ?_
      refine lv_iload_n hx hb dX11_person_59 rfl (lv_at hl 1 rfl) ?_
      obtain ⟨g4, h⟩ := ob_gd h
      obtain ⟨q5, eq5, h⟩ := ob_bd h
      refine x_aald (v := .ref (B + q5)) C0 hP ((fun S => lay_t1 B ct S (Or.inl rfl)) S) rfl rfl g4 (by show va_rf ((gr S (1 + 1) v1.toNatClampNeg).map (B + ·)) = _; rw [eq5]; rfl) dX11_person_60 ?_
      obtain ⟨k6, ek6, h⟩ := ob_bd h
      refine x_pl C0 hP ek6 0 (by decide) (Or.inl ⟨rfl, rfl⟩) wd_49 (fun _ h => h) rfl dX11_person_61 ?_
      exact r_I C0 hP hS h dX11_person_64
    · have h := ob_f h z3
      rcases Decidable.em ((v2 : Int32) = 1) with z7 | z7
      · have h := ob_t h z7
        refine lv_tableIn (x := v2) (off := 54) (tgt := 65) hx hb dX11_person_11 (by rw [z7]; decide) (by rw [z7]; decide) (by rw [z7]; decide) (by decide) ?_
        refine lv_aload_n hx hb dX11_person_65 rfl (lv_at hl 0 rfl) ?_
        refine x_get C0 hP (lay_X11 B ct S) rfl inG11 0 (by decide) wd_212 (fun _ h => h) rfl dX11_person_66 ?_
        refine x_get C0 hP (lay_X10 B ct S (Or.inl rfl)) rfl inG10 1 (by decide) wd_64 (fun _ h => h) rfl dX11_person_69 ?_
        refine lv_iload_n hx hb dX11_person_72 rfl (lv_at hl 1 rfl) ?_
        obtain ⟨g8, h⟩ := ob_gd h
        obtain ⟨q9, eq9, h⟩ := ob_bd h
        refine x_aald (v := .ref (B + q9)) C0 hP ((fun S => lay_t1 B ct S (Or.inl rfl)) S) rfl rfl g8 (by show va_rf ((gr S (1 + 1) v1.toNatClampNeg).map (B + ·)) = _; rw [eq9]; rfl) dX11_person_73 ?_
        obtain ⟨k10, ek10, h⟩ := ob_bd h
        refine x_pl C0 hP ek10 1 (by decide) (Or.inr ⟨rfl, rfl⟩) wd_53 (fun _ h => h) rfl dX11_person_74 ?_
        exact r_I C0 hP hS h dX11_person_77
      · have h := ob_f h z7
        rcases Decidable.em ((v2 : Int32) = 2) with z11 | z11
        · have h := ob_t h z11
          refine lv_tableIn (x := v2) (off := 67) (tgt := 78) hx hb dX11_person_11 (by rw [z11]; decide) (by rw [z11]; decide) (by rw [z11]; decide) (by decide) ?_
          refine lv_aload_n hx hb dX11_person_78 rfl (lv_at hl 0 rfl) ?_
          refine x_get C0 hP (lay_X11 B ct S) rfl inG11 0 (by decide) wd_212 (fun _ h => h) rfl dX11_person_79 ?_
          refine x_get C0 hP (lay_X10 B ct S (Or.inl rfl)) rfl inG10 2 (by decide) wd_66 (fun _ h => h) rfl dX11_person_82 ?_
          refine lv_iload_n hx hb dX11_person_85 rfl (lv_at hl 1 rfl) ?_
          obtain ⟨g12, h⟩ := ob_gd h
          refine x_iald C0 hP ((fun S => lay_t3 B ct S (Or.inl rfl)) S) g12 dX11_person_86 ?_
          exact r_I C0 hP hS h dX11_person_87
        · have h := ob_f h z11
          rcases Decidable.em ((v2 : Int32) = 3) with z13 | z13
          · have h := ob_t h z13
            refine lv_tableIn (x := v2) (off := 77) (tgt := 88) hx hb dX11_person_11 (by rw [z13]; decide) (by rw [z13]; decide) (by rw [z13]; decide) (by decide) ?_
            refine lv_aload_n hx hb dX11_person_88 rfl (lv_at hl 0 rfl) ?_
            refine x_get C0 hP (lay_X11 B ct S) rfl inG11 0 (by decide) wd_212 (fun _ h => h) rfl dX11_person_89 ?_
            refine x_get C0 hP (lay_X10 B ct S (Or.inl rfl)) rfl inG10 3 (by decide) wd_70 (fun _ h => h) rfl dX11_person_92 ?_
            refine lv_iload_n hx hb dX11_person_95 rfl (lv_at hl 1 rfl) ?_
            obtain ⟨g14, h⟩ := ob_gd h
            refine x_iald C0 hP ((fun S => lay_t4 B ct S (Or.inl rfl)) S) g14 dX11_person_96 ?_
            exact r_I C0 hP hS h dX11_person_97
          · have h := ob_f h z13
            rcases Decidable.em ((v2 : Int32) = 4) with z15 | z15
            · have h := ob_t h z15
              refine lv_tableIn (x := v2) (off := 87) (tgt := 98) hx hb dX11_person_11 (by rw [z15]; decide) (by rw [z15]; decide) (by rw [z15]; decide) (by decide) ?_
              refine lv_aload_n hx hb dX11_person_98 rfl (lv_at hl 0 rfl) ?_
              refine x_get C0 hP (lay_X11 B ct S) rfl inG11 0 (by decide) wd_212 (fun _ h => h) rfl dX11_person_99 ?_
              refine x_get C0 hP (lay_X10 B ct S (Or.inl rfl)) rfl inG10 1 (by decide) wd_64 (fun _ h => h) rfl dX11_person_102 ?_
              refine lv_iload_n hx hb dX11_person_105 rfl (lv_at hl 1 rfl) ?_
              obtain ⟨g16, h⟩ := ob_gd h
              obtain ⟨q17, eq17, h⟩ := ob_bd h
              refine x_aald (v := .ref (B + q17)) C0 hP ((fun S => lay_t1 B ct S (Or.inl rfl)) S) rfl rfl g16 (by show va_rf ((gr S (1 + 1) v1.toNatClampNeg).map (B + ·)) = _; rw [eq17]; rfl) dX11_person_106 ?_
              refine lv_aload_n hx hb dX11_person_107 rfl (lv_at hl 0 rfl) ?_
              refine x_get C0 hP (lay_X11 B ct S) rfl inG11 0 (by decide) wd_212 (fun _ h => h) rfl dX11_person_108 ?_
              refine x_get C0 hP (lay_X10 B ct S (Or.inl rfl)) rfl inG10 3 (by decide) wd_70 (fun _ h => h) rfl dX11_person_111 ?_
              refine lv_iload_n hx hb dX11_person_114 rfl (lv_at hl 1 rfl) ?_
              obtain ⟨g18, h⟩ := ob_gd h
              refine x_iald C0 hP ((fun S => lay_t4 B ct S (Or.inl rfl)) S) g18 dX11_person_115 ?_
              obtain ⟨r19, hr19, h⟩ := ob_bd h
              refine n_I (kv_dueWhenTold l C0 wd_818 q17 (gi S (1 + 4) v1.toNatClampNeg) hr19 ⟨Nat.le_of_ble_eq_true rfl, Nat.le_of_ble_eq_true rfl⟩ hP hl.1 rfl (Nat.le_of_ble_eq_true rfl) dX11_person_116) hS (fun H locs hP hS => ?_)
              exact r_I C0 hP hS h dX11_person_119
            · have h := ob_f h z15
              rcases Decidable.em ((v2 : Int32) = 5) with z20 | z20
              · have h := ob_t h z20
                refine lv_tableIn (x := v2) (off := 109) (tgt := 120) hx hb dX11_person_11 (by rw [z20]; decide) (by rw [z20]; decide) (by rw [z20]; decide) (by decide) ?_
                refine lv_aload_n hx hb dX11_person_120 rfl (lv_at hl 0 rfl) ?_
                refine x_get C0 hP (lay_X11 B ct S) rfl inG11 0 (by decide) wd_212 (fun _ h => h) rfl dX11_person_121 ?_
                refine x_get C0 hP (lay_X10 B ct S (Or.inl rfl)) rfl inG10 5 (by decide) wd_75 (fun _ h => h) rfl dX11_person_124 ?_
                refine lv_iload_n hx hb dX11_person_127 rfl (lv_at hl 1 rfl) ?_
                obtain ⟨g21, h⟩ := ob_gd h
                refine x_iald C0 hP ((fun S => lay_t6 B ct S (Or.inl rfl)) S) g21 dX11_person_128 ?_
                exact r_I C0 hP hS h dX11_person_129
              · have h := ob_f h z20
                rcases Decidable.em ((v2 : Int32) = 6) with z22 | z22
                · have h := ob_t h z22
                  refine lv_tableIn (x := v2) (off := 119) (tgt := 130) hx hb dX11_person_11 (by rw [z22]; decide) (by rw [z22]; decide) (by rw [z22]; decide) (by decide) ?_
                  refine lv_aload_n hx hb dX11_person_130 rfl (lv_at hl 0 rfl) ?_
                  refine x_get C0 hP (lay_X11 B ct S) rfl inG11 0 (by decide) wd_212 (fun _ h => h) rfl dX11_person_131 ?_
                  refine x_get C0 hP (lay_X10 B ct S (Or.inl rfl)) rfl inG10 4 (by decide) wd_72 (fun _ h => h) rfl dX11_person_134 ?_
                  refine lv_iload_n hx hb dX11_person_137 rfl (lv_at hl 1 rfl) ?_
                  obtain ⟨g23, h⟩ := ob_gd h
                  refine x_iald C0 hP ((fun S => lay_t5 B ct S (Or.inl rfl)) S) g23 dX11_person_138 ?_
                  refine lv_bipush (v := 9) hx hb dX11_person_139 (by decide) ?_
                  refine lv_iadd hx hb dX11_person_141 ?_
                  exact r_I C0 hP hS h dX11_person_142
                · have h := ob_f h z22
                  refine lv_tableOut (x := v2) (tgt := 143) hx hb dX11_person_11 (sw_0_7 z3 z7 z11 z13 z15 z20 z22) (by decide) ?_
                  refine lv_iconst (v := (-1)) hx hb dX11_person_143 (by decide) ?_
                  exact r_I C0 hP hS h dX11_person_144
  · have h := ob_f h z2
    refine lv_iconst (v := (-1)) hx hb dX11_person_8 (by decide) ?_
    exact r_I C0 hP hS h dX11_person_9
set_option maxRecDepth 100000 in
set_option maxHeartbeats 4000000 in
theorem c_X11_person (l : Launch) (a1 : Int32) (a2 : Int32) {D : va_G} {ct : Nat → ClassId} {B : Nat} {Hb : Heap} {S : St} {V : Int32} (h : L_X11_person a1 a2 S = some V) : Met l yX11_person (Cond.code yX11_person cX11_person 3 (some .int) :: tG) { frames := 2, cells := 0, slots := 0, locals := 42 } (va_Pc [.ref (B + 0), .int a1, .int a2] (MPK D ct B Hb S)) (qI D ct B Hb S V) 0 0 (AB B) := by
  refine mk_met (by decide +kernel) (Nat.le_of_ble_eq_true rfl) (fun p e s m args below meth c ls C0 hP hl _ => ?_)
  have h := ob_of h
  exact w_X11_person_0 l C0 a1 a2 S h hP va_S.rf (lv_sub hl [0, 1, 2] rfl)
set_option maxRecDepth 100000 in
set_option maxHeartbeats 4000000 in
theorem w_X11_strength_0 (l : Launch) {V : Int32} (C0 : XC D ct p s m args meth c cX11_strength 3 (some .int) RX11) (v1 : Int32) (v2 : Int32) (S : St) {H : Heap} {locs : List Loc} {ls : Array Slot} (h : (b_X11_strength_0 v1 v2 S).bind some = some V) (hP : MP D ct B Hb S H) (hS : va_S (AB B) s.heap H locs) (hl : lv_has ls 3 [(0, .ref (B + 0)), (1, .int v1), (2, .int v2)]) : W p l e { frames := 3, cells := 0, slots := 0, locals := 63 } s m args below meth c H locs 0 0 (MQ below (qI D ct B Hb S V) args s 0 0 (AB B)) (F0 m 0 ls []) := by
  obtain ⟨hx, hb, hr, hml, hown, hts, hK, hlocks, hN⟩ := id C0
  unfold b_X11_strength_0 at h
  refine lv_aload_n hx hb dX11_strength_0 rfl (lv_at hl 0 rfl) ?_
  refine lv_iload_n hx hb dX11_strength_1 rfl (lv_at hl 1 rfl) ?_
  obtain ⟨r1, hr1, h⟩ := ob_bd h
  refine n_I (kV (As := [.int v1]) C0 (c_X11_isNobody l v1 hr1) ⟨wd_620, wd_617, wd_619, wp_6, wd_1⟩ kd_X11_isNobody ⟨Nat.le_of_ble_eq_true rfl, Nat.le_of_ble_eq_true rfl⟩ hP (lay_X11 B ct S) rfl rfl hl.1 rfl (Nat.le_of_ble_eq_true rfl) dX11_strength_2 ⟨Nat.le_of_ble_eq_true rfl, Nat.le_of_ble_eq_true rfl⟩) hS (fun H locs hP hS => ?_)
  refine lv_if_ne (tgt := 21) hx hb dX11_strength_5 (by decide) (fun z2 => ?_) (fun z2 => ?_)
  · have h := ob_f h z2
    refine lv_iconst (v := (-1)) hx hb dX11_strength_21 (by decide) ?_
    exact r_I C0 hP hS h dX11_strength_22
  · have h := ob_t h z2
    refine lv_iload_n hx hb dX11_strength_8 rfl (lv_at hl 2 rfl) ?_
    refine lv_sipush (v := (-999)) hx hb dX11_strength_9 (by decide) ?_
    refine lv_sipush (v := 999) hx hb dX11_strength_12 (by decide) ?_
    obtain ⟨r3, hr3, h⟩ := ob_bd h
    refine n_I (kS (As := [.int v2, .int ((-999)), .int 999]) C0 (c_X11_isOut l v2 ((-999)) 999 hr3) ⟨wd_338, wd_347, wd_337, wd_1⟩ kd_X11_isOut ⟨Nat.le_of_ble_eq_true rfl, Nat.le_of_ble_eq_true rfl⟩ hP rfl hl.1 rfl (Nat.le_of_ble_eq_true rfl) dX11_strength_15 ⟨Nat.le_of_ble_eq_true rfl, Nat.le_of_ble_eq_true rfl⟩) hS (fun H locs hP hS => ?_)
    refine lv_if_eq (tgt := 23) hx hb dX11_strength_18 (by decide) (fun z4 => ?_) (fun z4 => ?_)
    · have h := ob_t h z4
      refine lv_aload_n hx hb dX11_strength_23 rfl (lv_at hl 0 rfl) ?_
      refine x_get C0 hP (lay_X11 B ct S) rfl inG11 0 (by decide) wd_212 (fun _ h => h) rfl dX11_strength_24 ?_
      refine x_get C0 hP (lay_X10 B ct S (Or.inl rfl)) rfl inG10 1 (by decide) wd_64 (fun _ h => h) rfl dX11_strength_27 ?_
      refine lv_iload_n hx hb dX11_strength_30 rfl (lv_at hl 1 rfl) ?_
      obtain ⟨g5, h⟩ := ob_gd h
      obtain ⟨q6, eq6, h⟩ := ob_bd h
      refine x_aald (v := .ref (B + q6)) C0 hP ((fun S => lay_t1 B ct S (Or.inl rfl)) S) rfl rfl g5 (by show va_rf ((gr S (1 + 1) v1.toNatClampNeg).map (B + ·)) = _; rw [eq6]; rfl) dX11_strength_31 ?_
      refine lv_iload_n hx hb dX11_strength_32 rfl (lv_at hl 2 rfl) ?_
      obtain ⟨r7, hr7, h⟩ := ob_bd h
      refine n_I (kv_strengthOf l C0 wd_823 q6 v2 hr7 ⟨Nat.le_of_ble_eq_true rfl, Nat.le_of_ble_eq_true rfl⟩ hP hl.1 rfl (Nat.le_of_ble_eq_true rfl) dX11_strength_33) hS (fun H locs hP hS => ?_)
      exact r_I C0 hP hS h dX11_strength_36
    · have h := ob_f h z4
      refine lv_iconst (v := (-1)) hx hb dX11_strength_21 (by decide) ?_
      exact r_I C0 hP hS h dX11_strength_22
set_option maxRecDepth 100000 in
set_option maxHeartbeats 4000000 in
theorem c_X11_strength (l : Launch) (a1 : Int32) (a2 : Int32) {D : va_G} {ct : Nat → ClassId} {B : Nat} {Hb : Heap} {S : St} {V : Int32} (h : L_X11_strength a1 a2 S = some V) : Met l yX11_strength (Cond.code yX11_strength cX11_strength 3 (some .int) :: tG) { frames := 3, cells := 0, slots := 0, locals := 63 } (va_Pc [.ref (B + 0), .int a1, .int a2] (MPK D ct B Hb S)) (qI D ct B Hb S V) 0 0 (AB B) := by
  refine mk_met (by decide +kernel) (Nat.le_of_ble_eq_true rfl) (fun p e s m args below meth c ls C0 hP hl _ => ?_)
  have h := ob_of h
  exact w_X11_strength_0 l C0 a1 a2 S h hP va_S.rf (lv_sub hl [0, 1, 2] rfl)
set_option maxRecDepth 100000 in
set_option maxHeartbeats 4000000 in
theorem w_X11_isNoShelf_10 (l : Launch) {V : Int32} (C0 : XC D ct p s m args meth c cX11_isNoShelf 1 (some .boolean) RX11) (S : St) {H : Heap} {locs : List Loc} {ls : Array Slot} (h : (b_X11_isNoShelf_10 S).bind some = some V) (hP : MP D ct B Hb S H) (hS : va_S (AB B) s.heap H locs) (hl : lv_has ls 1 []) : W p l e { frames := 0, cells := 0, slots := 0, locals := 0 } s m args below meth c H locs 0 0 (MQ below (qI D ct B Hb S V) args s 0 0 (AB B)) (F0 m 10 ls []) := by
  obtain ⟨hx, hb, hr, hml, hown, hts, hK, hlocks, hN⟩ := id C0
  unfold b_X11_isNoShelf_10 at h
  refine lv_iconst (v := 1) hx hb dX11_isNoShelf_10 (by decide) ?_
  refine lv_goto (tgt := 15) hx hb dX11_isNoShelf_11 (by decide) ?_
  exact r_Z C0 hP hS bool_1 h dX11_isNoShelf_15
set_option maxRecDepth 100000 in
set_option maxHeartbeats 4000000 in
theorem w_X11_isNoShelf_0 (l : Launch) {V : Int32} (C0 : XC D ct p s m args meth c cX11_isNoShelf 1 (some .boolean) RX11) (v0 : Int32) (S : St) {H : Heap} {locs : List Loc} {ls : Array Slot} (h : (b_X11_isNoShelf_0 v0 S).bind some = some V) (hP : MP D ct B Hb S H) (hS : va_S (AB B) s.heap H locs) (hl : lv_has ls 1 [(0, .int v0)]) : W p l e { frames := 0, cells := 0, slots := 0, locals := 0 } s m args below meth c H locs 0 0 (MQ below (qI D ct B Hb S V) args s 0 0 (AB B)) (F0 m 0 ls []) := by
  obtain ⟨hx, hb, hr, hml, hown, hts, hK, hlocks, hN⟩ := id C0
  unfold b_X11_isNoShelf_0 at h
  refine lv_iload_n hx hb dX11_isNoShelf_0 rfl (lv_at hl 0 rfl) ?_
  refine lv_if_lt (tgt := 10) hx hb dX11_isNoShelf_1 (by decide) (fun z1 => ?_) (fun z1 => ?_)
  · have h := ob_t h z1
    exact w_X11_isNoShelf_10 l C0 S h hP hS (lv_sub hl [] rfl)
  · have h := ob_f h z1
    refine lv_iload_n hx hb dX11_isNoShelf_4 rfl (lv_at hl 0 rfl) ?_
    refine lv_bipush (v := 8) hx hb dX11_isNoShelf_5 (by decide) ?_
    refine lv_icmp_lt (tgt := 14) hx hb dX11_isNoShelf_7 (by decide) (fun z2 => ?_) (fun z2 => ?_)
    · have h := ob_t h z2
      refine lv_iconst (v := 0) hx hb dX11_isNoShelf_14 (by decide) ?_
      exact r_Z C0 hP hS bool_0 h dX11_isNoShelf_15
    · have h := ob_f h z2
      exact w_X11_isNoShelf_10 l C0 S h hP hS (lv_sub hl [] rfl)
set_option maxRecDepth 100000 in
set_option maxHeartbeats 4000000 in
theorem c_X11_isNoShelf (l : Launch) (a0 : Int32) {D : va_G} {ct : Nat → ClassId} {B : Nat} {Hb : Heap} {S : St} {V : Int32} (h : L_X11_isNoShelf a0 S = some V) : Met l yX11_isNoShelf (Cond.code yX11_isNoShelf cX11_isNoShelf 1 (some .boolean) :: tG) { frames := 0, cells := 0, slots := 0, locals := 0 } (va_Pc [.int a0] (MPK D ct B Hb S)) (qI D ct B Hb S V) 0 0 (AB B) := by
  refine mk_met (by decide +kernel) (Nat.le_of_ble_eq_true rfl) (fun p e s m args below meth c ls C0 hP hl _ => ?_)
  have h := ob_of h
  exact w_X11_isNoShelf_0 l C0 a0 S h hP va_S.rf (lv_sub hl [0] rfl)
set_option maxRecDepth 100000 in
set_option maxHeartbeats 4000000 in
theorem w_X11_shelfRefusal_0 (l : Launch) {V : Int32} (C0 : XC D ct p s m args meth c cX11_shelfRefusal 3 (some .int) RX11) (v1 : Int32) (v2 : Int32) (S : St) {H : Heap} {locs : List Loc} {ls : Array Slot} (h : (b_X11_shelfRefusal_0 v1 v2 S).bind some = some V) (hP : MP D ct B Hb S H) (hS : va_S (AB B) s.heap H locs) (hl : lv_has ls 3 [(0, .ref (B + 0)), (1, .int v1), (2, .int v2)]) : W p l e { frames := 1, cells := 0, slots := 0, locals := 20 } s m args below meth c H locs 0 0 (MQ below (qI D ct B Hb S V) args s 0 0 (AB B)) (F0 m 0 ls []) := by
  obtain ⟨hx, hb, hr, hml, hown, hts, hK, hlocks, hN⟩ := id C0
  unfold b_X11_shelfRefusal_0 at h
  refine lv_iload_n hx hb dX11_shelfRefusal_0 rfl (lv_at hl 1 rfl) ?_
  obtain ⟨r1, hr1, h⟩ := ob_bd h
  refine n_I (kS (As := [.int v1]) C0 (c_X11_isNoShelf l v1 hr1) ⟨wd_354, wd_352, wd_353, wd_1⟩ kd_X11_isNoShelf ⟨Nat.le_of_ble_eq_true rfl, Nat.le_of_ble_eq_true rfl⟩ hP rfl hl.1 rfl (Nat.le_of_ble_eq_true rfl) dX11_shelfRefusal_1 ⟨Nat.le_of_ble_eq_true rfl, Nat.le_of_ble_eq_true rfl⟩) hS (fun H locs hP hS => ?_)
  refine lv_if_eq (tgt := 9) hx hb dX11_shelfRefusal_4 (by decide) (fun z2 => ?_) (fun z2 => ?_)
  · have h := ob_t h z2
    refine lv_aload_n hx hb dX11_shelfRefusal_9 rfl (lv_at hl 0 rfl) ?_
    refine x_get C0 hP (lay_X11 B ct S) rfl inG11 5 (by decide) wd_217 (fun _ h => h) rfl dX11_shelfRefusal_10 ?_
    refine lv_iload_n hx hb dX11_shelfRefusal_13 rfl (lv_at hl 1 rfl) ?_
    obtain ⟨g3, h⟩ := ob_gd h
    refine x_iald C0 hP ((fun S => lay_66 B ct S) S) g3 dX11_shelfRefusal_14 ?_
    refine lv_if_ne (tgt := 21) hx hb dX11_shelfRefusal_15 (by decide) (fun z4 => ?_) (fun z4 => ?_)
    · have h := ob_f h z4
      refine lv_aload_n hx hb dX11_shelfRefusal_21 rfl (lv_at hl 0 rfl) ?_
      refine x_get C0 hP (lay_X11 B ct S) rfl inG11 5 (by decide) wd_217 (fun _ h => h) rfl dX11_shelfRefusal_22 ?_
      refine lv_iload_n hx hb dX11_shelfRefusal_25 rfl (lv_at hl 1 rfl) ?_
      obtain ⟨g5, h⟩ := ob_gd h
      refine x_iald C0 hP ((fun S => lay_66 B ct S) S) g5 dX11_shelfRefusal_26 ?_
      refine lv_iload_n hx hb dX11_shelfRefusal_27 rfl (lv_at hl 2 rfl) ?_
      refine lv_icmp_ne (tgt := 35) hx hb dX11_shelfRefusal_28 (by decide) (fun z6 => ?_) (fun z6 => ?_)
      · have h := ob_f h z6
        refine lv_bipush (v := (-12)) hx hb dX11_shelfRefusal_35 (by decide) ?_
        exact r_I C0 hP hS h dX11_shelfRefusal_37
      · have h := ob_t h z6
        refine lv_iconst (v := 0) hx hb dX11_shelfRefusal_31 (by decide) ?_
        refine lv_goto (tgt := 37) hx hb dX11_shelfRefusal_32 (by decide) ?_
        exact r_I C0 hP hS h dX11_shelfRefusal_37
    · have h := ob_t h z4
      refine lv_bipush (v := (-11)) hx hb dX11_shelfRefusal_18 (by decide) ?_
      exact r_I C0 hP hS h dX11_shelfRefusal_20
  · have h := ob_f h z2
    refine lv_iconst (v := (-1)) hx hb dX11_shelfRefusal_7 (by decide) ?_
    exact r_I C0 hP hS h dX11_shelfRefusal_8
set_option maxRecDepth 100000 in
set_option maxHeartbeats 4000000 in
theorem c_X11_shelfRefusal (l : Launch) (a1 : Int32) (a2 : Int32) {D : va_G} {ct : Nat → ClassId} {B : Nat} {Hb : Heap} {S : St} {V : Int32} (h : L_X11_shelfRefusal a1 a2 S = some V) : Met l yX11_shelfRefusal (Cond.code yX11_shelfRefusal cX11_shelfRefusal 3 (some .int) :: tG) { frames := 1, cells := 0, slots := 0, locals := 20 } (va_Pc [.ref (B + 0), .int a1, .int a2] (MPK D ct B Hb S)) (qI D ct B Hb S V) 0 0 (AB B) := by
  refine mk_met (by decide +kernel) (Nat.le_of_ble_eq_true rfl) (fun p e s m args below meth c ls C0 hP hl _ => ?_)
  have h := ob_of h
  exact w_X11_shelfRefusal_0 l C0 a1 a2 S h hP va_S.rf (lv_sub hl [0, 1, 2] rfl)
end WALKS
