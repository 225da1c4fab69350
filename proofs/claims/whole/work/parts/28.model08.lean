theorem dX12_turn_0 : decode cX12_turn 0 = .ok (.aload_n 0, 1) := by decide +kernel
theorem dX12_turn_1 : decode cX12_turn 1 = .ok (.iconst 0, 1) := by decide +kernel
theorem dX12_turn_2 : decode cX12_turn 2 = .ok (.putfield 160, 3) := by decide +kernel
theorem dX12_turn_5 : decode cX12_turn 5 = .ok (.iload_n 1, 1) := by decide +kernel
theorem dX12_turn_6 : decode cX12_turn 6 = .ok (.i2l, 1) := by decide +kernel
theorem dX12_turn_7 : decode cX12_turn 7 = .ok (.lconst 0, 1) := by decide +kernel
theorem dX12_turn_8 : decode cX12_turn 8 = .ok (.iconst 1, 1) := by decide +kernel
theorem dX12_turn_9 : decode cX12_turn 9 = .ok (.aload_n 0, 1) := by decide +kernel
theorem dX12_turn_10 : decode cX12_turn 10 = .ok (.getfield 171, 3) := by decide +kernel
theorem dX12_turn_13 : decode cX12_turn 13 = .ok (.ishl, 1) := by decide +kernel
theorem dX12_turn_14 : decode cX12_turn 14 = .ok (.iconst 1, 1) := by decide +kernel
theorem dX12_turn_15 : decode cX12_turn 15 = .ok (.isub, 1) := by decide +kernel
theorem dX12_turn_16 : decode cX12_turn 16 = .ok (.i2l, 1) := by decide +kernel
theorem dX12_turn_17 : decode cX12_turn 17 = .ok (.invokestatic 165, 3) := by decide +kernel
theorem dX12_turn_20 : decode cX12_turn 20 = .ok (.ifCond .eq 13, 3) := by decide +kernel
theorem dX12_turn_23 : decode cX12_turn 23 = .ok (.iload_n 2, 1) := by decide +kernel
theorem dX12_turn_24 : decode cX12_turn 24 = .ok (.i2l, 1) := by decide +kernel
theorem dX12_turn_25 : decode cX12_turn 25 = .ok (.lconst 0, 1) := by decide +kernel
theorem dX12_turn_26 : decode cX12_turn 26 = .ok (.lconst 1, 1) := by decide +kernel
theorem dX12_turn_27 : decode cX12_turn 27 = .ok (.invokestatic 165, 3) := by decide +kernel
theorem dX12_turn_30 : decode cX12_turn 30 = .ok (.ifCond .ne 5, 3) := by decide +kernel
theorem dX12_turn_33 : decode cX12_turn 33 = .ok (.iconst (-1), 1) := by decide +kernel
theorem dX12_turn_34 : decode cX12_turn 34 = .ok (.ireturn, 1) := by decide +kernel
theorem dX12_turn_35 : decode cX12_turn 35 = .ok (.aload_n 0, 1) := by decide +kernel
theorem dX12_turn_36 : decode cX12_turn 36 = .ok (.iload_n 1, 1) := by decide +kernel
theorem dX12_turn_37 : decode cX12_turn 37 = .ok (.invokevirtual 400, 3) := by decide +kernel
theorem dX12_turn_40 : decode cX12_turn 40 = .ok (.ifCond .eq 14, 3) := by decide +kernel
theorem dX12_turn_43 : decode cX12_turn 43 = .ok (.iload_n 2, 1) := by decide +kernel
theorem dX12_turn_44 : decode cX12_turn 44 = .ok (.ifCond .ne 7, 3) := by decide +kernel
theorem dX12_turn_47 : decode cX12_turn 47 = .ok (.iconst 0, 1) := by decide +kernel
theorem dX12_turn_48 : decode cX12_turn 48 = .ok (.goto 5, 3) := by decide +kernel
theorem dX12_turn_51 : decode cX12_turn 51 = .ok (.bipush (-4), 2) := by decide +kernel
theorem dX12_turn_53 : decode cX12_turn 53 = .ok (.ireturn, 1) := by decide +kernel
theorem dX12_turn_54 : decode cX12_turn 54 = .ok (.iconst 0, 1) := by decide +kernel
theorem dX12_turn_55 : decode cX12_turn 55 = .ok (.istore_n 3, 1) := by decide +kernel
theorem dX12_turn_56 : decode cX12_turn 56 = .ok (.bipush (-4), 2) := by decide +kernel
theorem dX12_turn_58 : decode cX12_turn 58 = .ok (.istore 4, 2) := by decide +kernel
theorem dX12_turn_60 : decode cX12_turn 60 = .ok (.aload_n 0, 1) := by decide +kernel
theorem dX12_turn_61 : decode cX12_turn 61 = .ok (.getfield 232, 3) := by decide +kernel
theorem dX12_turn_64 : decode cX12_turn 64 = .ok (.iconst 3, 1) := by decide +kernel
theorem dX12_turn_65 : decode cX12_turn 65 = .ok (.if_icmp .ge 98, 3) := by decide +kernel
theorem dX12_turn_68 : decode cX12_turn 68 = .ok (.aload_n 0, 1) := by decide +kernel
theorem dX12_turn_69 : decode cX12_turn 69 = .ok (.iconst 0, 1) := by decide +kernel
theorem dX12_turn_70 : decode cX12_turn 70 = .ok (.iconst 1, 1) := by decide +kernel
theorem dX12_turn_71 : decode cX12_turn 71 = .ok (.iconst 1, 1) := by decide +kernel
theorem dX12_turn_72 : decode cX12_turn 72 = .ok (.iconst 0, 1) := by decide +kernel
theorem dX12_turn_73 : decode cX12_turn 73 = .ok (.iconst 0, 1) := by decide +kernel
theorem dX12_turn_74 : decode cX12_turn 74 = .ok (.invokevirtual 306, 3) := by decide +kernel
theorem dX12_turn_77 : decode cX12_turn 77 = .ok (.iconst 1, 1) := by decide +kernel
theorem dX12_turn_78 : decode cX12_turn 78 = .ok (.istore 5, 2) := by decide +kernel
theorem dX12_turn_80 : decode cX12_turn 80 = .ok (.iload 5, 2) := by decide +kernel
theorem dX12_turn_82 : decode cX12_turn 82 = .ok (.bipush 60, 2) := by decide +kernel
theorem dX12_turn_84 : decode cX12_turn 84 = .ok (.if_icmp .gt 69, 3) := by decide +kernel
theorem dX12_turn_87 : decode cX12_turn 87 = .ok (.iload 4, 2) := by decide +kernel
theorem dX12_turn_89 : decode cX12_turn 89 = .ok (.ifCond .ge 64, 3) := by decide +kernel
theorem dX12_turn_92 : decode cX12_turn 92 = .ok (.iconst 3, 1) := by decide +kernel
theorem dX12_turn_93 : decode cX12_turn 93 = .ok (.istore 6, 2) := by decide +kernel
theorem dX12_turn_95 : decode cX12_turn 95 = .ok (.iload 6, 2) := by decide +kernel
theorem dX12_turn_97 : decode cX12_turn 97 = .ok (.ifCond .lt 50, 3) := by decide +kernel
theorem dX12_turn_100 : decode cX12_turn 100 = .ok (.aload_n 0, 1) := by decide +kernel
theorem dX12_turn_101 : decode cX12_turn 101 = .ok (.getfield 41, 3) := by decide +kernel
theorem dX12_turn_104 : decode cX12_turn 104 = .ok (.aload_n 0, 1) := by decide +kernel
theorem dX12_turn_105 : decode cX12_turn 105 = .ok (.getfield 232, 3) := by decide +kernel
theorem dX12_turn_108 : decode cX12_turn 108 = .ok (.iconst 1, 1) := by decide +kernel
theorem dX12_turn_109 : decode cX12_turn 109 = .ok (.isub, 1) := by decide +kernel
theorem dX12_turn_110 : decode cX12_turn 110 = .ok (.iload 5, 2) := by decide +kernel
theorem dX12_turn_112 : decode cX12_turn 112 = .ok (.iastore, 1) := by decide +kernel
theorem dX12_turn_113 : decode cX12_turn 113 = .ok (.aload_n 0, 1) := by decide +kernel
theorem dX12_turn_114 : decode cX12_turn 114 = .ok (.getfield 35, 3) := by decide +kernel
theorem dX12_turn_117 : decode cX12_turn 117 = .ok (.aload_n 0, 1) := by decide +kernel
theorem dX12_turn_118 : decode cX12_turn 118 = .ok (.getfield 232, 3) := by decide +kernel
theorem dX12_turn_121 : decode cX12_turn 121 = .ok (.iconst 1, 1) := by decide +kernel
theorem dX12_turn_122 : decode cX12_turn 122 = .ok (.isub, 1) := by decide +kernel
theorem dX12_turn_123 : decode cX12_turn 123 = .ok (.iload 6, 2) := by decide +kernel
theorem dX12_turn_125 : decode cX12_turn 125 = .ok (.iastore, 1) := by decide +kernel
theorem dX12_turn_126 : decode cX12_turn 126 = .ok (.aload_n 0, 1) := by decide +kernel
theorem dX12_turn_127 : decode cX12_turn 127 = .ok (.iload_n 1, 1) := by decide +kernel
theorem dX12_turn_128 : decode cX12_turn 128 = .ok (.invokevirtual 400, 3) := by decide +kernel
theorem dX12_turn_131 : decode cX12_turn 131 = .ok (.ifCond .eq 10, 3) := by decide +kernel
theorem dX12_turn_134 : decode cX12_turn 134 = .ok (.iload 6, 2) := by decide +kernel
theorem dX12_turn_136 : decode cX12_turn 136 = .ok (.istore 4, 2) := by decide +kernel
theorem dX12_turn_138 : decode cX12_turn 138 = .ok (.iload 5, 2) := by decide +kernel
theorem dX12_turn_140 : decode cX12_turn 140 = .ok (.istore_n 3, 1) := by decide +kernel
theorem dX12_turn_141 : decode cX12_turn 141 = .ok (.iinc 6 (-1), 3) := by decide +kernel
theorem dX12_turn_144 : decode cX12_turn 144 = .ok (.goto (-49), 3) := by decide +kernel
theorem dX12_turn_147 : decode cX12_turn 147 = .ok (.iinc 5 1, 3) := by decide +kernel
theorem dX12_turn_150 : decode cX12_turn 150 = .ok (.goto (-70), 3) := by decide +kernel
theorem dX12_turn_153 : decode cX12_turn 153 = .ok (.aload_n 0, 1) := by decide +kernel
theorem dX12_turn_154 : decode cX12_turn 154 = .ok (.dup, 1) := by decide +kernel
theorem dX12_turn_155 : decode cX12_turn 155 = .ok (.getfield 232, 3) := by decide +kernel
theorem dX12_turn_158 : decode cX12_turn 158 = .ok (.iconst 1, 1) := by decide +kernel
theorem dX12_turn_159 : decode cX12_turn 159 = .ok (.isub, 1) := by decide +kernel
theorem dX12_turn_160 : decode cX12_turn 160 = .ok (.putfield 232, 3) := by decide +kernel
theorem dX12_turn_163 : decode cX12_turn 163 = .ok (.iload_n 2, 1) := by decide +kernel
theorem dX12_turn_164 : decode cX12_turn 164 = .ok (.iconst 1, 1) := by decide +kernel
theorem dX12_turn_165 : decode cX12_turn 165 = .ok (.if_icmp .eq 8, 3) := by decide +kernel
theorem dX12_turn_168 : decode cX12_turn 168 = .ok (.iload 4, 2) := by decide +kernel
theorem dX12_turn_170 : decode cX12_turn 170 = .ok (.ifCond .ge 8, 3) := by decide +kernel
theorem dX12_turn_173 : decode cX12_turn 173 = .ok (.iload 4, 2) := by decide +kernel
theorem dX12_turn_175 : decode cX12_turn 175 = .ok (.goto 4, 3) := by decide +kernel
theorem dX12_turn_178 : decode cX12_turn 178 = .ok (.iload_n 3, 1) := by decide +kernel
theorem dX12_turn_179 : decode cX12_turn 179 = .ok (.ireturn, 1) := by decide +kernel
theorem dX12_takeChoices_0 : decode cX12_takeChoices 0 = .ok (.aload_n 0, 1) := by decide +kernel
theorem dX12_takeChoices_1 : decode cX12_takeChoices 1 = .ok (.invokevirtual 362, 3) := by decide +kernel
theorem dX12_takeChoices_4 : decode cX12_takeChoices 4 = .ok (.iconst 0, 1) := by decide +kernel
theorem dX12_takeChoices_5 : decode cX12_takeChoices 5 = .ok (.istore_n 1, 1) := by decide +kernel
theorem dX12_takeChoices_6 : decode cX12_takeChoices 6 = .ok (.iload_n 1, 1) := by decide +kernel
theorem dX12_takeChoices_7 : decode cX12_takeChoices 7 = .ok (.bipush 8, 2) := by decide +kernel
theorem dX12_takeChoices_9 : decode cX12_takeChoices 9 = .ok (.if_icmp .ge 21, 3) := by decide +kernel
theorem dX12_takeChoices_12 : decode cX12_takeChoices 12 = .ok (.aload_n 0, 1) := by decide +kernel
theorem dX12_takeChoices_13 : decode cX12_takeChoices 13 = .ok (.getfield 145, 3) := by decide +kernel
theorem dX12_takeChoices_16 : decode cX12_takeChoices 16 = .ok (.iload_n 1, 1) := by decide +kernel
theorem dX12_takeChoices_17 : decode cX12_takeChoices 17 = .ok (.aload_n 0, 1) := by decide +kernel
theorem dX12_takeChoices_18 : decode cX12_takeChoices 18 = .ok (.getfield 94, 3) := by decide +kernel
theorem dX12_takeChoices_21 : decode cX12_takeChoices 21 = .ok (.iload_n 1, 1) := by decide +kernel
theorem dX12_takeChoices_22 : decode cX12_takeChoices 22 = .ok (.iaload, 1) := by decide +kernel
theorem dX12_takeChoices_23 : decode cX12_takeChoices 23 = .ok (.iastore, 1) := by decide +kernel
theorem dX12_takeChoices_24 : decode cX12_takeChoices 24 = .ok (.iinc 1 1, 3) := by decide +kernel
theorem dX12_takeChoices_27 : decode cX12_takeChoices 27 = .ok (.goto (-21), 3) := by decide +kernel
theorem dX12_takeChoices_30 : decode cX12_takeChoices 30 = .ok (.return_, 1) := by decide +kernel
theorem dX12_otherMany_0 : decode cX12_otherMany 0 = .ok (.aload_n 0, 1) := by decide +kernel
theorem dX12_otherMany_1 : decode cX12_otherMany 1 = .ok (.invokevirtual 362, 3) := by decide +kernel
theorem dX12_otherMany_4 : decode cX12_otherMany 4 = .ok (.iconst 0, 1) := by decide +kernel
theorem dX12_otherMany_5 : decode cX12_otherMany 5 = .ok (.istore_n 2, 1) := by decide +kernel
theorem dX12_otherMany_6 : decode cX12_otherMany 6 = .ok (.iconst 0, 1) := by decide +kernel
theorem dX12_otherMany_7 : decode cX12_otherMany 7 = .ok (.istore_n 3, 1) := by decide +kernel
theorem dX12_otherMany_8 : decode cX12_otherMany 8 = .ok (.iload_n 3, 1) := by decide +kernel
theorem dX12_otherMany_9 : decode cX12_otherMany 9 = .ok (.aload_n 0, 1) := by decide +kernel
theorem dX12_otherMany_10 : decode cX12_otherMany 10 = .ok (.getfield 171, 3) := by decide +kernel
theorem dX12_otherMany_13 : decode cX12_otherMany 13 = .ok (.if_icmp .ge 41, 3) := by decide +kernel
theorem dX12_otherMany_16 : decode cX12_otherMany 16 = .ok (.iload_n 2, 1) := by decide +kernel
theorem dX12_otherMany_17 : decode cX12_otherMany 17 = .ok (.iload_n 1, 1) := by decide +kernel
theorem dX12_otherMany_18 : decode cX12_otherMany 18 = .ok (.iload_n 3, 1) := by decide +kernel
theorem dX12_otherMany_19 : decode cX12_otherMany 19 = .ok (.ishr, 1) := by decide +kernel
theorem dX12_otherMany_20 : decode cX12_otherMany 20 = .ok (.iconst 1, 1) := by decide +kernel
theorem dX12_otherMany_21 : decode cX12_otherMany 21 = .ok (.iand, 1) := by decide +kernel
theorem dX12_otherMany_22 : decode cX12_otherMany 22 = .ok (.iconst 1, 1) := by decide +kernel
theorem dX12_otherMany_23 : decode cX12_otherMany 23 = .ok (.if_icmp .ne 22, 3) := by decide +kernel
theorem dX12_otherMany_26 : decode cX12_otherMany 26 = .ok (.aload_n 0, 1) := by decide +kernel
theorem dX12_otherMany_27 : decode cX12_otherMany 27 = .ok (.getfield 94, 3) := by decide +kernel
theorem dX12_otherMany_30 : decode cX12_otherMany 30 = .ok (.iload_n 3, 1) := by decide +kernel
theorem dX12_otherMany_31 : decode cX12_otherMany 31 = .ok (.iaload, 1) := by decide +kernel
theorem dX12_otherMany_32 : decode cX12_otherMany 32 = .ok (.aload_n 0, 1) := by decide +kernel
theorem dX12_otherMany_33 : decode cX12_otherMany 33 = .ok (.getfield 145, 3) := by decide +kernel
theorem dX12_otherMany_36 : decode cX12_otherMany 36 = .ok (.iload_n 3, 1) := by decide +kernel
theorem dX12_otherMany_37 : decode cX12_otherMany 37 = .ok (.iaload, 1) := by decide +kernel
theorem dX12_otherMany_38 : decode cX12_otherMany 38 = .ok (.if_icmp .eq 7, 3) := by decide +kernel
theorem dX12_otherMany_41 : decode cX12_otherMany 41 = .ok (.iconst 1, 1) := by decide +kernel
theorem dX12_otherMany_42 : decode cX12_otherMany 42 = .ok (.goto 4, 3) := by decide +kernel
theorem dX12_otherMany_45 : decode cX12_otherMany 45 = .ok (.iconst 0, 1) := by decide +kernel
theorem dX12_otherMany_46 : decode cX12_otherMany 46 = .ok (.iadd, 1) := by decide +kernel
theorem dX12_otherMany_47 : decode cX12_otherMany 47 = .ok (.istore_n 2, 1) := by decide +kernel
theorem dX12_otherMany_48 : decode cX12_otherMany 48 = .ok (.iinc 3 1, 3) := by decide +kernel
theorem dX12_otherMany_51 : decode cX12_otherMany 51 = .ok (.goto (-43), 3) := by decide +kernel
theorem dX12_otherMany_54 : decode cX12_otherMany 54 = .ok (.iload_n 2, 1) := by decide +kernel
theorem dX12_otherMany_55 : decode cX12_otherMany 55 = .ok (.ireturn, 1) := by decide +kernel
theorem dX12_guard_0 : decode cX12_guard 0 = .ok (.aload_n 0, 1) := by decide +kernel
theorem dX12_guard_1 : decode cX12_guard 1 = .ok (.iconst 0, 1) := by decide +kernel
theorem dX12_guard_2 : decode cX12_guard 2 = .ok (.putfield 160, 3) := by decide +kernel
theorem dX12_guard_5 : decode cX12_guard 5 = .ok (.iload_n 1, 1) := by decide +kernel
theorem dX12_guard_6 : decode cX12_guard 6 = .ok (.i2l, 1) := by decide +kernel
theorem dX12_guard_7 : decode cX12_guard 7 = .ok (.lconst 0, 1) := by decide +kernel
theorem dX12_guard_8 : decode cX12_guard 8 = .ok (.iconst 1, 1) := by decide +kernel
theorem dX12_guard_9 : decode cX12_guard 9 = .ok (.aload_n 0, 1) := by decide +kernel
theorem dX12_guard_10 : decode cX12_guard 10 = .ok (.getfield 171, 3) := by decide +kernel
theorem dX12_guard_13 : decode cX12_guard 13 = .ok (.ishl, 1) := by decide +kernel
theorem dX12_guard_14 : decode cX12_guard 14 = .ok (.iconst 1, 1) := by decide +kernel
theorem dX12_guard_15 : decode cX12_guard 15 = .ok (.isub, 1) := by decide +kernel
theorem dX12_guard_16 : decode cX12_guard 16 = .ok (.i2l, 1) := by decide +kernel
theorem dX12_guard_17 : decode cX12_guard 17 = .ok (.invokestatic 165, 3) := by decide +kernel
theorem dX12_guard_20 : decode cX12_guard 20 = .ok (.ifCond .ne 5, 3) := by decide +kernel
theorem dX12_guard_23 : decode cX12_guard 23 = .ok (.iconst (-1), 1) := by decide +kernel
theorem dX12_guard_24 : decode cX12_guard 24 = .ok (.ireturn, 1) := by decide +kernel
theorem dX12_guard_25 : decode cX12_guard 25 = .ok (.bipush (-4), 2) := by decide +kernel
theorem dX12_guard_27 : decode cX12_guard 27 = .ok (.istore_n 2, 1) := by decide +kernel
theorem dX12_guard_28 : decode cX12_guard 28 = .ok (.aload_n 0, 1) := by decide +kernel
theorem dX12_guard_29 : decode cX12_guard 29 = .ok (.getfield 29, 3) := by decide +kernel
theorem dX12_guard_32 : decode cX12_guard 32 = .ok (.istore_n 3, 1) := by decide +kernel
theorem dX12_guard_33 : decode cX12_guard 33 = .ok (.aload_n 0, 1) := by decide +kernel
theorem dX12_guard_34 : decode cX12_guard 34 = .ok (.getfield 232, 3) := by decide +kernel
theorem dX12_guard_37 : decode cX12_guard 37 = .ok (.istore 4, 2) := by decide +kernel
theorem dX12_guard_39 : decode cX12_guard 39 = .ok (.iconst 0, 1) := by decide +kernel
theorem dX12_guard_40 : decode cX12_guard 40 = .ok (.istore 5, 2) := by decide +kernel
theorem dX12_guard_42 : decode cX12_guard 42 = .ok (.iload 5, 2) := by decide +kernel
theorem dX12_guard_44 : decode cX12_guard 44 = .ok (.bipush 9, 2) := by decide +kernel
theorem dX12_guard_46 : decode cX12_guard 46 = .ok (.if_icmp .gt 50, 3) := by decide +kernel
theorem dX12_guard_49 : decode cX12_guard 49 = .ok (.iload_n 2, 1) := by decide +kernel
theorem dX12_guard_50 : decode cX12_guard 50 = .ok (.ifCond .ge 46, 3) := by decide +kernel
theorem dX12_guard_53 : decode cX12_guard 53 = .ok (.aload_n 0, 1) := by decide +kernel
theorem dX12_guard_54 : decode cX12_guard 54 = .ok (.iload 5, 2) := by decide +kernel
theorem dX12_guard_56 : decode cX12_guard 56 = .ok (.putfield 29, 3) := by decide +kernel
theorem dX12_guard_59 : decode cX12_guard 59 = .ok (.aload_n 0, 1) := by decide +kernel
theorem dX12_guard_60 : decode cX12_guard 60 = .ok (.iconst 0, 1) := by decide +kernel
theorem dX12_guard_61 : decode cX12_guard 61 = .ok (.putfield 232, 3) := by decide +kernel
theorem dX12_guard_64 : decode cX12_guard 64 = .ok (.aload_n 0, 1) := by decide +kernel
theorem dX12_guard_65 : decode cX12_guard 65 = .ok (.invokevirtual 403, 3) := by decide +kernel
theorem dX12_guard_68 : decode cX12_guard 68 = .ok (.aload_n 0, 1) := by decide +kernel
theorem dX12_guard_69 : decode cX12_guard 69 = .ok (.iload 4, 2) := by decide +kernel
theorem dX12_guard_71 : decode cX12_guard 71 = .ok (.putfield 232, 3) := by decide +kernel
theorem dX12_guard_74 : decode cX12_guard 74 = .ok (.aload_n 0, 1) := by decide +kernel
theorem dX12_guard_75 : decode cX12_guard 75 = .ok (.iload_n 1, 1) := by decide +kernel
theorem dX12_guard_76 : decode cX12_guard 76 = .ok (.invokevirtual 406, 3) := by decide +kernel
theorem dX12_guard_79 : decode cX12_guard 79 = .ok (.ifCond .ne 8, 3) := by decide +kernel
theorem dX12_guard_82 : decode cX12_guard 82 = .ok (.iload 5, 2) := by decide +kernel
theorem dX12_guard_84 : decode cX12_guard 84 = .ok (.goto 5, 3) := by decide +kernel
theorem dX12_guard_87 : decode cX12_guard 87 = .ok (.bipush (-4), 2) := by decide +kernel
theorem dX12_guard_89 : decode cX12_guard 89 = .ok (.istore_n 2, 1) := by decide +kernel
theorem dX12_guard_90 : decode cX12_guard 90 = .ok (.iinc 5 1, 3) := by decide +kernel
theorem dX12_guard_93 : decode cX12_guard 93 = .ok (.goto (-51), 3) := by decide +kernel
theorem dX12_guard_96 : decode cX12_guard 96 = .ok (.aload_n 0, 1) := by decide +kernel
theorem dX12_guard_97 : decode cX12_guard 97 = .ok (.iload_n 3, 1) := by decide +kernel
theorem dX12_guard_98 : decode cX12_guard 98 = .ok (.putfield 29, 3) := by decide +kernel
theorem dX12_guard_101 : decode cX12_guard 101 = .ok (.iload_n 2, 1) := by decide +kernel
theorem dX12_guard_102 : decode cX12_guard 102 = .ok (.ireturn, 1) := by decide +kernel
theorem dX12_law_0 : decode cX12_law 0 = .ok (.aload_n 0, 1) := by decide +kernel
theorem dX12_law_1 : decode cX12_law 1 = .ok (.iconst 0, 1) := by decide +kernel
theorem dX12_law_2 : decode cX12_law 2 = .ok (.putfield 160, 3) := by decide +kernel
theorem dX12_law_5 : decode cX12_law 5 = .ok (.iload_n 1, 1) := by decide +kernel
theorem dX12_law_6 : decode cX12_law 6 = .ok (.i2l, 1) := by decide +kernel
theorem dX12_law_7 : decode cX12_law 7 = .ok (.lconst 0, 1) := by decide +kernel
theorem dX12_law_8 : decode cX12_law 8 = .ok (.ldc2_w 342, 3) := by decide +kernel
theorem dX12_law_11 : decode cX12_law 11 = .ok (.invokestatic 165, 3) := by decide +kernel
theorem dX12_law_14 : decode cX12_law 14 = .ok (.ifCond .ne 5, 3) := by decide +kernel
theorem dX12_law_17 : decode cX12_law 17 = .ok (.iconst (-1), 1) := by decide +kernel
theorem dX12_law_18 : decode cX12_law 18 = .ok (.ireturn, 1) := by decide +kernel
theorem dX12_law_19 : decode cX12_law 19 = .ok (.aload_n 0, 1) := by decide +kernel
theorem dX12_law_20 : decode cX12_law 20 = .ok (.getfield 29, 3) := by decide +kernel
theorem dX12_law_23 : decode cX12_law 23 = .ok (.istore_n 2, 1) := by decide +kernel
theorem dX12_law_24 : decode cX12_law 24 = .ok (.aload_n 0, 1) := by decide +kernel
theorem dX12_law_25 : decode cX12_law 25 = .ok (.invokevirtual 403, 3) := by decide +kernel
theorem dX12_law_28 : decode cX12_law 28 = .ok (.aload_n 0, 1) := by decide +kernel
theorem dX12_law_29 : decode cX12_law 29 = .ok (.iload_n 1, 1) := by decide +kernel
theorem dX12_law_30 : decode cX12_law 30 = .ok (.putfield 29, 3) := by decide +kernel
theorem dX12_law_33 : decode cX12_law 33 = .ok (.aload_n 0, 1) := by decide +kernel
theorem dX12_law_34 : decode cX12_law 34 = .ok (.sipush 255, 3) := by decide +kernel
theorem dX12_law_37 : decode cX12_law 37 = .ok (.invokevirtual 406, 3) := by decide +kernel
theorem dX12_law_40 : decode cX12_law 40 = .ok (.istore_n 3, 1) := by decide +kernel
theorem dX12_law_41 : decode cX12_law 41 = .ok (.aload_n 0, 1) := by decide +kernel
theorem dX12_law_42 : decode cX12_law 42 = .ok (.iload_n 2, 1) := by decide +kernel
theorem dX12_law_43 : decode cX12_law 43 = .ok (.putfield 29, 3) := by decide +kernel
theorem dX12_law_46 : decode cX12_law 46 = .ok (.iload_n 3, 1) := by decide +kernel
theorem dX12_law_47 : decode cX12_law 47 = .ok (.ireturn, 1) := by decide +kernel
theorem dX12_bestRate_0 : decode cX12_bestRate 0 = .ok (.aload_n 0, 1) := by decide +kernel
theorem dX12_bestRate_1 : decode cX12_bestRate 1 = .ok (.iconst 0, 1) := by decide +kernel
theorem dX12_bestRate_2 : decode cX12_bestRate 2 = .ok (.putfield 160, 3) := by decide +kernel
theorem dX12_bestRate_5 : decode cX12_bestRate 5 = .ok (.aload_n 0, 1) := by decide +kernel
theorem dX12_bestRate_6 : decode cX12_bestRate 6 = .ok (.getfield 32, 3) := by decide +kernel
theorem dX12_bestRate_9 : decode cX12_bestRate 9 = .ok (.istore_n 1, 1) := by decide +kernel
theorem dX12_bestRate_10 : decode cX12_bestRate 10 = .ok (.iconst 1, 1) := by decide +kernel
theorem dX12_bestRate_11 : decode cX12_bestRate 11 = .ok (.istore_n 2, 1) := by decide +kernel
theorem dX12_bestRate_12 : decode cX12_bestRate 12 = .ok (.iconst (-1), 1) := by decide +kernel
theorem dX12_bestRate_13 : decode cX12_bestRate 13 = .ok (.istore_n 3, 1) := by decide +kernel
theorem dX12_bestRate_14 : decode cX12_bestRate 14 = .ok (.iconst 1, 1) := by decide +kernel
theorem dX12_bestRate_15 : decode cX12_bestRate 15 = .ok (.istore 4, 2) := by decide +kernel
theorem dX12_bestRate_17 : decode cX12_bestRate 17 = .ok (.iload 4, 2) := by decide +kernel
theorem dX12_bestRate_19 : decode cX12_bestRate 19 = .ok (.bipush 9, 2) := by decide +kernel
theorem dX12_bestRate_21 : decode cX12_bestRate 21 = .ok (.if_icmp .gt 51, 3) := by decide +kernel
theorem dX12_bestRate_24 : decode cX12_bestRate 24 = .ok (.aload_n 0, 1) := by decide +kernel
theorem dX12_bestRate_25 : decode cX12_bestRate 25 = .ok (.iload 4, 2) := by decide +kernel
theorem dX12_bestRate_27 : decode cX12_bestRate 27 = .ok (.putfield 32, 3) := by decide +kernel
theorem dX12_bestRate_30 : decode cX12_bestRate 30 = .ok (.aload_n 0, 1) := by decide +kernel
theorem dX12_bestRate_31 : decode cX12_bestRate 31 = .ok (.invokevirtual 362, 3) := by decide +kernel
theorem dX12_bestRate_34 : decode cX12_bestRate 34 = .ok (.aload_n 0, 1) := by decide +kernel
theorem dX12_bestRate_35 : decode cX12_bestRate 35 = .ok (.invokevirtual 374, 3) := by decide +kernel
theorem dX12_bestRate_38 : decode cX12_bestRate 38 = .ok (.istore 5, 2) := by decide +kernel
theorem dX12_bestRate_40 : decode cX12_bestRate 40 = .ok (.iload 5, 2) := by decide +kernel
theorem dX12_bestRate_42 : decode cX12_bestRate 42 = .ok (.iload_n 3, 1) := by decide +kernel
theorem dX12_bestRate_43 : decode cX12_bestRate 43 = .ok (.if_icmp .le 8, 3) := by decide +kernel
theorem dX12_bestRate_46 : decode cX12_bestRate 46 = .ok (.iload 4, 2) := by decide +kernel
theorem dX12_bestRate_48 : decode cX12_bestRate 48 = .ok (.goto 4, 3) := by decide +kernel
theorem dX12_bestRate_51 : decode cX12_bestRate 51 = .ok (.iload_n 2, 1) := by decide +kernel
theorem dX12_bestRate_52 : decode cX12_bestRate 52 = .ok (.istore_n 2, 1) := by decide +kernel
theorem dX12_bestRate_53 : decode cX12_bestRate 53 = .ok (.iload 5, 2) := by decide +kernel
theorem dX12_bestRate_55 : decode cX12_bestRate 55 = .ok (.iload_n 3, 1) := by decide +kernel
theorem dX12_bestRate_56 : decode cX12_bestRate 56 = .ok (.if_icmp .le 8, 3) := by decide +kernel
theorem dX12_bestRate_59 : decode cX12_bestRate 59 = .ok (.iload 5, 2) := by decide +kernel
theorem dX12_bestRate_61 : decode cX12_bestRate 61 = .ok (.goto 4, 3) := by decide +kernel
theorem dX12_bestRate_64 : decode cX12_bestRate 64 = .ok (.iload_n 3, 1) := by decide +kernel
theorem dX12_bestRate_65 : decode cX12_bestRate 65 = .ok (.istore_n 3, 1) := by decide +kernel
theorem dX12_bestRate_66 : decode cX12_bestRate 66 = .ok (.iinc 4 1, 3) := by decide +kernel
theorem dX12_bestRate_69 : decode cX12_bestRate 69 = .ok (.goto (-52), 3) := by decide +kernel
theorem dX12_bestRate_72 : decode cX12_bestRate 72 = .ok (.aload_n 0, 1) := by decide +kernel
theorem dX12_bestRate_73 : decode cX12_bestRate 73 = .ok (.iload_n 1, 1) := by decide +kernel
theorem dX12_bestRate_74 : decode cX12_bestRate 74 = .ok (.putfield 32, 3) := by decide +kernel
theorem dX12_bestRate_77 : decode cX12_bestRate 77 = .ok (.iload_n 2, 1) := by decide +kernel
theorem dX12_bestRate_78 : decode cX12_bestRate 78 = .ok (.ireturn, 1) := by decide +kernel
theorem dX12_bestOpen_0 : decode cX12_bestOpen 0 = .ok (.aload_n 0, 1) := by decide +kernel
theorem dX12_bestOpen_1 : decode cX12_bestOpen 1 = .ok (.iconst 0, 1) := by decide +kernel
theorem dX12_bestOpen_2 : decode cX12_bestOpen 2 = .ok (.putfield 160, 3) := by decide +kernel
theorem dX12_bestOpen_5 : decode cX12_bestOpen 5 = .ok (.aload_n 0, 1) := by decide +kernel
theorem dX12_bestOpen_6 : decode cX12_bestOpen 6 = .ok (.getfield 25, 3) := by decide +kernel
theorem dX12_bestOpen_9 : decode cX12_bestOpen 9 = .ok (.istore_n 1, 1) := by decide +kernel
theorem dX12_bestOpen_10 : decode cX12_bestOpen 10 = .ok (.iconst 0, 1) := by decide +kernel
theorem dX12_bestOpen_11 : decode cX12_bestOpen 11 = .ok (.istore_n 2, 1) := by decide +kernel
theorem dX12_bestOpen_12 : decode cX12_bestOpen 12 = .ok (.bipush 99, 2) := by decide +kernel
theorem dX12_bestOpen_14 : decode cX12_bestOpen 14 = .ok (.istore_n 3, 1) := by decide +kernel
theorem dX12_bestOpen_15 : decode cX12_bestOpen 15 = .ok (.iconst 0, 1) := by decide +kernel
theorem dX12_bestOpen_16 : decode cX12_bestOpen 16 = .ok (.istore 4, 2) := by decide +kernel
theorem dX12_bestOpen_18 : decode cX12_bestOpen 18 = .ok (.iload 4, 2) := by decide +kernel
theorem dX12_bestOpen_20 : decode cX12_bestOpen 20 = .ok (.bipush 24, 2) := by decide +kernel
theorem dX12_bestOpen_22 : decode cX12_bestOpen 22 = .ok (.if_icmp .ge 51, 3) := by decide +kernel
theorem dX12_bestOpen_25 : decode cX12_bestOpen 25 = .ok (.aload_n 0, 1) := by decide +kernel
theorem dX12_bestOpen_26 : decode cX12_bestOpen 26 = .ok (.iload 4, 2) := by decide +kernel
theorem dX12_bestOpen_28 : decode cX12_bestOpen 28 = .ok (.putfield 25, 3) := by decide +kernel
theorem dX12_bestOpen_31 : decode cX12_bestOpen 31 = .ok (.aload_n 0, 1) := by decide +kernel
theorem dX12_bestOpen_32 : decode cX12_bestOpen 32 = .ok (.invokevirtual 362, 3) := by decide +kernel
theorem dX12_bestOpen_35 : decode cX12_bestOpen 35 = .ok (.aload_n 0, 1) := by decide +kernel
theorem dX12_bestOpen_36 : decode cX12_bestOpen 36 = .ok (.invokevirtual 377, 3) := by decide +kernel
theorem dX12_bestOpen_39 : decode cX12_bestOpen 39 = .ok (.istore 5, 2) := by decide +kernel
theorem dX12_bestOpen_41 : decode cX12_bestOpen 41 = .ok (.iload 5, 2) := by decide +kernel
theorem dX12_bestOpen_43 : decode cX12_bestOpen 43 = .ok (.iload_n 3, 1) := by decide +kernel
theorem dX12_bestOpen_44 : decode cX12_bestOpen 44 = .ok (.if_icmp .ge 8, 3) := by decide +kernel
theorem dX12_bestOpen_47 : decode cX12_bestOpen 47 = .ok (.iload 4, 2) := by decide +kernel
theorem dX12_bestOpen_49 : decode cX12_bestOpen 49 = .ok (.goto 4, 3) := by decide +kernel
theorem dX12_bestOpen_52 : decode cX12_bestOpen 52 = .ok (.iload_n 2, 1) := by decide +kernel
theorem dX12_bestOpen_53 : decode cX12_bestOpen 53 = .ok (.istore_n 2, 1) := by decide +kernel
theorem dX12_bestOpen_54 : decode cX12_bestOpen 54 = .ok (.iload 5, 2) := by decide +kernel
theorem dX12_bestOpen_56 : decode cX12_bestOpen 56 = .ok (.iload_n 3, 1) := by decide +kernel
theorem dX12_bestOpen_57 : decode cX12_bestOpen 57 = .ok (.if_icmp .ge 8, 3) := by decide +kernel
theorem dX12_bestOpen_60 : decode cX12_bestOpen 60 = .ok (.iload 5, 2) := by decide +kernel
theorem dX12_bestOpen_62 : decode cX12_bestOpen 62 = .ok (.goto 4, 3) := by decide +kernel
theorem dX12_bestOpen_65 : decode cX12_bestOpen 65 = .ok (.iload_n 3, 1) := by decide +kernel
theorem dX12_bestOpen_66 : decode cX12_bestOpen 66 = .ok (.istore_n 3, 1) := by decide +kernel
theorem dX12_bestOpen_67 : decode cX12_bestOpen 67 = .ok (.iinc 4 1, 3) := by decide +kernel
theorem dX12_bestOpen_70 : decode cX12_bestOpen 70 = .ok (.goto (-52), 3) := by decide +kernel
theorem dX12_bestOpen_73 : decode cX12_bestOpen 73 = .ok (.aload_n 0, 1) := by decide +kernel
theorem dX12_bestOpen_74 : decode cX12_bestOpen 74 = .ok (.iload_n 1, 1) := by decide +kernel
theorem dX12_bestOpen_75 : decode cX12_bestOpen 75 = .ok (.putfield 25, 3) := by decide +kernel
theorem dX12_bestOpen_78 : decode cX12_bestOpen 78 = .ok (.iload_n 2, 1) := by decide +kernel
theorem dX12_bestOpen_79 : decode cX12_bestOpen 79 = .ok (.ireturn, 1) := by decide +kernel
theorem dX12_purse_0 : decode cX12_purse 0 = .ok (.aload_n 0, 1) := by decide +kernel
theorem dX12_purse_1 : decode cX12_purse 1 = .ok (.iconst 0, 1) := by decide +kernel
theorem dX12_purse_2 : decode cX12_purse 2 = .ok (.putfield 160, 3) := by decide +kernel
theorem dX12_purse_5 : decode cX12_purse 5 = .ok (.aload_n 0, 1) := by decide +kernel
theorem dX12_purse_6 : decode cX12_purse 6 = .ok (.iload_n 1, 1) := by decide +kernel
theorem dX12_purse_7 : decode cX12_purse 7 = .ok (.invokevirtual 337, 3) := by decide +kernel
theorem dX12_purse_10 : decode cX12_purse 10 = .ok (.ifCond .ne 5, 3) := by decide +kernel
theorem dX12_purse_13 : decode cX12_purse 13 = .ok (.iconst (-1), 1) := by decide +kernel
theorem dX12_purse_14 : decode cX12_purse 14 = .ok (.ireturn, 1) := by decide +kernel
theorem dX12_purse_15 : decode cX12_purse 15 = .ok (.aload_n 0, 1) := by decide +kernel
theorem dX12_purse_16 : decode cX12_purse 16 = .ok (.getfield 65, 3) := by decide +kernel
theorem dX12_purse_19 : decode cX12_purse 19 = .ok (.iload_n 1, 1) := by decide +kernel
theorem dX12_purse_20 : decode cX12_purse 20 = .ok (.iaload, 1) := by decide +kernel
theorem dX12_purse_21 : decode cX12_purse 21 = .ok (.istore_n 2, 1) := by decide +kernel
theorem dX12_purse_22 : decode cX12_purse 22 = .ok (.aload_n 0, 1) := by decide +kernel
theorem dX12_purse_23 : decode cX12_purse 23 = .ok (.getfield 65, 3) := by decide +kernel
theorem dX12_purse_26 : decode cX12_purse 26 = .ok (.iload_n 1, 1) := by decide +kernel
theorem dX12_purse_27 : decode cX12_purse 27 = .ok (.bipush 99, 2) := by decide +kernel
theorem dX12_purse_29 : decode cX12_purse 29 = .ok (.iastore, 1) := by decide +kernel
theorem dX12_purse_30 : decode cX12_purse 30 = .ok (.aload_n 0, 1) := by decide +kernel
theorem dX12_purse_31 : decode cX12_purse 31 = .ok (.iload_n 1, 1) := by decide +kernel
theorem dX12_purse_32 : decode cX12_purse 32 = .ok (.invokevirtual 383, 3) := by decide +kernel
theorem dX12_purse_35 : decode cX12_purse 35 = .ok (.istore_n 3, 1) := by decide +kernel
theorem dX12_purse_36 : decode cX12_purse 36 = .ok (.iconst (-1), 1) := by decide +kernel
theorem dX12_purse_37 : decode cX12_purse 37 = .ok (.istore 4, 2) := by decide +kernel
theorem dX12_purse_39 : decode cX12_purse 39 = .ok (.iconst 0, 1) := by decide +kernel
theorem dX12_purse_40 : decode cX12_purse 40 = .ok (.istore 5, 2) := by decide +kernel
theorem dX12_purse_42 : decode cX12_purse 42 = .ok (.iload 5, 2) := by decide +kernel
theorem dX12_purse_44 : decode cX12_purse 44 = .ok (.bipush 99, 2) := by decide +kernel
theorem dX12_purse_46 : decode cX12_purse 46 = .ok (.if_icmp .gt 39, 3) := by decide +kernel
theorem dX12_purse_49 : decode cX12_purse 49 = .ok (.iload 4, 2) := by decide +kernel
theorem dX12_purse_51 : decode cX12_purse 51 = .ok (.ifCond .ge 34, 3) := by decide +kernel
theorem dX12_purse_54 : decode cX12_purse 54 = .ok (.aload_n 0, 1) := by decide +kernel
theorem dX12_purse_55 : decode cX12_purse 55 = .ok (.getfield 65, 3) := by decide +kernel
theorem dX12_purse_58 : decode cX12_purse 58 = .ok (.iload_n 1, 1) := by decide +kernel
theorem dX12_purse_59 : decode cX12_purse 59 = .ok (.iload 5, 2) := by decide +kernel
theorem dX12_purse_61 : decode cX12_purse 61 = .ok (.iastore, 1) := by decide +kernel
theorem dX12_purse_62 : decode cX12_purse 62 = .ok (.aload_n 0, 1) := by decide +kernel
theorem dX12_purse_63 : decode cX12_purse 63 = .ok (.iload_n 1, 1) := by decide +kernel
theorem dX12_purse_64 : decode cX12_purse 64 = .ok (.invokevirtual 383, 3) := by decide +kernel
theorem dX12_purse_67 : decode cX12_purse 67 = .ok (.iload_n 3, 1) := by decide +kernel
theorem dX12_purse_68 : decode cX12_purse 68 = .ok (.if_icmp .ne 8, 3) := by decide +kernel
theorem dX12_purse_71 : decode cX12_purse 71 = .ok (.iload 5, 2) := by decide +kernel
theorem dX12_purse_73 : decode cX12_purse 73 = .ok (.goto 4, 3) := by decide +kernel
theorem dX12_purse_76 : decode cX12_purse 76 = .ok (.iconst (-1), 1) := by decide +kernel
theorem dX12_purse_77 : decode cX12_purse 77 = .ok (.istore 4, 2) := by decide +kernel
theorem dX12_purse_79 : decode cX12_purse 79 = .ok (.iinc 5 1, 3) := by decide +kernel
theorem dX12_purse_82 : decode cX12_purse 82 = .ok (.goto (-40), 3) := by decide +kernel
theorem dX12_purse_85 : decode cX12_purse 85 = .ok (.aload_n 0, 1) := by decide +kernel
theorem dX12_purse_86 : decode cX12_purse 86 = .ok (.getfield 65, 3) := by decide +kernel
theorem dX12_purse_89 : decode cX12_purse 89 = .ok (.iload_n 1, 1) := by decide +kernel
theorem dX12_purse_90 : decode cX12_purse 90 = .ok (.iload_n 2, 1) := by decide +kernel
theorem dX12_purse_91 : decode cX12_purse 91 = .ok (.iastore, 1) := by decide +kernel
theorem dX12_purse_92 : decode cX12_purse 92 = .ok (.iload 4, 2) := by decide +kernel
theorem dX12_purse_94 : decode cX12_purse 94 = .ok (.ireturn, 1) := by decide +kernel
theorem dX12_later_0 : decode cX12_later 0 = .ok (.iload_n 0, 1) := by decide +kernel
theorem dX12_later_1 : decode cX12_later 1 = .ok (.iload_n 1, 1) := by decide +kernel
theorem dX12_later_2 : decode cX12_later 2 = .ok (.iadd, 1) := by decide +kernel
theorem dX12_later_3 : decode cX12_later 3 = .ok (.bipush 23, 2) := by decide +kernel
theorem dX12_later_5 : decode cX12_later 5 = .ok (.if_icmp .le 8, 3) := by decide +kernel
theorem dX12_later_8 : decode cX12_later 8 = .ok (.bipush 23, 2) := by decide +kernel
theorem dX12_later_10 : decode cX12_later 10 = .ok (.goto 6, 3) := by decide +kernel
theorem dX12_later_13 : decode cX12_later 13 = .ok (.iload_n 0, 1) := by decide +kernel
theorem dX12_later_14 : decode cX12_later 14 = .ok (.iload_n 1, 1) := by decide +kernel
theorem dX12_later_15 : decode cX12_later 15 = .ok (.iadd, 1) := by decide +kernel
theorem dX12_later_16 : decode cX12_later 16 = .ok (.ireturn, 1) := by decide +kernel
def b_X12_turn_173 (v4 : Int32) (S : St) : Option (Int32 × St) := some (v4, S)
def b_X12_turn_163 (v2 : Int32) (v3 : Int32) (v4 : Int32) (S : St) : Option (Int32 × St) := (if (v2 : Int32) = 1 then (b_X12_turn_173 v4 S) else (if (0 : Int32) ≤ v4 then some (v3, S) else (b_X12_turn_173 v4 S)))
def b_X12_turn_153 (v2 : Int32) (v3 : Int32) (v4 : Int32) (S : St) : Option (Int32 × St) := nm (si S 136 9 ((gi S 136 9) - 1)) fun S1 => (b_X12_turn_163 v2 v3 v4 S1)
def b_X12_turn_147 (v1 : Int32) (v2 : Int32) (v3 : Int32) (v4 : Int32) (v5 : Int32) (S : St) : Option ((Int32 × Int32 × Int32 × Int32 × Int32 × St) ⊕ (Int32 × St)) := some (.inl (v1, v2, v3, v4, (v5 + 1), S))
def b_X12_turn_141 (v1 : Int32) (v2 : Int32) (v3 : Int32) (v4 : Int32) (v5 : Int32) (v6 : Int32) (S : St) : Option ((Int32 × Int32 × Int32 × Int32 × Int32 × Int32 × St) ⊕ ((Int32 × Int32 × Int32 × Int32 × Int32 × St) ⊕ (Int32 × St))) := some (.inl (v1, v2, v3, v4, v5, (v6 + (-1)), S))
def b_X12_turn_95 (v1 : Int32) (v2 : Int32) (v3 : Int32) (v4 : Int32) (v5 : Int32) (v6 : Int32) (S : St) : Option ((Int32 × Int32 × Int32 × Int32 × Int32 × Int32 × St) ⊕ ((Int32 × Int32 × Int32 × Int32 × Int32 × St) ⊕ (Int32 × St))) := (if (v6 : Int32) < 0 then ((b_X12_turn_147 v1 v2 v3 v4 v5 S).map Sum.inr) else gd (inb ((gi S 136 9) - 1) 4) (nm (si S 144 ((gi S 136 9) - 1).toNatClampNeg v5) fun S3 => gd (inb ((gi S3 136 9) - 1) 4) (nm (si S3 142 ((gi S3 136 9) - 1).toNatClampNeg v6) fun S5 => (L_X12_allYes v1 S5).bind fun r6 => (if (r6.1 : Int32) = 0 then (b_X12_turn_141 v1 v2 v3 v4 v5 v6 r6.2) else (b_X12_turn_141 v1 v2 v5 v6 v5 v6 r6.2)))))
def l_X12_turn_95 (x : (Int32 × Int32 × Int32 × Int32 × Int32 × Int32 × St)) : Option ((Int32 × Int32 × Int32 × Int32 × Int32 × Int32 × St) ⊕ ((Int32 × Int32 × Int32 × Int32 × Int32 × St) ⊕ (Int32 × St))) := b_X12_turn_95 x.1 x.2.1 x.2.2.1 x.2.2.2.1 x.2.2.2.2.1 x.2.2.2.2.2.1 x.2.2.2.2.2.2
def b_X12_turn_80 (v1 : Int32) (v2 : Int32) (v3 : Int32) (v4 : Int32) (v5 : Int32) (S : St) : Option ((Int32 × Int32 × Int32 × Int32 × Int32 × St) ⊕ (Int32 × St)) := (if (60 : Int32) < v5 then ((b_X12_turn_153 v2 v3 v4 S).map Sum.inr) else (if (0 : Int32) ≤ v4 then ((b_X12_turn_153 v2 v3 v4 S).map Sum.inr) else (lp 1000 (l_X12_turn_95) (v1, v2, v3, v4, v5, 3, S))))
def l_X12_turn_80 (x : (Int32 × Int32 × Int32 × Int32 × Int32 × St)) : Option ((Int32 × Int32 × Int32 × Int32 × Int32 × St) ⊕ (Int32 × St)) := b_X12_turn_80 x.1 x.2.1 x.2.2.1 x.2.2.2.1 x.2.2.2.2.1 x.2.2.2.2.2
def b_X12_turn_0 (v1 : Int32) (v2 : Int32) (S : St) : Option (Int32 × St) := nm (si S 136 28 0) fun S1 => (L_X12_in v1.toInt64 0 ((((1 : Int32) <<< ((gi S1 136 15) &&& 31)) - 1).toInt64) S1).bind fun r2 => (if (r2 : Int32) = 0 then some ((-1), S1) else (L_X12_in v2.toInt64 0 1 S1).bind fun r4 => (if (r4 : Int32) = 0 then some ((-1), S1) else (L_X12_allYes v1 S1).bind fun r6 => (if (r6.1 : Int32) = 0 then (if (3 : Int32) ≤ (gi r6.2 136 9) then (b_X12_turn_163 v2 0 ((-4)) r6.2) else (L_X12_plantComes 0 1 1 0 0 r6.2).bind fun r9 => (lp 1000 (l_X12_turn_80) (v1, v2, 0, ((-4)), 1, r9))) else (if (v2 : Int32) = 0 then some (0, r6.2) else some ((-4), r6.2)))))
def L_X12_turn (a1 : Int32) (a2 : Int32) (S : St) : Option (Int32 × St) := b_X12_turn_0 a1 a2 S
def b_X12_takeChoices_6 (v1 : Int32) (S : St) : Option ((Int32 × St) ⊕ St) := (if (8 : Int32) ≤ v1 then some (.inr S) else gd (inb v1 8) (gd (inb v1 8) (nm (si S 177 v1.toNatClampNeg (gi S 160 v1.toNatClampNeg)) fun S4 => some (.inl ((v1 + 1), S4)))))
def l_X12_takeChoices_6 (x : (Int32 × St)) : Option ((Int32 × St) ⊕ St) := b_X12_takeChoices_6 x.1 x.2
def b_X12_takeChoices_0 (S : St) : Option St := (L_X12_day S).bind fun r1 => (lp 1000 (l_X12_takeChoices_6) (0, r1))
def L_X12_takeChoices (S : St) : Option St := b_X12_takeChoices_0 S
def b_X12_otherMany_46 (v1 : Int32) (v3 : Int32) (s0 : Int32) (s1 : Int32) (S : St) : Option ((Int32 × Int32 × Int32 × St) ⊕ (Int32 × St)) := some (.inl (v1, (s1 + s0), (v3 + 1), S))
def b_X12_otherMany_45 (v1 : Int32) (v3 : Int32) (s0 : Int32) (S : St) : Option ((Int32 × Int32 × Int32 × St) ⊕ (Int32 × St)) := (b_X12_otherMany_46 v1 v3 0 s0 S)
def b_X12_otherMany_8 (v1 : Int32) (v2 : Int32) (v3 : Int32) (S : St) : Option ((Int32 × Int32 × Int32 × St) ⊕ (Int32 × St)) := (if (gi S 136 15 : Int32) ≤ v3 then some (.inr (v2, S)) else (if ((v1 >>> (v3 &&& 31)) &&& 1 : Int32) = 1 then gd (inb v3 8) (gd (inb v3 8) ((if (gi S 160 v3.toNatClampNeg : Int32) = (gi S 177 v3.toNatClampNeg) then (b_X12_otherMany_45 v1 v3 v2 S) else (b_X12_otherMany_46 v1 v3 1 v2 S)))) else (b_X12_otherMany_45 v1 v3 v2 S)))
def l_X12_otherMany_8 (x : (Int32 × Int32 × Int32 × St)) : Option ((Int32 × Int32 × Int32 × St) ⊕ (Int32 × St)) := b_X12_otherMany_8 x.1 x.2.1 x.2.2.1 x.2.2.2
def b_X12_otherMany_0 (v1 : Int32) (S : St) : Option (Int32 × St) := (L_X12_day S).bind fun r1 => (lp 1000 (l_X12_otherMany_8) (v1, 0, 0, r1))
def L_X12_otherMany (a1 : Int32) (S : St) : Option (Int32 × St) := b_X12_otherMany_0 a1 S
def b_X12_guard_96 (v2 : Int32) (v3 : Int32) (S : St) : Option (Int32 × St) := nm (si S 136 7 v3) fun S1 => some (v2, S1)
def b_X12_guard_89 (v1 : Int32) (v3 : Int32) (v4 : Int32) (v5 : Int32) (s0 : Int32) (S : St) : Option ((Int32 × Int32 × Int32 × Int32 × Int32 × St) ⊕ (Int32 × St)) := some (.inl (v1, s0, v3, v4, (v5 + 1), S))
def b_X12_guard_42 (v1 : Int32) (v2 : Int32) (v3 : Int32) (v4 : Int32) (v5 : Int32) (S : St) : Option ((Int32 × Int32 × Int32 × Int32 × Int32 × St) ⊕ (Int32 × St)) := (if (9 : Int32) < v5 then ((b_X12_guard_96 v2 v3 S).map Sum.inr) else (if (0 : Int32) ≤ v2 then ((b_X12_guard_96 v2 v3 S).map Sum.inr) else nm (si S 136 7 v5) fun S3 => nm (si S3 136 9 0) fun S4 => (L_X12_takeChoices S4).bind fun r5 => nm (si r5 136 9 v4) fun S6 => (L_X12_otherMany v1 S6).bind fun r7 => (if (r7.1 : Int32) = 0 then (b_X12_guard_89 v1 v3 v4 v5 v5 r7.2) else (b_X12_guard_89 v1 v3 v4 v5 ((-4)) r7.2))))
def l_X12_guard_42 (x : (Int32 × Int32 × Int32 × Int32 × Int32 × St)) : Option ((Int32 × Int32 × Int32 × Int32 × Int32 × St) ⊕ (Int32 × St)) := b_X12_guard_42 x.1 x.2.1 x.2.2.1 x.2.2.2.1 x.2.2.2.2.1 x.2.2.2.2.2
def b_X12_guard_0 (v1 : Int32) (S : St) : Option (Int32 × St) := nm (si S 136 28 0) fun S1 => (L_X12_in v1.toInt64 0 ((((1 : Int32) <<< ((gi S1 136 15) &&& 31)) - 1).toInt64) S1).bind fun r2 => (if (r2 : Int32) = 0 then some ((-1), S1) else (lp 1000 (l_X12_guard_42) (v1, ((-4)), (gi S1 136 7), (gi S1 136 9), 0, S1)))
def L_X12_guard (a1 : Int32) (S : St) : Option (Int32 × St) := b_X12_guard_0 a1 S
def b_X12_law_0 (v1 : Int32) (S : St) : Option (Int32 × St) := nm (si S 136 28 0) fun S1 => (L_X12_in v1.toInt64 0 9 S1).bind fun r2 => (if (r2 : Int32) = 0 then some ((-1), S1) else (L_X12_takeChoices S1).bind fun r4 => nm (si r4 136 7 v1) fun S5 => (L_X12_otherMany 255 S5).bind fun r6 => nm (si r6.2 136 7 (gi S1 136 7)) fun S7 => some (r6.1, S7))
def L_X12_law (a1 : Int32) (S : St) : Option (Int32 × St) := b_X12_law_0 a1 S
def b_X12_bestRate_65 (v1 : Int32) (v2 : Int32) (v4 : Int32) (s0 : Int32) (S : St) : Option ((Int32 × Int32 × Int32 × Int32 × St) ⊕ (Int32 × St)) := some (.inl (v1, v2, s0, (v4 + 1), S))
def b_X12_bestRate_52 (v1 : Int32) (v3 : Int32) (v4 : Int32) (v5 : Int32) (s0 : Int32) (S : St) : Option ((Int32 × Int32 × Int32 × Int32 × St) ⊕ (Int32 × St)) := (if (v5 : Int32) ≤ v3 then (b_X12_bestRate_65 v1 s0 v4 v3 S) else (b_X12_bestRate_65 v1 s0 v4 v5 S))
def b_X12_bestRate_17 (v1 : Int32) (v2 : Int32) (v3 : Int32) (v4 : Int32) (S : St) : Option ((Int32 × Int32 × Int32 × Int32 × St) ⊕ (Int32 × St)) := (if (9 : Int32) < v4 then nm (si S 136 8 v1) fun S2 => some (.inr (v2, S2)) else nm (si S 136 8 v4) fun S3 => (L_X12_day S3).bind fun r4 => (L_X12_paidInAll r4).bind fun r5 => (if (r5 : Int32) ≤ v3 then (b_X12_bestRate_52 v1 v3 v4 r5 v2 r4) else (b_X12_bestRate_52 v1 v3 v4 r5 v4 r4)))
def l_X12_bestRate_17 (x : (Int32 × Int32 × Int32 × Int32 × St)) : Option ((Int32 × Int32 × Int32 × Int32 × St) ⊕ (Int32 × St)) := b_X12_bestRate_17 x.1 x.2.1 x.2.2.1 x.2.2.2.1 x.2.2.2.2
def b_X12_bestRate_0 (S : St) : Option (Int32 × St) := nm (si S 136 28 0) fun S1 => (lp 1000 (l_X12_bestRate_17) ((gi S1 136 8), 1, ((-1)), 1, S1))
def L_X12_bestRate (S : St) : Option (Int32 × St) := b_X12_bestRate_0 S
def b_X12_bestOpen_66 (v1 : Int32) (v2 : Int32) (v4 : Int32) (s0 : Int32) (S : St) : Option ((Int32 × Int32 × Int32 × Int32 × St) ⊕ (Int32 × St)) := some (.inl (v1, v2, s0, (v4 + 1), S))
def b_X12_bestOpen_53 (v1 : Int32) (v3 : Int32) (v4 : Int32) (v5 : Int32) (s0 : Int32) (S : St) : Option ((Int32 × Int32 × Int32 × Int32 × St) ⊕ (Int32 × St)) := (if (v3 : Int32) ≤ v5 then (b_X12_bestOpen_66 v1 s0 v4 v3 S) else (b_X12_bestOpen_66 v1 s0 v4 v5 S))
def b_X12_bestOpen_18 (v1 : Int32) (v2 : Int32) (v3 : Int32) (v4 : Int32) (S : St) : Option ((Int32 × Int32 × Int32 × Int32 × St) ⊕ (Int32 × St)) := (if (24 : Int32) ≤ v4 then nm (si S 136 6 v1) fun S2 => some (.inr (v2, S2)) else nm (si S 136 6 v4) fun S3 => (L_X12_day S3).bind fun r4 => (L_X12_regretMany r4).bind fun r5 => (if (v3 : Int32) ≤ r5 then (b_X12_bestOpen_53 v1 v3 v4 r5 v2 r4) else (b_X12_bestOpen_53 v1 v3 v4 r5 v4 r4)))
def l_X12_bestOpen_18 (x : (Int32 × Int32 × Int32 × Int32 × St)) : Option ((Int32 × Int32 × Int32 × Int32 × St) ⊕ (Int32 × St)) := b_X12_bestOpen_18 x.1 x.2.1 x.2.2.1 x.2.2.2.1 x.2.2.2.2
def b_X12_bestOpen_0 (S : St) : Option (Int32 × St) := nm (si S 136 28 0) fun S1 => (lp 1000 (l_X12_bestOpen_18) ((gi S1 136 6), 0, 99, 0, S1))
def L_X12_bestOpen (S : St) : Option (Int32 × St) := b_X12_bestOpen_0 S
def b_X12_purse_85 (v1 : Int32) (v2 : Int32) (v4 : Int32) (S : St) : Option (Int32 × St) := gd (inb v1 8) (nm (si S 152 v1.toNatClampNeg v2) fun S2 => some (v4, S2))
def b_X12_purse_77 (v1 : Int32) (v2 : Int32) (v3 : Int32) (v5 : Int32) (s0 : Int32) (S : St) : Option ((Int32 × Int32 × Int32 × Int32 × Int32 × St) ⊕ (Int32 × St)) := some (.inl (v1, v2, v3, s0, (v5 + 1), S))
def b_X12_purse_42 (v1 : Int32) (v2 : Int32) (v3 : Int32) (v4 : Int32) (v5 : Int32) (S : St) : Option ((Int32 × Int32 × Int32 × Int32 × Int32 × St) ⊕ (Int32 × St)) := (if (99 : Int32) < v5 then ((b_X12_purse_85 v1 v2 v4 S).map Sum.inr) else (if (0 : Int32) ≤ v4 then ((b_X12_purse_85 v1 v2 v4 S).map Sum.inr) else gd (inb v1 8) (nm (si S 152 v1.toNatClampNeg v5) fun S4 => (L_X12_choiceOf v1 S4).bind fun r5 => (if (r5.1 : Int32) = v3 then (b_X12_purse_77 v1 v2 v3 v5 v5 r5.2) else (b_X12_purse_77 v1 v2 v3 v5 ((-1)) r5.2)))))
def l_X12_purse_42 (x : (Int32 × Int32 × Int32 × Int32 × Int32 × St)) : Option ((Int32 × Int32 × Int32 × Int32 × Int32 × St) ⊕ (Int32 × St)) := b_X12_purse_42 x.1 x.2.1 x.2.2.1 x.2.2.2.1 x.2.2.2.2.1 x.2.2.2.2.2
def b_X12_purse_0 (v1 : Int32) (S : St) : Option (Int32 × St) := nm (si S 136 28 0) fun S1 => (L_X12_isOne v1 S1).bind fun r2 => (if (r2 : Int32) = 0 then some ((-1), S1) else gd (inb v1 8) (gd (inb v1 8) (nm (si S1 152 v1.toNatClampNeg 99) fun S6 => (L_X12_choiceOf v1 S6).bind fun r7 => (lp 1000 (l_X12_purse_42) (v1, (gi S1 152 v1.toNatClampNeg), r7.1, ((-1)), 0, r7.2)))))
def L_X12_purse (a1 : Int32) (S : St) : Option (Int32 × St) := b_X12_purse_0 a1 S
def b_X12_later_0 (v0 : Int32) (v1 : Int32) (S : St) : Option Int32 := (if (v0 + v1 : Int32) ≤ 23 then some (v0 + v1) else some 23)
def L_X12_later (a0 : Int32) (a1 : Int32) (S : St) : Option Int32 := b_X12_later_0 a0 a1 S
section WALKS
variable {p : Program} {e : Env} {s : State} {m : MethodId} {args : Array Value} {below : List Frame} {meth : Method} {c : Code} {D : va_G} {ct : Nat → ClassId} {B : Nat} {Hb : Heap}
set_option maxRecDepth 100000 in
set_option maxHeartbeats 4000000 in
theorem w_X12_turn_173 (l : Launch) {V : Int32 × St} (C0 : XC D ct p s m args meth c cX12_turn 7 (some .int) RX12) (v4 : Int32) (S : St) {H : Heap} {locs : List Loc} {ls : Array Slot} (h : (b_X12_turn_173 v4 S).bind some = some V) (hP : MP D ct B Hb S H) (hS : va_S (AB B) s.heap H locs) (hl : lv_has ls 7 [(4, .int v4)]) : W p l e { frames := 8, cells := 0, slots := 0, locals := 183 } s m args below meth c H locs 0 0 (MQ below (qIw D ct B Hb V) args s 0 0 (AB B)) (F0 m 173 ls []) := by
  obtain ⟨hx, hb, hr, hml, hown, hts, hK, hlocks, hN⟩ := id C0
  unfold b_X12_turn_173 at h
  refine lv_iload hx hb dX12_turn_173 (lv_at hl 0 rfl) ?_
  refine lv_goto (tgt := 179) hx hb dX12_turn_175 (by decide) ?_
  exact r_Iw C0 hP hS h dX12_turn_179
set_option maxRecDepth 100000 in
set_option maxHeartbeats 4000000 in
theorem w_X12_turn_163 (l : Launch) {V : Int32 × St} (C0 : XC D ct p s m args meth c cX12_turn 7 (some .int) RX12) (v2 : Int32) (v3 : Int32) (v4 : Int32) (S : St) {H : Heap} {locs : List Loc} {ls : Array Slot} (h : (b_X12_turn_163 v2 v3 v4 S).bind some = some V) (hP : MP D ct B Hb S H) (hS : va_S (AB B) s.heap H locs) (hl : lv_has ls 7 [(2, .int v2), (3, .int v3), (4, .int v4)]) : W p l e { frames := 8, cells := 0, slots := 0, locals := 183 } s m args below meth c H locs 0 0 (MQ below (qIw D ct B Hb V) args s 0 0 (AB B)) (F0 m 163 ls []) := by
  obtain ⟨hx, hb, hr, hml, hown, hts, hK, hlocks, hN⟩ := id C0
  unfold b_X12_turn_163 at h
  refine lv_iload_n hx hb dX12_turn_163 rfl (lv_at hl 0 rfl) ?_
  refine lv_iconst (v := 1) hx hb dX12_turn_164 (by decide) ?_
  refine lv_icmp_eq (tgt := 173) hx hb dX12_turn_165 (by decide) (fun z1 => ?_) (fun z1 => ?_)
  · have h := ob_t h z1
    exact w_X12_turn_173 l C0 v4 S h hP hS (lv_sub hl [2] rfl)
  · have h := ob_f h z1
    refine lv_iload hx hb dX12_turn_168 (lv_at hl 2 rfl) ?_
    refine lv_if_ge (tgt := 178) hx hb dX12_turn_170 (by decide) (fun z2 => ?_) (fun z2 => ?_)
    · have h := ob_t h z2
      refine lv_iload_n hx hb dX12_turn_178 rfl (lv_at hl 1 rfl) ?_
      exact r_Iw C0 hP hS h dX12_turn_179
    · have h := ob_f h z2
      exact w_X12_turn_173 l C0 v4 S h hP hS (lv_sub hl [2] rfl)
set_option maxRecDepth 100000 in
set_option maxHeartbeats 4000000 in
theorem w_X12_turn_153 (l : Launch) {V : Int32 × St} (C0 : XC D ct p s m args meth c cX12_turn 7 (some .int) RX12) (v2 : Int32) (v3 : Int32) (v4 : Int32) (S : St) {H : Heap} {locs : List Loc} {ls : Array Slot} (h : (b_X12_turn_153 v2 v3 v4 S).bind some = some V) (hP : MP D ct B Hb S H) (hS : va_S (AB B) s.heap H locs) (hl : lv_has ls 7 [(0, .ref (B + 136)), (2, .int v2), (3, .int v3), (4, .int v4)]) : W p l e { frames := 8, cells := 0, slots := 0, locals := 183 } s m args below meth c H locs 0 0 (MQ below (qIw D ct B Hb V) args s 0 0 (AB B)) (F0 m 153 ls []) := by
  obtain ⟨hx, hb, hr, hml, hown, hts, hK, hlocks, hN⟩ := id C0
  unfold b_X12_turn_153 at h
  refine lv_aload_n hx hb dX12_turn_153 rfl (lv_at hl 0 rfl) ?_
  refine lv_dup hx hb dX12_turn_154 rfl ?_
  refine x_get C0 hP (lay_X12 B ct S) rfl inG12 9 (by decide) wd_1150 (fun _ h => h) rfl dX12_turn_155 ?_
  refine lv_iconst (v := 1) hx hb dX12_turn_158 (by decide) ?_
  refine lv_isub hx hb dX12_turn_159 ?_
  obtain ⟨S1, eS1, h⟩ := ob_nm h
  refine x_put (S' := si S 136 9 ((gi S 136 9) - 1)) (FS := (fs12 B)) C0 hP hS (fun S => lay_X12 B ct S) rfl inG12 tyX12 tyX12_ok nmX12 9 (by decide) wd_1150 rfl rfl (fun a ha => lay_local (gi_si_n _ _ _ ha) rfl rfl rfl) (put_12_9 B _ _) rfl rfl (Nat.le_of_ble_eq_true rfl) dX12_turn_160 (fun H locs hP hS => ?_)
  rw [← eS1] at hP
  exact w_X12_turn_163 l C0 v2 v3 v4 S1 h hP hS (lv_sub hl [1, 2, 3] rfl)
set_option maxRecDepth 100000 in
set_option maxHeartbeats 4000000 in
theorem w_X12_turn_147 (l : Launch) {V : Int32 × St} (C0 : XC D ct p s m args meth c cX12_turn 7 (some .int) RX12) (n0 : Nat) (ih0 : ∀ (v1 : Int32) (v2 : Int32) (v3 : Int32) (v4 : Int32) (v5 : Int32) (S : St) (H : Heap) (locs : List Loc) (ls : Array Slot), (lp n0 (l_X12_turn_80) (v1, v2, v3, v4, v5, S)).bind some = some V → MP D ct B Hb S H → va_S (AB B) s.heap H locs → lv_has ls 7 [(0, .ref (B + 136)), (1, .int v1), (2, .int v2), (3, .int v3), (4, .int v4), (5, .int v5)] → W p l e { frames := 8, cells := 0, slots := 0, locals := 183 } s m args below meth c H locs 0 0 (MQ below (qIw D ct B Hb V) args s 0 0 (AB B)) (F0 m 80 ls [])) (v1 : Int32) (v2 : Int32) (v3 : Int32) (v4 : Int32) (v5 : Int32) (S : St) {H : Heap} {locs : List Loc} {ls : Array Slot} (h : (b_X12_turn_147 v1 v2 v3 v4 v5 S).bind (lpF n0 (l_X12_turn_80) some) = some V) (hP : MP D ct B Hb S H) (hS : va_S (AB B) s.heap H locs) (hl : lv_has ls 7 [(0, .ref (B + 136)), (1, .int v1), (2, .int v2), (3, .int v3), (4, .int v4), (5, .int v5)]) : W p l e { frames := 8, cells := 0, slots := 0, locals := 183 } s m args below meth c H locs 0 0 (MQ below (qIw D ct B Hb V) args s 0 0 (AB B)) (F0 m 147 ls []) := by
  obtain ⟨hx, hb, hr, hml, hown, hts, hK, hlocks, hN⟩ := id C0
  unfold b_X12_turn_147 at h
  refine lv_iinc (v := v5 + 1) (lv' := [(5, .int (v5 + 1)), (0, .ref (B + 136)), (1, .int v1), (2, .int v2), (3, .int v3), (4, .int v4)]) hx hb dX12_turn_147 hl (k := 5) rfl rfl (by decide) rfl (fun ls hl => ?_)
  refine lv_goto (tgt := 80) hx hb dX12_turn_150 (by decide) ?_
  exact ih0 v1 v2 v3 v4 (v5 + 1) S _ _ _ h hP hS (lv_sub hl [1, 2, 3, 4, 5, 0] rfl)
set_option maxRecDepth 100000 in
set_option maxHeartbeats 4000000 in
theorem w_X12_turn_141 (l : Launch) {V : Int32 × St} (C0 : XC D ct p s m args meth c cX12_turn 7 (some .int) RX12) (n0 : Nat) (ih0 : ∀ (v1 : Int32) (v2 : Int32) (v3 : Int32) (v4 : Int32) (v5 : Int32) (S : St) (H : Heap) (locs : List Loc) (ls : Array Slot), (lp n0 (l_X12_turn_80) (v1, v2, v3, v4, v5, S)).bind some = some V → MP D ct B Hb S H → va_S (AB B) s.heap H locs → lv_has ls 7 [(0, .ref (B + 136)), (1, .int v1), (2, .int v2), (3, .int v3), (4, .int v4), (5, .int v5)] → W p l e { frames := 8, cells := 0, slots := 0, locals := 183 } s m args below meth c H locs 0 0 (MQ below (qIw D ct B Hb V) args s 0 0 (AB B)) (F0 m 80 ls [])) (n1 : Nat) (ih1 : ∀ (v1 : Int32) (v2 : Int32) (v3 : Int32) (v4 : Int32) (v5 : Int32) (v6 : Int32) (S : St) (H : Heap) (locs : List Loc) (ls : Array Slot), (lp n1 (l_X12_turn_95) (v1, v2, v3, v4, v5, v6, S)).bind (lpF n0 (l_X12_turn_80) some) = some V → MP D ct B Hb S H → va_S (AB B) s.heap H locs → lv_has ls 7 [(0, .ref (B + 136)), (1, .int v1), (2, .int v2), (3, .int v3), (4, .int v4), (5, .int v5), (6, .int v6)] → W p l e { frames := 8, cells := 0, slots := 0, locals := 183 } s m args below meth c H locs 0 0 (MQ below (qIw D ct B Hb V) args s 0 0 (AB B)) (F0 m 95 ls [])) (v1 : Int32) (v2 : Int32) (v3 : Int32) (v4 : Int32) (v5 : Int32) (v6 : Int32) (S : St) {H : Heap} {locs : List Loc} {ls : Array Slot} (h : (b_X12_turn_141 v1 v2 v3 v4 v5 v6 S).bind (lpF n1 (l_X12_turn_95) (lpF n0 (l_X12_turn_80) some)) = some V) (hP : MP D ct B Hb S H) (hS : va_S (AB B) s.heap H locs) (hl : lv_has ls 7 [(0, .ref (B + 136)), (1, .int v1), (2, .int v2), (3, .int v3), (4, .int v4), (5, .int v5), (6, .int v6)]) : W p l e { frames := 8, cells := 0, slots := 0, locals := 183 } s m args below meth c H locs 0 0 (MQ below (qIw D ct B Hb V) args s 0 0 (AB B)) (F0 m 141 ls []) := by
  obtain ⟨hx, hb, hr, hml, hown, hts, hK, hlocks, hN⟩ := id C0
  unfold b_X12_turn_141 at h
  refine lv_iinc (v := v6 + (-1)) (lv' := [(6, .int (v6 + (-1))), (0, .ref (B + 136)), (1, .int v1), (2, .int v2), (3, .int v3), (4, .int v4), (5, .int v5)]) hx hb dX12_turn_141 hl (k := 6) rfl rfl (by decide) rfl (fun ls hl => ?_)
  refine lv_goto (tgt := 95) hx hb dX12_turn_144 (by decide) ?_
  exact ih1 v1 v2 v3 v4 v5 (v6 + (-1)) S _ _ _ h hP hS (lv_sub hl [1, 2, 3, 4, 5, 6, 0] rfl)
set_option maxRecDepth 100000 in
set_option maxHeartbeats 4000000 in
theorem w_X12_turn_95 (l : Launch) {V : Int32 × St} (C0 : XC D ct p s m args meth c cX12_turn 7 (some .int) RX12) (n0 : Nat) (ih0 : ∀ (v1 : Int32) (v2 : Int32) (v3 : Int32) (v4 : Int32) (v5 : Int32) (S : St) (H : Heap) (locs : List Loc) (ls : Array Slot), (lp n0 (l_X12_turn_80) (v1, v2, v3, v4, v5, S)).bind some = some V → MP D ct B Hb S H → va_S (AB B) s.heap H locs → lv_has ls 7 [(0, .ref (B + 136)), (1, .int v1), (2, .int v2), (3, .int v3), (4, .int v4), (5, .int v5)] → W p l e { frames := 8, cells := 0, slots := 0, locals := 183 } s m args below meth c H locs 0 0 (MQ below (qIw D ct B Hb V) args s 0 0 (AB B)) (F0 m 80 ls [])) (n1 : Nat) (ih1 : ∀ (v1 : Int32) (v2 : Int32) (v3 : Int32) (v4 : Int32) (v5 : Int32) (v6 : Int32) (S : St) (H : Heap) (locs : List Loc) (ls : Array Slot), (lp n1 (l_X12_turn_95) (v1, v2, v3, v4, v5, v6, S)).bind (lpF n0 (l_X12_turn_80) some) = some V → MP D ct B Hb S H → va_S (AB B) s.heap H locs → lv_has ls 7 [(0, .ref (B + 136)), (1, .int v1), (2, .int v2), (3, .int v3), (4, .int v4), (5, .int v5), (6, .int v6)] → W p l e { frames := 8, cells := 0, slots := 0, locals := 183 } s m args below meth c H locs 0 0 (MQ below (qIw D ct B Hb V) args s 0 0 (AB B)) (F0 m 95 ls [])) (v1 : Int32) (v2 : Int32) (v3 : Int32) (v4 : Int32) (v5 : Int32) (v6 : Int32) (S : St) {H : Heap} {locs : List Loc} {ls : Array Slot} (h : (b_X12_turn_95 v1 v2 v3 v4 v5 v6 S).bind (lpF n1 (l_X12_turn_95) (lpF n0 (l_X12_turn_80) some)) = some V) (hP : MP D ct B Hb S H) (hS : va_S (AB B) s.heap H locs) (hl : lv_has ls 7 [(0, .ref (B + 136)), (1, .int v1), (2, .int v2), (3, .int v3), (4, .int v4), (5, .int v5), (6, .int v6)]) : W p l e { frames := 8, cells := 0, slots := 0, locals := 183 } s m args below meth c H locs 0 0 (MQ below (qIw D ct B Hb V) args s 0 0 (AB B)) (F0 m 95 ls []) := by
  obtain ⟨hx, hb, hr, hml, hown, hts, hK, hlocks, hN⟩ := id C0
  unfold b_X12_turn_95 at h
  refine lv_iload hx hb dX12_turn_95 (lv_at hl 6 rfl) ?_
  refine lv_if_lt (tgt := 147) hx hb dX12_turn_97 (by decide) (fun z1 => ?_) (fun z1 => ?_)
  · have h := ob_t h z1
    have h := ob_mp h
    exact w_X12_turn_147 l C0 n0 ih0 v1 v2 v3 v4 v5 S h hP hS (lv_sub hl [0, 1, 2, 3, 4, 5] rfl)
  · have h := ob_f h z1
    refine lv_aload_n hx hb dX12_turn_100 rfl (lv_at hl 0 rfl) ?_
    refine x_get C0 hP (lay_X12 B ct S) rfl inG12 12 (by decide) wd_1153 (fun _ h => h) rfl dX12_turn_101 ?_
    refine lv_aload_n hx hb dX12_turn_104 rfl (lv_at hl 0 rfl) ?_
    refine x_get C0 hP (lay_X12 B ct S) rfl inG12 9 (by decide) wd_1150 (fun _ h => h) rfl dX12_turn_105 ?_
    refine lv_iconst (v := 1) hx hb dX12_turn_108 (by decide) ?_
    refine lv_isub hx hb dX12_turn_109 ?_
    refine lv_iload hx hb dX12_turn_110 (lv_at hl 5 rfl) ?_
    obtain ⟨g2, h⟩ := ob_gd h
    obtain ⟨S3, eS3, h⟩ := ob_nm h
    refine x_iast C0 hP hS (fun S => lay_144 B ct S) g2 dX12_turn_112 (fun H locs hP hS => ?_)
    rw [← eS3] at hP
    refine lv_aload_n hx hb dX12_turn_113 rfl (lv_at hl 0 rfl) ?_
    refine x_get C0 hP (lay_X12 B ct S3) rfl inG12 10 (by decide) wd_1151 (fun _ h => h) rfl dX12_turn_114 ?_
    refine lv_aload_n hx hb dX12_turn_117 rfl (lv_at hl 0 rfl) ?_
    refine x_get C0 hP (lay_X12 B ct S3) rfl inG12 9 (by decide) wd_1150 (fun _ h => h) rfl dX12_turn_118 ?_
    refine lv_iconst (v := 1) hx hb dX12_turn_121 (by decide) ?_
    refine lv_isub hx hb dX12_turn_122 ?_
    refine lv_iload hx hb dX12_turn_123 (lv_at hl 6 rfl) ?_
    obtain ⟨g4, h⟩ := ob_gd h
    obtain ⟨S5, eS5, h⟩ := ob_nm h
    refine x_iast C0 hP hS (fun S => lay_142 B ct S) g4 dX12_turn_125 (fun H locs hP hS => ?_)
    rw [← eS5] at hP
    refine lv_aload_n hx hb dX12_turn_126 rfl (lv_at hl 0 rfl) ?_
    refine lv_iload_n hx hb dX12_turn_127 rfl (lv_at hl 1 rfl) ?_
    obtain ⟨r6, hr6, h⟩ := ob_bd h
    refine n_Iw (kV (As := [.int v1]) C0 (c_X12_allYes l v1 hr6) ⟨wd_1668, wd_1665, wd_1667, wp_61, wd_6⟩ kd_X12_allYes ⟨Nat.le_of_ble_eq_true rfl, Nat.le_of_ble_eq_true rfl⟩ hP (lay_X12 B ct S5) rfl rfl hl.1 rfl (Nat.le_of_ble_eq_true rfl) dX12_turn_128 ⟨Nat.le_of_ble_eq_true rfl, Nat.le_of_ble_eq_true rfl⟩) hS (fun H locs hP hS => ?_)
    refine lv_if_eq (tgt := 141) hx hb dX12_turn_131 (by decide) (fun z7 => ?_) (fun z7 => ?_)
    · have h := ob_t h z7
      exact w_X12_turn_141 l C0 n0 ih0 n1 ih1 v1 v2 v3 v4 v5 v6 r6.2 h hP hS (lv_sub hl [0, 1, 2, 3, 4, 5, 6] rfl)
    · have h := ob_f h z7
      refine lv_iload hx hb dX12_turn_134 (lv_at hl 6 rfl) ?_
      refine lv_istore (lv' := [(4, .int v6), (0, .ref (B + 136)), (1, .int v1), (2, .int v2), (3, .int v3), (5, .int v5), (6, .int v6)]) hx hb dX12_turn_136 hl (by decide) rfl (fun ls hl => ?_)
      refine lv_iload hx hb dX12_turn_138 (lv_at hl 5 rfl) ?_
      refine lv_istore_n (lv' := [(3, .int v5), (4, .int v6), (0, .ref (B + 136)), (1, .int v1), (2, .int v2), (5, .int v5), (6, .int v6)]) hx hb dX12_turn_140 rfl hl (by decide) rfl (fun ls hl => ?_)
      exact w_X12_turn_141 l C0 n0 ih0 n1 ih1 v1 v2 v5 v6 v5 v6 r6.2 h hP hS (lv_sub hl [2, 3, 4, 0, 1, 5, 6] rfl)
set_option maxRecDepth 100000 in
set_option maxHeartbeats 4000000 in
theorem wl_X12_turn_95 (l : Launch) {V : Int32 × St} (C0 : XC D ct p s m args meth c cX12_turn 7 (some .int) RX12) (n0 : Nat) (ih0 : ∀ (v1 : Int32) (v2 : Int32) (v3 : Int32) (v4 : Int32) (v5 : Int32) (S : St) (H : Heap) (locs : List Loc) (ls : Array Slot), (lp n0 (l_X12_turn_80) (v1, v2, v3, v4, v5, S)).bind some = some V → MP D ct B Hb S H → va_S (AB B) s.heap H locs → lv_has ls 7 [(0, .ref (B + 136)), (1, .int v1), (2, .int v2), (3, .int v3), (4, .int v4), (5, .int v5)] → W p l e { frames := 8, cells := 0, slots := 0, locals := 183 } s m args below meth c H locs 0 0 (MQ below (qIw D ct B Hb V) args s 0 0 (AB B)) (F0 m 80 ls []))  : ∀ (n1 : Nat) (v1 : Int32) (v2 : Int32) (v3 : Int32) (v4 : Int32) (v5 : Int32) (v6 : Int32) (S : St) {H : Heap} {locs : List Loc} {ls : Array Slot}, (lp n1 (l_X12_turn_95) (v1, v2, v3, v4, v5, v6, S)).bind (lpF n0 (l_X12_turn_80) some) = some V → MP D ct B Hb S H → va_S (AB B) s.heap H locs → lv_has ls 7 [(0, .ref (B + 136)), (1, .int v1), (2, .int v2), (3, .int v3), (4, .int v4), (5, .int v5), (6, .int v6)] → W p l e { frames := 8, cells := 0, slots := 0, locals := 183 } s m args below meth c H locs 0 0 (MQ below (qIw D ct B Hb V) args s 0 0 (AB B)) (F0 m 95 ls []) := by
  intro n1
  induction n1 with
  | zero =>
    intro v1 v2 v3 v4 v5 v6 S H locs ls h hP hS hl
    exact (lp_0 h).elim
  | succ n1 ih1 =>
    intro v1 v2 v3 v4 v5 v6 S H locs ls h hP hS hl
    have h := lp_s h
    exact w_X12_turn_95 l C0 n0 ih0 n1 (fun v1 v2 v3 v4 v5 v6 S H locs ls h hP hS hl => ih1 v1 v2 v3 v4 v5 v6 S h hP hS hl) v1 v2 v3 v4 v5 v6 S h hP hS hl
set_option maxRecDepth 100000 in
set_option maxHeartbeats 4000000 in
theorem w_X12_turn_80 (l : Launch) {V : Int32 × St} (C0 : XC D ct p s m args meth c cX12_turn 7 (some .int) RX12) (n0 : Nat) (ih0 : ∀ (v1 : Int32) (v2 : Int32) (v3 : Int32) (v4 : Int32) (v5 : Int32) (S : St) (H : Heap) (locs : List Loc) (ls : Array Slot), (lp n0 (l_X12_turn_80) (v1, v2, v3, v4, v5, S)).bind some = some V → MP D ct B Hb S H → va_S (AB B) s.heap H locs → lv_has ls 7 [(0, .ref (B + 136)), (1, .int v1), (2, .int v2), (3, .int v3), (4, .int v4), (5, .int v5)] → W p l e { frames := 8, cells := 0, slots := 0, locals := 183 } s m args below meth c H locs 0 0 (MQ below (qIw D ct B Hb V) args s 0 0 (AB B)) (F0 m 80 ls [])) (v1 : Int32) (v2 : Int32) (v3 : Int32) (v4 : Int32) (v5 : Int32) (S : St) {H : Heap} {locs : List Loc} {ls : Array Slot} (h : (b_X12_turn_80 v1 v2 v3 v4 v5 S).bind (lpF n0 (l_X12_turn_80) some) = some V) (hP : MP D ct B Hb S H) (hS : va_S (AB B) s.heap H locs) (hl : lv_has ls 7 [(0, .ref (B + 136)), (1, .int v1), (2, .int v2), (3, .int v3), (4, .int v4), (5, .int v5)]) : W p l e { frames := 8, cells := 0, slots := 0, locals := 183 } s m args below meth c H locs 0 0 (MQ below (qIw D ct B Hb V) args s 0 0 (AB B)) (F0 m 80 ls []) := by
  obtain ⟨hx, hb, hr, hml, hown, hts, hK, hlocks, hN⟩ := id C0
  unfold b_X12_turn_80 at h
  refine lv_iload hx hb dX12_turn_80 (lv_at hl 5 rfl) ?_
  refine lv_bipush (v := 60) hx hb dX12_turn_82 (by decide) ?_
  refine lv_icmp_gt (tgt := 153) hx hb dX12_turn_84 (by decide) (fun z1 => ?_) (fun z1 => ?_)
  · have h := ob_t h z1
    have h := ob_mp h
    exact w_X12_turn_153 l C0 v2 v3 v4 S h hP hS (lv_sub hl [0, 2, 3, 4] rfl)
  · have h := ob_f h z1
    refine lv_iload hx hb dX12_turn_87 (lv_at hl 4 rfl) ?_
    refine lv_if_ge (tgt := 153) hx hb dX12_turn_89 (by decide) (fun z2 => ?_) (fun z2 => ?_)
    · have h := ob_t h z2
      have h := ob_mp h
      exact w_X12_turn_153 l C0 v2 v3 v4 S h hP hS (lv_sub hl [0, 2, 3, 4] rfl)
    · have h := ob_f h z2
      refine lv_iconst (v := 3) hx hb dX12_turn_92 (by decide) ?_
      refine lv_istore (lv' := [(6, .int 3), (0, .ref (B + 136)), (1, .int v1), (2, .int v2), (3, .int v3), (4, .int v4), (5, .int v5)]) hx hb dX12_turn_93 hl (by decide) rfl (fun ls hl => ?_)
      exact wl_X12_turn_95 l C0 n0 ih0 1000 v1 v2 v3 v4 v5 3 S h hP hS (lv_sub hl [1, 2, 3, 4, 5, 6, 0] rfl)
set_option maxRecDepth 100000 in
set_option maxHeartbeats 4000000 in
theorem wl_X12_turn_80 (l : Launch) {V : Int32 × St} (C0 : XC D ct p s m args meth c cX12_turn 7 (some .int) RX12)  : ∀ (n0 : Nat) (v1 : Int32) (v2 : Int32) (v3 : Int32) (v4 : Int32) (v5 : Int32) (S : St) {H : Heap} {locs : List Loc} {ls : Array Slot}, (lp n0 (l_X12_turn_80) (v1, v2, v3, v4, v5, S)).bind some = some V → MP D ct B Hb S H → va_S (AB B) s.heap H locs → lv_has ls 7 [(0, .ref (B + 136)), (1, .int v1), (2, .int v2), (3, .int v3), (4, .int v4), (5, .int v5)] → W p l e { frames := 8, cells := 0, slots := 0, locals := 183 } s m args below meth c H locs 0 0 (MQ below (qIw D ct B Hb V) args s 0 0 (AB B)) (F0 m 80 ls []) := by
  intro n0
  induction n0 with
  | zero =>
    intro v1 v2 v3 v4 v5 S H locs ls h hP hS hl
    exact (lp_0 h).elim
  | succ n0 ih0 =>
    intro v1 v2 v3 v4 v5 S H locs ls h hP hS hl
    have h := lp_s h
    exact w_X12_turn_80 l C0 n0 (fun v1 v2 v3 v4 v5 S H locs ls h hP hS hl => ih0 v1 v2 v3 v4 v5 S h hP hS hl) v1 v2 v3 v4 v5 S h hP hS hl
set_option maxRecDepth 100000 in
set_option maxHeartbeats 4000000 in
theorem w_X12_turn_0 (l : Launch) {V : Int32 × St} (C0 : XC D ct p s m args meth c cX12_turn 7 (some .int) RX12) (v1 : Int32) (v2 : Int32) (S : St) {H : Heap} {locs : List Loc} {ls : Array Slot} (h : (b_X12_turn_0 v1 v2 S).bind some = some V) (hP : MP D ct B Hb S H) (hS : va_S (AB B) s.heap H locs) (hl : lv_has ls 7 [(0, .ref (B + 136)), (1, .int v1), (2, .int v2)]) : W p l e { frames := 8, cells := 0, slots := 0, locals := 183 } s m args below meth c H locs 0 0 (MQ below (qIw D ct B Hb V) args s 0 0 (AB B)) (F0 m 0 ls []) := by
  obtain ⟨hx, hb, hr, hml, hown, hts, hK, hlocks, hN⟩ := id C0
  unfold b_X12_turn_0 at h
  refine lv_aload_n hx hb dX12_turn_0 rfl (lv_at hl 0 rfl) ?_
  refine lv_iconst (v := 0) hx hb dX12_turn_1 (by decide) ?_
  obtain ⟨S1, eS1, h⟩ := ob_nm h
  refine x_put (S' := si S 136 28 0) (FS := (fs12 B)) C0 hP hS (fun S => lay_X12 B ct S) rfl inG12 tyX12 tyX12_ok nmX12 28 (by decide) wd_1169 rfl rfl (fun a ha => lay_local (gi_si_n _ _ _ ha) rfl rfl rfl) (put_12_28 B _ _) rfl rfl (Nat.le_of_ble_eq_true rfl) dX12_turn_2 (fun H locs hP hS => ?_)
  rw [← eS1] at hP
  refine lv_iload_n hx hb dX12_turn_5 rfl (lv_at hl 1 rfl) ?_
  refine lv_i2l hx hb dX12_turn_6 rfl ?_
  refine lv_lconst (v := 0) hx hb dX12_turn_7 (by decide) ?_
  refine lv_iconst (v := 1) hx hb dX12_turn_8 (by decide) ?_
  refine lv_aload_n hx hb dX12_turn_9 rfl (lv_at hl 0 rfl) ?_
  refine x_get C0 hP (lay_X12 B ct S1) rfl inG12 15 (by decide) wd_1156 (fun _ h => h) rfl dX12_turn_10 ?_
  refine lv_ishl hx hb dX12_turn_13 ?_
  refine lv_iconst (v := 1) hx hb dX12_turn_14 (by decide) ?_
  refine lv_isub hx hb dX12_turn_15 ?_
  refine lv_i2l hx hb dX12_turn_16 rfl ?_
  obtain ⟨r2, hr2, h⟩ := ob_bd h
  refine n_I (kS (As := [.long v1.toInt64, .long 0, .long ((((1 : Int32) <<< ((gi S1 136 15) &&& 31)) - 1).toInt64)]) C0 (c_X12_in l v1.toInt64 0 ((((1 : Int32) <<< ((gi S1 136 15) &&& 31)) - 1).toInt64) hr2) ⟨wd_1370, wd_1368, wd_1369, wd_6⟩ kd_X12_in ⟨Nat.le_of_ble_eq_true rfl, Nat.le_of_ble_eq_true rfl⟩ hP rfl hl.1 rfl (Nat.le_of_ble_eq_true rfl) dX12_turn_17 ⟨Nat.le_of_ble_eq_true rfl, Nat.le_of_ble_eq_true rfl⟩) hS (fun H locs hP hS => ?_)
  refine lv_if_eq (tgt := 33) hx hb dX12_turn_20 (by decide) (fun z3 => ?_) (fun z3 => ?_)
  · have h := ob_t h z3
    refine lv_iconst (v := (-1)) hx hb dX12_turn_33 (by decide) ?_
    exact r_Iw C0 hP hS h dX12_turn_34
  · have h := ob_f h z3
    refine lv_iload_n hx hb dX12_turn_23 rfl (lv_at hl 2 rfl) ?_
    refine lv_i2l hx hb dX12_turn_24 rfl ?_
    refine lv_lconst (v := 0) hx hb dX12_turn_25 (by decide) ?_
    refine lv_lconst (v := 1) hx hb dX12_turn_26 (by decide) ?_
    obtain ⟨r4, hr4, h⟩ := ob_bd h
    refine n_I (kS (As := [.long v2.toInt64, .long 0, .long 1]) C0 (c_X12_in l v2.toInt64 0 1 hr4) ⟨wd_1370, wd_1368, wd_1369, wd_6⟩ kd_X12_in ⟨Nat.le_of_ble_eq_true rfl, Nat.le_of_ble_eq_true rfl⟩ hP rfl hl.1 rfl (Nat.le_of_ble_eq_true rfl) dX12_turn_27 ⟨Nat.le_of_ble_eq_true rfl, Nat.le_of_ble_eq_true rfl⟩) hS (fun H locs hP hS => ?_)
    refine lv_if_ne (tgt := 35) hx hb dX12_turn_30 (by decide) (fun z5 => ?_) (fun z5 => ?_)
    · have h := ob_f h z5
      refine lv_aload_n hx hb dX12_turn_35 rfl (lv_at hl 0 rfl) ?_
      refine lv_iload_n hx hb dX12_turn_36 rfl (lv_at hl 1 rfl) ?_
      obtain ⟨r6, hr6, h⟩ := ob_bd h
      refine n_Iw (kV (As := [.int v1]) C0 (c_X12_allYes l v1 hr6) ⟨wd_1668, wd_1665, wd_1667, wp_61, wd_6⟩ kd_X12_allYes ⟨Nat.le_of_ble_eq_true rfl, Nat.le_of_ble_eq_true rfl⟩ hP (lay_X12 B ct S1) rfl rfl hl.1 rfl (Nat.le_of_ble_eq_true rfl) dX12_turn_37 ⟨Nat.le_of_ble_eq_true rfl, Nat.le_of_ble_eq_true rfl⟩) hS (fun H locs hP hS => ?_)
      refine lv_if_eq (tgt := 54) hx hb dX12_turn_40 (by decide) (fun z7 => ?_) (fun z7 => ?_)
      · have h := ob_t h z7
        refine lv_iconst (v := 0) hx hb dX12_turn_54 (by decide) ?_
        refine lv_istore_n (lv' := [(3, .int 0), (0, .ref (B + 136)), (1, .int v1), (2, .int v2)]) hx hb dX12_turn_55 rfl hl (by decide) rfl (fun ls hl => ?_)
        refine lv_bipush (v := (-4)) hx hb dX12_turn_56 (by decide) ?_
        refine lv_istore (lv' := [(4, .int ((-4))), (3, .int 0), (0, .ref (B + 136)), (1, .int v1), (2, .int v2)]) hx hb dX12_turn_58 hl (by decide) rfl (fun ls hl => ?_)
        refine lv_aload_n hx hb dX12_turn_60 rfl (lv_at hl 2 rfl) ?_
        refine x_get C0 hP (lay_X12 B ct r6.2) rfl inG12 9 (by decide) wd_1150 (fun _ h => h) rfl dX12_turn_61 ?_
        refine lv_iconst (v := 3) hx hb dX12_turn_64 (by decide) ?_
        refine lv_icmp_ge (tgt := 163) hx hb dX12_turn_65 (by decide) (fun z8 => ?_) (fun z8 => ?_)
        · have h := ob_t h z8
          exact w_X12_turn_163 l C0 v2 0 ((-4)) r6.2 h hP hS (lv_sub hl [4, 1, 0] rfl)
        · have h := ob_f h z8
          refine lv_aload_n hx hb dX12_turn_68 rfl (lv_at hl 2 rfl) ?_
          refine lv_iconst (v := 0) hx hb dX12_turn_69 (by decide) ?_
          refine lv_iconst (v := 1) hx hb dX12_turn_70 (by decide) ?_
          refine lv_iconst (v := 1) hx hb dX12_turn_71 (by decide) ?_
          refine lv_iconst (v := 0) hx hb dX12_turn_72 (by decide) ?_
          refine lv_iconst (v := 0) hx hb dX12_turn_73 (by decide) ?_
          obtain ⟨r9, hr9, h⟩ := ob_bd h
          refine n_Vw (kV (As := [.int 0, .int 1, .int 1, .int 0, .int 0]) C0 (c_X12_plantComes l 0 1 1 0 0 hr9) ⟨wd_1436, wd_1433, wd_1435, wp_35, wd_6⟩ kd_X12_plantComes ⟨Nat.le_of_ble_eq_true rfl, Nat.le_of_ble_eq_true rfl⟩ hP (lay_X12 B ct r6.2) rfl rfl hl.1 rfl (Nat.le_of_ble_eq_true rfl) dX12_turn_74 ⟨Nat.le_of_ble_eq_true rfl, Nat.le_of_ble_eq_true rfl⟩) hS (fun H locs hP hS => ?_)
          refine lv_iconst (v := 1) hx hb dX12_turn_77 (by decide) ?_
          refine lv_istore (lv' := [(5, .int 1), (4, .int ((-4))), (3, .int 0), (0, .ref (B + 136)), (1, .int v1), (2, .int v2)]) hx hb dX12_turn_78 hl (by decide) rfl (fun ls hl => ?_)
          exact wl_X12_turn_80 l C0 1000 v1 v2 0 ((-4)) 1 r9 h hP hS (lv_sub hl [3, 4, 5, 2, 1, 0] rfl)
      · have h := ob_f h z7
        refine lv_iload_n hx hb dX12_turn_43 rfl (lv_at hl 2 rfl) ?_
        refine lv_if_ne (tgt := 51) hx hb dX12_turn_44 (by decide) (fun z10 => ?_) (fun z10 => ?_)
        · have h := ob_f h z10
          refine lv_bipush (v := (-4)) hx hb dX12_turn_51 (by decide) ?_
          exact r_Iw C0 hP hS h dX12_turn_53
        · have h := ob_t h z10
          refine lv_iconst (v := 0) hx hb dX12_turn_47 (by decide) ?_
          refine lv_goto (tgt := 53) hx hb dX12_turn_48 (by decide) ?_
          exact r_Iw C0 hP hS h dX12_turn_53
    · have h := ob_t h z5
      refine lv_iconst (v := (-1)) hx hb dX12_turn_33 (by decide) ?_
      exact r_Iw C0 hP hS h dX12_turn_34
set_option maxRecDepth 100000 in
set_option maxHeartbeats 4000000 in
theorem c_X12_turn (l : Launch) (a1 : Int32) (a2 : Int32) {D : va_G} {ct : Nat → ClassId} {B : Nat} {Hb : Heap} {S : St} {V : Int32 × St} (h : L_X12_turn a1 a2 S = some V) : Met l yX12_turn (Cond.code yX12_turn cX12_turn 7 (some .int) :: tG) { frames := 8, cells := 0, slots := 0, locals := 183 } (va_Pc [.ref (B + 136), .int a1, .int a2] (MPK D ct B Hb S)) (qIw D ct B Hb V) 0 0 (AB B) := by
  refine mk_met (by decide +kernel) (Nat.le_of_ble_eq_true rfl) (fun p e s m args below meth c ls C0 hP hl _ => ?_)
  have h := ob_of h
  exact w_X12_turn_0 l C0 a1 a2 S h hP va_S.rf (lv_sub hl [0, 1, 2] rfl)
set_option maxRecDepth 100000 in
set_option maxHeartbeats 4000000 in
theorem w_X12_takeChoices_6 (l : Launch) {V : St} (C0 : XC D ct p s m args meth c cX12_takeChoices 2 none RX12) (n0 : Nat) (ih0 : ∀ (v1 : Int32) (S : St) (H : Heap) (locs : List Loc) (ls : Array Slot), (lp n0 (l_X12_takeChoices_6) (v1, S)).bind some = some V → MP D ct B Hb S H → va_S (AB B) s.heap H locs → lv_has ls 2 [(0, .ref (B + 136)), (1, .int v1)] → W p l e { frames := 7, cells := 0, slots := 0, locals := 160 } s m args below meth c H locs 0 0 (MQ below (qVw D ct B Hb V) args s 0 0 (AB B)) (F0 m 6 ls [])) (v1 : Int32) (S : St) {H : Heap} {locs : List Loc} {ls : Array Slot} (h : (b_X12_takeChoices_6 v1 S).bind (lpF n0 (l_X12_takeChoices_6) some) = some V) (hP : MP D ct B Hb S H) (hS : va_S (AB B) s.heap H locs) (hl : lv_has ls 2 [(0, .ref (B + 136)), (1, .int v1)]) : W p l e { frames := 7, cells := 0, slots := 0, locals := 160 } s m args below meth c H locs 0 0 (MQ below (qVw D ct B Hb V) args s 0 0 (AB B)) (F0 m 6 ls []) := by
  obtain ⟨hx, hb, hr, hml, hown, hts, hK, hlocks, hN⟩ := id C0
  unfold b_X12_takeChoices_6 at h
  refine lv_iload_n hx hb dX12_takeChoices_6 rfl (lv_at hl 1 rfl) ?_
  refine lv_bipush (v := 8) hx hb dX12_takeChoices_7 (by decide) ?_
  refine lv_icmp_ge (tgt := 30) hx hb dX12_takeChoices_9 (by decide) (fun z1 => ?_) (fun z1 => ?_)
  · have h := ob_t h z1
    exact r_Vw C0 hP hS h dX12_takeChoices_30
  · have h := ob_f h z1
    refine lv_aload_n hx hb dX12_takeChoices_12 rfl (lv_at hl 0 rfl) ?_
    refine x_get C0 hP (lay_X12 B ct S) rfl inG12 57 (by decide) wd_1198 (fun _ h => h) rfl dX12_takeChoices_13 ?_
    refine lv_iload_n hx hb dX12_takeChoices_16 rfl (lv_at hl 1 rfl) ?_
    refine lv_aload_n hx hb dX12_takeChoices_17 rfl (lv_at hl 0 rfl) ?_
    refine x_get C0 hP (lay_X12 B ct S) rfl inG12 32 (by decide) wd_1173 (fun _ h => h) rfl dX12_takeChoices_18 ?_
    refine lv_iload_n hx hb dX12_takeChoices_21 rfl (lv_at hl 1 rfl) ?_
    obtain ⟨g2, h⟩ := ob_gd h
    refine x_iald C0 hP ((fun S => lay_160 B ct S) S) g2 dX12_takeChoices_22 ?_
    obtain ⟨g3, h⟩ := ob_gd h
    obtain ⟨S4, eS4, h⟩ := ob_nm h
    refine x_iast C0 hP hS (fun S => lay_177 B ct S) g3 dX12_takeChoices_23 (fun H locs hP hS => ?_)
    rw [← eS4] at hP
    refine lv_iinc (v := v1 + 1) (lv' := [(1, .int (v1 + 1)), (0, .ref (B + 136))]) hx hb dX12_takeChoices_24 hl (k := 1) rfl rfl (by decide) rfl (fun ls hl => ?_)
    refine lv_goto (tgt := 6) hx hb dX12_takeChoices_27 (by decide) ?_
    exact ih0 (v1 + 1) S4 _ _ _ h hP hS (lv_sub hl [1, 0] rfl)
set_option maxRecDepth 100000 in
set_option maxHeartbeats 4000000 in
theorem wl_X12_takeChoices_6 (l : Launch) {V : St} (C0 : XC D ct p s m args meth c cX12_takeChoices 2 none RX12)  : ∀ (n0 : Nat) (v1 : Int32) (S : St) {H : Heap} {locs : List Loc} {ls : Array Slot}, (lp n0 (l_X12_takeChoices_6) (v1, S)).bind some = some V → MP D ct B Hb S H → va_S (AB B) s.heap H locs → lv_has ls 2 [(0, .ref (B + 136)), (1, .int v1)] → W p l e { frames := 7, cells := 0, slots := 0, locals := 160 } s m args below meth c H locs 0 0 (MQ below (qVw D ct B Hb V) args s 0 0 (AB B)) (F0 m 6 ls []) := by
  intro n0
  induction n0 with
  | zero =>
    intro v1 S H locs ls h hP hS hl
    exact (lp_0 h).elim
  | succ n0 ih0 =>
    intro v1 S H locs ls h hP hS hl
    have h := lp_s h
    exact w_X12_takeChoices_6 l C0 n0 (fun v1 S H locs ls h hP hS hl => ih0 v1 S h hP hS hl) v1 S h hP hS hl
set_option maxRecDepth 100000 in
set_option maxHeartbeats 4000000 in
theorem w_X12_takeChoices_0 (l : Launch) {V : St} (C0 : XC D ct p s m args meth c cX12_takeChoices 2 none RX12) (S : St) {H : Heap} {locs : List Loc} {ls : Array Slot} (h : (b_X12_takeChoices_0 S).bind some = some V) (hP : MP D ct B Hb S H) (hS : va_S (AB B) s.heap H locs) (hl : lv_has ls 2 [(0, .ref (B + 136))]) : W p l e { frames := 7, cells := 0, slots := 0, locals := 160 } s m args below meth c H locs 0 0 (MQ below (qVw D ct B Hb V) args s 0 0 (AB B)) (F0 m 0 ls []) := by
  obtain ⟨hx, hb, hr, hml, hown, hts, hK, hlocks, hN⟩ := id C0
  unfold b_X12_takeChoices_0 at h
  refine lv_aload_n hx hb dX12_takeChoices_0 rfl (lv_at hl 0 rfl) ?_
  obtain ⟨r1, hr1, h⟩ := ob_bd h
  refine n_Vw (kV (As := []) C0 (c_X12_day l hr1) ⟨wd_1539, wd_1536, wd_1538, wp_43, wd_6⟩ kd_X12_day ⟨Nat.le_of_ble_eq_true rfl, Nat.le_of_ble_eq_true rfl⟩ hP (lay_X12 B ct S) rfl rfl hl.1 rfl (Nat.le_of_ble_eq_true rfl) dX12_takeChoices_1 ⟨Nat.le_of_ble_eq_true rfl, Nat.le_of_ble_eq_true rfl⟩) hS (fun H locs hP hS => ?_)
  refine lv_iconst (v := 0) hx hb dX12_takeChoices_4 (by decide) ?_
  refine lv_istore_n (lv' := [(1, .int 0), (0, .ref (B + 136))]) hx hb dX12_takeChoices_5 rfl hl (by decide) rfl (fun ls hl => ?_)
  exact wl_X12_takeChoices_6 l C0 1000 0 r1 h hP hS (lv_sub hl [1, 0] rfl)
set_option maxRecDepth 100000 in
set_option maxHeartbeats 4000000 in
theorem c_X12_takeChoices (l : Launch) {D : va_G} {ct : Nat → ClassId} {B : Nat} {Hb : Heap} {S : St} {V : St} (h : L_X12_takeChoices S = some V) : Met l yX12_takeChoices (Cond.code yX12_takeChoices cX12_takeChoices 2 none :: tG) { frames := 7, cells := 0, slots := 0, locals := 160 } (va_Pc [.ref (B + 136)] (MPK D ct B Hb S)) (qVw D ct B Hb V) 0 0 (AB B) := by
  refine mk_met (by decide +kernel) (Nat.le_of_ble_eq_true rfl) (fun p e s m args below meth c ls C0 hP hl _ => ?_)
  have h := ob_of h
  exact w_X12_takeChoices_0 l C0 S h hP va_S.rf (lv_sub hl [0] rfl)
set_option maxRecDepth 100000 in
set_option maxHeartbeats 4000000 in
theorem w_X12_otherMany_46 (l : Launch) {V : Int32 × St} (C0 : XC D ct p s m args meth c cX12_otherMany 4 (some .int) RX12) (n0 : Nat) (ih0 : ∀ (v1 : Int32) (v2 : Int32) (v3 : Int32) (S : St) (H : Heap) (locs : List Loc) (ls : Array Slot), (lp n0 (l_X12_otherMany_8) (v1, v2, v3, S)).bind some = some V → MP D ct B Hb S H → va_S (AB B) s.heap H locs → lv_has ls 4 [(0, .ref (B + 136)), (1, .int v1), (2, .int v2), (3, .int v3)] → W p l e { frames := 7, cells := 0, slots := 0, locals := 160 } s m args below meth c H locs 0 0 (MQ below (qIw D ct B Hb V) args s 0 0 (AB B)) (F0 m 8 ls [])) (v1 : Int32) (v3 : Int32) (s0 : Int32) (s1 : Int32) (S : St) {H : Heap} {locs : List Loc} {ls : Array Slot} (h : (b_X12_otherMany_46 v1 v3 s0 s1 S).bind (lpF n0 (l_X12_otherMany_8) some) = some V) (hP : MP D ct B Hb S H) (hS : va_S (AB B) s.heap H locs) (hl : lv_has ls 4 [(0, .ref (B + 136)), (1, .int v1), (3, .int v3)]) : W p l e { frames := 7, cells := 0, slots := 0, locals := 160 } s m args below meth c H locs 0 0 (MQ below (qIw D ct B Hb V) args s 0 0 (AB B)) (F0 m 46 ls [.int s0, .int s1]) := by
  obtain ⟨hx, hb, hr, hml, hown, hts, hK, hlocks, hN⟩ := id C0
  unfold b_X12_otherMany_46 at h
  refine lv_iadd hx hb dX12_otherMany_46 ?_
  refine lv_istore_n (lv' := [(2, .int (s1 + s0)), (0, .ref (B + 136)), (1, .int v1), (3, .int v3)]) hx hb dX12_otherMany_47 rfl hl (by decide) rfl (fun ls hl => ?_)
  refine lv_iinc (v := v3 + 1) (lv' := [(3, .int (v3 + 1)), (2, .int (s1 + s0)), (0, .ref (B + 136)), (1, .int v1)]) hx hb dX12_otherMany_48 hl (k := 3) rfl rfl (by decide) rfl (fun ls hl => ?_)
  refine lv_goto (tgt := 8) hx hb dX12_otherMany_51 (by decide) ?_
  exact ih0 v1 (s1 + s0) (v3 + 1) S _ _ _ h hP hS (lv_sub hl [2, 3, 1, 0] rfl)
set_option maxRecDepth 100000 in
set_option maxHeartbeats 4000000 in
theorem w_X12_otherMany_45 (l : Launch) {V : Int32 × St} (C0 : XC D ct p s m args meth c cX12_otherMany 4 (some .int) RX12) (n0 : Nat) (ih0 : ∀ (v1 : Int32) (v2 : Int32) (v3 : Int32) (S : St) (H : Heap) (locs : List Loc) (ls : Array Slot), (lp n0 (l_X12_otherMany_8) (v1, v2, v3, S)).bind some = some V → MP D ct B Hb S H → va_S (AB B) s.heap H locs → lv_has ls 4 [(0, .ref (B + 136)), (1, .int v1), (2, .int v2), (3, .int v3)] → W p l e { frames := 7, cells := 0, slots := 0, locals := 160 } s m args below meth c H locs 0 0 (MQ below (qIw D ct B Hb V) args s 0 0 (AB B)) (F0 m 8 ls [])) (v1 : Int32) (v3 : Int32) (s0 : Int32) (S : St) {H : Heap} {locs : List Loc} {ls : Array Slot} (h : (b_X12_otherMany_45 v1 v3 s0 S).bind (lpF n0 (l_X12_otherMany_8) some) = some V) (hP : MP D ct B Hb S H) (hS : va_S (AB B) s.heap H locs) (hl : lv_has ls 4 [(0, .ref (B + 136)), (1, .int v1), (3, .int v3)]) : W p l e { frames := 7, cells := 0, slots := 0, locals := 160 } s m args below meth c H locs 0 0 (MQ below (qIw D ct B Hb V) args s 0 0 (AB B)) (F0 m 45 ls [.int s0]) := by
  obtain ⟨hx, hb, hr, hml, hown, hts, hK, hlocks, hN⟩ := id C0
  unfold b_X12_otherMany_45 at h
  refine lv_iconst (v := 0) hx hb dX12_otherMany_45 (by decide) ?_
  exact w_X12_otherMany_46 l C0 n0 ih0 v1 v3 0 s0 S h hP hS (lv_sub hl [0, 1, 2] rfl)
set_option maxRecDepth 100000 in
set_option maxHeartbeats 4000000 in
theorem w_X12_otherMany_8 (l : Launch) {V : Int32 × St} (C0 : XC D ct p s m args meth c cX12_otherMany 4 (some .int) RX12) (n0 : Nat) (ih0 : ∀ (v1 : Int32) (v2 : Int32) (v3 : Int32) (S : St) (H : Heap) (locs : List Loc) (ls : Array Slot), (lp n0 (l_X12_otherMany_8) (v1, v2, v3, S)).bind some = some V → MP D ct B Hb S H → va_S (AB B) s.heap H locs → lv_has ls 4 [(0, .ref (B + 136)), (1, .int v1), (2, .int v2), (3, .int v3)] → W p l e { frames := 7, cells := 0, slots := 0, locals := 160 } s m args below meth c H locs 0 0 (MQ below (qIw D ct B Hb V) args s 0 0 (AB B)) (F0 m 8 ls [])) (v1 : Int32) (v2 : Int32) (v3 : Int32) (S : St) {H : Heap} {locs : List Loc} {ls : Array Slot} (h : (b_X12_otherMany_8 v1 v2 v3 S).bind (lpF n0 (l_X12_otherMany_8) some) = some V) (hP : MP D ct B Hb S H) (hS : va_S (AB B) s.heap H locs) (hl : lv_has ls 4 [(0, .ref (B + 136)), (1, .int v1), (2, .int v2), (3, .int v3)]) : W p l e { frames := 7, cells := 0, slots := 0, locals := 160 } s m args below meth c H locs 0 0 (MQ below (qIw D ct B Hb V) args s 0 0 (AB B)) (F0 m 8 ls []) := by
  obtain ⟨hx, hb, hr, hml, hown, hts, hK, hlocks, hN⟩ := id C0
  unfold b_X12_otherMany_8 at h
  refine lv_iload_n hx hb dX12_otherMany_8 rfl (lv_at hl 3 rfl) ?_
  refine lv_aload_n hx hb dX12_otherMany_9 rfl (lv_at hl 0 rfl) ?_
  refine x_get C0 hP (lay_X12 B ct S) rfl inG12 15 (by decide) wd_1156 (fun _ h => h) rfl dX12_otherMany_10 ?_
  refine lv_icmp_ge (tgt := 54) hx hb dX12_otherMany_13 (by decide) (fun z1 => ?_) (fun z1 => ?_)
  · have h := ob_t h z1
    refine lv_iload_n hx hb dX12_otherMany_54 rfl (lv_at hl 2 rfl) ?_
    exact r_Iw C0 hP hS h dX12_otherMany_55
  · have h := ob_f h z1
    refine lv_iload_n hx hb dX12_otherMany_16 rfl (lv_at hl 2 rfl) ?_
    refine lv_iload_n hx hb dX12_otherMany_17 rfl (lv_at hl 1 rfl) ?_
    refine lv_iload_n hx hb dX12_otherMany_18 rfl (lv_at hl 3 rfl) ?_
    refine lv_ishr hx hb dX12_otherMany_19 ?_
    refine lv_iconst (v := 1) hx hb dX12_otherMany_20 (by decide) ?_
    refine lv_iand hx hb dX12_otherMany_21 ?_
    refine lv_iconst (v := 1) hx hb dX12_otherMany_22 (by decide) ?_
    refine lv_icmp_ne (tgt := 45) hx hb dX12_otherMany_23 (by decide) (fun z2 => ?_) (fun z2 => ?_)
    · have h := ob_f h z2
      exact w_X12_otherMany_45 l C0 n0 ih0 v1 v3 v2 S h hP hS (lv_sub hl [0, 1, 3] rfl)
    · have h := ob_t h z2
      refine lv_aload_n hx hb dX12_otherMany_26 rfl (lv_at hl 0 rfl) ?_
      refine x_get C0 hP (lay_X12 B ct S) rfl inG12 32 (by decide) wd_1173 (fun _ h => h) rfl dX12_otherMany_27 ?_
      refine lv_iload_n hx hb dX12_otherMany_30 rfl (lv_at hl 3 rfl) ?_
      obtain ⟨g3, h⟩ := ob_gd h
      refine x_iald C0 hP ((fun S => lay_160 B ct S) S) g3 dX12_otherMany_31 ?_
      refine lv_aload_n hx hb dX12_otherMany_32 rfl (lv_at hl 0 rfl) ?_
      refine x_get C0 hP (lay_X12 B ct S) rfl inG12 57 (by decide) wd_1198 (fun _ h => h) rfl dX12_otherMany_33 ?_
      refine lv_iload_n hx hb dX12_otherMany_36 rfl (lv_at hl 3 rfl) ?_
      obtain ⟨g4, h⟩ := ob_gd h
      refine x_iald C0 hP ((fun S => lay_177 B ct S) S) g4 dX12_otherMany_37 ?_
      refine lv_icmp_eq (tgt := 45) hx hb dX12_otherMany_38 (by decide) (fun z5 => ?_) (fun z5 => ?_)
      · have h := ob_t h z5
        exact w_X12_otherMany_45 l C0 n0 ih0 v1 v3 v2 S h hP hS (lv_sub hl [0, 1, 3] rfl)
      · have h := ob_f h z5
        refine lv_iconst (v := 1) hx hb dX12_otherMany_41 (by decide) ?_
        refine lv_goto (tgt := 46) hx hb dX12_otherMany_42 (by decide) ?_
        exact w_X12_otherMany_46 l C0 n0 ih0 v1 v3 1 v2 S h hP hS (lv_sub hl [0, 1, 3] rfl)
set_option maxRecDepth 100000 in
set_option maxHeartbeats 4000000 in
theorem wl_X12_otherMany_8 (l : Launch) {V : Int32 × St} (C0 : XC D ct p s m args meth c cX12_otherMany 4 (some .int) RX12)  : ∀ (n0 : Nat) (v1 : Int32) (v2 : Int32) (v3 : Int32) (S : St) {H : Heap} {locs : List Loc} {ls : Array Slot}, (lp n0 (l_X12_otherMany_8) (v1, v2, v3, S)).bind some = some V → MP D ct B Hb S H → va_S (AB B) s.heap H locs → lv_has ls 4 [(0, .ref (B + 136)), (1, .int v1), (2, .int v2), (3, .int v3)] → W p l e { frames := 7, cells := 0, slots := 0, locals := 160 } s m args below meth c H locs 0 0 (MQ below (qIw D ct B Hb V) args s 0 0 (AB B)) (F0 m 8 ls []) := by
  intro n0
  induction n0 with
  | zero =>
    intro v1 v2 v3 S H locs ls h hP hS hl
    exact (lp_0 h).elim
  | succ n0 ih0 =>
    intro v1 v2 v3 S H locs ls h hP hS hl
    have h := lp_s h
    exact w_X12_otherMany_8 l C0 n0 (fun v1 v2 v3 S H locs ls h hP hS hl => ih0 v1 v2 v3 S h hP hS hl) v1 v2 v3 S h hP hS hl
set_option maxRecDepth 100000 in
set_option maxHeartbeats 4000000 in
theorem w_X12_otherMany_0 (l : Launch) {V : Int32 × St} (C0 : XC D ct p s m args meth c cX12_otherMany 4 (some .int) RX12) (v1 : Int32) (S : St) {H : Heap} {locs : List Loc} {ls : Array Slot} (h : (b_X12_otherMany_0 v1 S).bind some = some V) (hP : MP D ct B Hb S H) (hS : va_S (AB B) s.heap H locs) (hl : lv_has ls 4 [(0, .ref (B + 136)), (1, .int v1)]) : W p l e { frames := 7, cells := 0, slots := 0, locals := 160 } s m args below meth c H locs 0 0 (MQ below (qIw D ct B Hb V) args s 0 0 (AB B)) (F0 m 0 ls []) := by
  obtain ⟨hx, hb, hr, hml, hown, hts, hK, hlocks, hN⟩ := id C0
  unfold b_X12_otherMany_0 at h
  refine lv_aload_n hx hb dX12_otherMany_0 rfl (lv_at hl 0 rfl) ?_
  obtain ⟨r1, hr1, h⟩ := ob_bd h
  refine n_Vw (kV (As := []) C0 (c_X12_day l hr1) ⟨wd_1539, wd_1536, wd_1538, wp_43, wd_6⟩ kd_X12_day ⟨Nat.le_of_ble_eq_true rfl, Nat.le_of_ble_eq_true rfl⟩ hP (lay_X12 B ct S) rfl rfl hl.1 rfl (Nat.le_of_ble_eq_true rfl) dX12_otherMany_1 ⟨Nat.le_of_ble_eq_true rfl, Nat.le_of_ble_eq_true rfl⟩) hS (fun H locs hP hS => ?_)
  refine lv_iconst (v := 0) hx hb dX12_otherMany_4 (by decide) ?_
  refine lv_istore_n (lv' := [(2, .int 0), (0, .ref (B + 136)), (1, .int v1)]) hx hb dX12_otherMany_5 rfl hl (by decide) rfl (fun ls hl => ?_)
  refine lv_iconst (v := 0) hx hb dX12_otherMany_6 (by decide) ?_
  refine lv_istore_n (lv' := [(3, .int 0), (2, .int 0), (0, .ref (B + 136)), (1, .int v1)]) hx hb dX12_otherMany_7 rfl hl (by decide) rfl (fun ls hl => ?_)
  exact wl_X12_otherMany_8 l C0 1000 v1 0 0 r1 h hP hS (lv_sub hl [2, 3, 1, 0] rfl)
set_option maxRecDepth 100000 in
set_option maxHeartbeats 4000000 in
theorem c_X12_otherMany (l : Launch) (a1 : Int32) {D : va_G} {ct : Nat → ClassId} {B : Nat} {Hb : Heap} {S : St} {V : Int32 × St} (h : L_X12_otherMany a1 S = some V) : Met l yX12_otherMany (Cond.code yX12_otherMany cX12_otherMany 4 (some .int) :: tG) { frames := 7, cells := 0, slots := 0, locals := 160 } (va_Pc [.ref (B + 136), .int a1] (MPK D ct B Hb S)) (qIw D ct B Hb V) 0 0 (AB B) := by
  refine mk_met (by decide +kernel) (Nat.le_of_ble_eq_true rfl) (fun p e s m args below meth c ls C0 hP hl _ => ?_)
  have h := ob_of h
  exact w_X12_otherMany_0 l C0 a1 S h hP va_S.rf (lv_sub hl [0, 1] rfl)
set_option maxRecDepth 100000 in
set_option maxHeartbeats 4000000 in
theorem w_X12_guard_96 (l : Launch) {V : Int32 × St} (C0 : XC D ct p s m args meth c cX12_guard 6 (some .int) RX12) (v2 : Int32) (v3 : Int32) (S : St) {H : Heap} {locs : List Loc} {ls : Array Slot} (h : (b_X12_guard_96 v2 v3 S).bind some = some V) (hP : MP D ct B Hb S H) (hS : va_S (AB B) s.heap H locs) (hl : lv_has ls 6 [(0, .ref (B + 136)), (2, .int v2), (3, .int v3)]) : W p l e { frames := 8, cells := 0, slots := 0, locals := 183 } s m args below meth c H locs 0 0 (MQ below (qIw D ct B Hb V) args s 0 0 (AB B)) (F0 m 96 ls []) := by
  obtain ⟨hx, hb, hr, hml, hown, hts, hK, hlocks, hN⟩ := id C0
  unfold b_X12_guard_96 at h
  refine lv_aload_n hx hb dX12_guard_96 rfl (lv_at hl 0 rfl) ?_
  refine lv_iload_n hx hb dX12_guard_97 rfl (lv_at hl 2 rfl) ?_
  obtain ⟨S1, eS1, h⟩ := ob_nm h
  refine x_put (S' := si S 136 7 v3) (FS := (fs12 B)) C0 hP hS (fun S => lay_X12 B ct S) rfl inG12 tyX12 tyX12_ok nmX12 7 (by decide) wd_1148 rfl rfl (fun a ha => lay_local (gi_si_n _ _ _ ha) rfl rfl rfl) (put_12_7 B _ _) rfl rfl (Nat.le_of_ble_eq_true rfl) dX12_guard_98 (fun H locs hP hS => ?_)
  rw [← eS1] at hP
  refine lv_iload_n hx hb dX12_guard_101 rfl (lv_at hl 1 rfl) ?_
  exact r_Iw C0 hP hS h dX12_guard_102
set_option maxRecDepth 100000 in
set_option maxHeartbeats 4000000 in
theorem w_X12_guard_89 (l : Launch) {V : Int32 × St} (C0 : XC D ct p s m args meth c cX12_guard 6 (some .int) RX12) (n0 : Nat) (ih0 : ∀ (v1 : Int32) (v2 : Int32) (v3 : Int32) (v4 : Int32) (v5 : Int32) (S : St) (H : Heap) (locs : List Loc) (ls : Array Slot), (lp n0 (l_X12_guard_42) (v1, v2, v3, v4, v5, S)).bind some = some V → MP D ct B Hb S H → va_S (AB B) s.heap H locs → lv_has ls 6 [(0, .ref (B + 136)), (1, .int v1), (2, .int v2), (3, .int v3), (4, .int v4), (5, .int v5)] → W p l e { frames := 8, cells := 0, slots := 0, locals := 183 } s m args below meth c H locs 0 0 (MQ below (qIw D ct B Hb V) args s 0 0 (AB B)) (F0 m 42 ls [])) (v1 : Int32) (v3 : Int32) (v4 : Int32) (v5 : Int32) (s0 : Int32) (S : St) {H : Heap} {locs : List Loc} {ls : Array Slot} (h : (b_X12_guard_89 v1 v3 v4 v5 s0 S).bind (lpF n0 (l_X12_guard_42) some) = some V) (hP : MP D ct B Hb S H) (hS : va_S (AB B) s.heap H locs) (hl : lv_has ls 6 [(0, .ref (B + 136)), (1, .int v1), (3, .int v3), (4, .int v4), (5, .int v5)]) : W p l e { frames := 8, cells := 0, slots := 0, locals := 183 } s m args below meth c H locs 0 0 (MQ below (qIw D ct B Hb V) args s 0 0 (AB B)) (F0 m 89 ls [.int s0]) := by
  obtain ⟨hx, hb, hr, hml, hown, hts, hK, hlocks, hN⟩ := id C0
  unfold b_X12_guard_89 at h
  refine lv_istore_n (lv' := [(2, .int s0), (0, .ref (B + 136)), (1, .int v1), (3, .int v3), (4, .int v4), (5, .int v5)]) hx hb dX12_guard_89 rfl hl (by decide) rfl (fun ls hl => ?_)
  refine lv_iinc (v := v5 + 1) (lv' := [(5, .int (v5 + 1)), (2, .int s0), (0, .ref (B + 136)), (1, .int v1), (3, .int v3), (4, .int v4)]) hx hb dX12_guard_90 hl (k := 5) rfl rfl (by decide) rfl (fun ls hl => ?_)
  refine lv_goto (tgt := 42) hx hb dX12_guard_93 (by decide) ?_
  exact ih0 v1 s0 v3 v4 (v5 + 1) S _ _ _ h hP hS (lv_sub hl [2, 3, 1, 4, 5, 0] rfl)
set_option maxRecDepth 100000 in
set_option maxHeartbeats 4000000 in
theorem w_X12_guard_42 (l : Launch) {V : Int32 × St} (C0 : XC D ct p s m args meth c cX12_guard 6 (some .int) RX12) (n0 : Nat) (ih0 : ∀ (v1 : Int32) (v2 : Int32) (v3 : Int32) (v4 : Int32) (v5 : Int32) (S : St) (H : Heap) (locs : List Loc) (ls : Array Slot), (lp n0 (l_X12_guard_42) (v1, v2, v3, v4, v5, S)).bind some = some V → MP D ct B Hb S H → va_S (AB B) s.heap H locs → lv_has ls 6 [(0, .ref (B + 136)), (1, .int v1), (2, .int v2), (3, .int v3), (4, .int v4), (5, .int v5)] → W p l e { frames := 8, cells := 0, slots := 0, locals := 183 } s m args below meth c H locs 0 0 (MQ below (qIw D ct B Hb V) args s 0 0 (AB B)) (F0 m 42 ls [])) (v1 : Int32) (v2 : Int32) (v3 : Int32) (v4 : Int32) (v5 : Int32) (S : St) {H : Heap} {locs : List Loc} {ls : Array Slot} (h : (b_X12_guard_42 v1 v2 v3 v4 v5 S).bind (lpF n0 (l_X12_guard_42) some) = some V) (hP : MP D ct B Hb S H) (hS : va_S (AB B) s.heap H locs) (hl : lv_has ls 6 [(0, .ref (B + 136)), (1, .int v1), (2, .int v2), (3, .int v3), (4, .int v4), (5, .int v5)]) : W p l e { frames := 8, cells := 0, slots := 0, locals := 183 } s m args below meth c H locs 0 0 (MQ below (qIw D ct B Hb V) args s 0 0 (AB B)) (F0 m 42 ls []) := by
  obtain ⟨hx, hb, hr, hml, hown, hts, hK, hlocks, hN⟩ := id C0
  unfold b_X12_guard_42 at h
  refine lv_iload hx hb dX12_guard_42 (lv_at hl 5 rfl) ?_
  refine lv_bipush (v := 9) hx hb dX12_guard_44 (by decide) ?_
  refine lv_icmp_gt (tgt := 96) hx hb dX12_guard_46 (by decide) (fun z1 => ?_) (fun z1 => ?_)
  · have h := ob_t h z1
    have h := ob_mp h
    exact w_X12_guard_96 l C0 v2 v3 S h hP hS (lv_sub hl [0, 2, 3] rfl)
  · have h := ob_f h z1
    refine lv_iload_n hx hb dX12_guard_49 rfl (lv_at hl 2 rfl) ?_
    refine lv_if_ge (tgt := 96) hx hb dX12_guard_50 (by decide) (fun z2 => ?_) (fun z2 => ?_)
    · have h := ob_t h z2
      have h := ob_mp h
      exact w_X12_guard_96 l C0 v2 v3 S h hP hS (lv_sub hl [0, 2, 3] rfl)
    · have h := ob_f h z2
      refine lv_aload_n hx hb dX12_guard_53 rfl (lv_at hl 0 rfl) ?_
      refine lv_iload hx hb dX12_guard_54 (lv_at hl 5 rfl) ?_
      obtain ⟨S3, eS3, h⟩ := ob_nm h
      refine x_put (S' := si S 136 7 v5) (FS := (fs12 B)) C0 hP hS (fun S => lay_X12 B ct S) rfl inG12 tyX12 tyX12_ok nmX12 7 (by decide) wd_1148 rfl rfl (fun a ha => lay_local (gi_si_n _ _ _ ha) rfl rfl rfl) (put_12_7 B _ _) rfl rfl (Nat.le_of_ble_eq_true rfl) dX12_guard_56 (fun H locs hP hS => ?_)
      rw [← eS3] at hP
      refine lv_aload_n hx hb dX12_guard_59 rfl (lv_at hl 0 rfl) ?_
      refine lv_iconst (v := 0) hx hb dX12_guard_60 (by decide) ?_
      obtain ⟨S4, eS4, h⟩ := ob_nm h
      refine x_put (S' := si S3 136 9 0) (FS := (fs12 B)) C0 hP hS (fun S => lay_X12 B ct S) rfl inG12 tyX12 tyX12_ok nmX12 9 (by decide) wd_1150 rfl rfl (fun a ha => lay_local (gi_si_n _ _ _ ha) rfl rfl rfl) (put_12_9 B _ _) rfl rfl (Nat.le_of_ble_eq_true rfl) dX12_guard_61 (fun H locs hP hS => ?_)
      rw [← eS4] at hP
      refine lv_aload_n hx hb dX12_guard_64 rfl (lv_at hl 0 rfl) ?_
      obtain ⟨r5, hr5, h⟩ := ob_bd h
      refine n_Vw (kV (As := []) C0 (c_X12_takeChoices l hr5) ⟨wd_1676, wd_1673, wd_1675, wp_62, wd_6⟩ kd_X12_takeChoices ⟨Nat.le_of_ble_eq_true rfl, Nat.le_of_ble_eq_true rfl⟩ hP (lay_X12 B ct S4) rfl rfl hl.1 rfl (Nat.le_of_ble_eq_true rfl) dX12_guard_65 ⟨Nat.le_of_ble_eq_true rfl, Nat.le_of_ble_eq_true rfl⟩) hS (fun H locs hP hS => ?_)
      refine lv_aload_n hx hb dX12_guard_68 rfl (lv_at hl 0 rfl) ?_
      refine lv_iload hx hb dX12_guard_69 (lv_at hl 4 rfl) ?_
      obtain ⟨S6, eS6, h⟩ := ob_nm h
      refine x_put (S' := si r5 136 9 v4) (FS := (fs12 B)) C0 hP hS (fun S => lay_X12 B ct S) rfl inG12 tyX12 tyX12_ok nmX12 9 (by decide) wd_1150 rfl rfl (fun a ha => lay_local (gi_si_n _ _ _ ha) rfl rfl rfl) (put_12_9 B _ _) rfl rfl (Nat.le_of_ble_eq_true rfl) dX12_guard_71 (fun H locs hP hS => ?_)
      rw [← eS6] at hP
      refine lv_aload_n hx hb dX12_guard_74 rfl (lv_at hl 0 rfl) ?_
      refine lv_iload_n hx hb dX12_guard_75 rfl (lv_at hl 1 rfl) ?_
      obtain ⟨r7, hr7, h⟩ := ob_bd h
      refine n_Iw (kV (As := [.int v1]) C0 (c_X12_otherMany l v1 hr7) ⟨wd_1680, wd_1677, wd_1679, wp_63, wd_6⟩ kd_X12_otherMany ⟨Nat.le_of_ble_eq_true rfl, Nat.le_of_ble_eq_true rfl⟩ hP (lay_X12 B ct S6) rfl rfl hl.1 rfl (Nat.le_of_ble_eq_true rfl) dX12_guard_76 ⟨Nat.le_of_ble_eq_true rfl, Nat.le_of_ble_eq_true rfl⟩) hS (fun H locs hP hS => ?_)
      refine lv_if_ne (tgt := 87) hx hb dX12_guard_79 (by decide) (fun z8 => ?_) (fun z8 => ?_)
      · have h := ob_f h z8
        refine lv_bipush (v := (-4)) hx hb dX12_guard_87 (by decide) ?_
        exact w_X12_guard_89 l C0 n0 ih0 v1 v3 v4 v5 ((-4)) r7.2 h hP hS (lv_sub hl [0, 1, 3, 4, 5] rfl)
      · have h := ob_t h z8
        refine lv_iload hx hb dX12_guard_82 (lv_at hl 5 rfl) ?_
        refine lv_goto (tgt := 89) hx hb dX12_guard_84 (by decide) ?_
        exact w_X12_guard_89 l C0 n0 ih0 v1 v3 v4 v5 v5 r7.2 h hP hS (lv_sub hl [0, 1, 3, 4, 5] rfl)
set_option maxRecDepth 100000 in
set_option maxHeartbeats 4000000 in
theorem wl_X12_guard_42 (l : Launch) {V : Int32 × St} (C0 : XC D ct p s m args meth c cX12_guard 6 (some .int) RX12)  : ∀ (n0 : Nat) (v1 : Int32) (v2 : Int32) (v3 : Int32) (v4 : Int32) (v5 : Int32) (S : St) {H : Heap} {locs : List Loc} {ls : Array Slot}, (lp n0 (l_X12_guard_42) (v1, v2, v3, v4, v5, S)).bind some = some V → MP D ct B Hb S H → va_S (AB B) s.heap H locs → lv_has ls 6 [(0, .ref (B + 136)), (1, .int v1), (2, .int v2), (3, .int v3), (4, .int v4), (5, .int v5)] → W p l e { frames := 8, cells := 0, slots := 0, locals := 183 } s m args below meth c H locs 0 0 (MQ below (qIw D ct B Hb V) args s 0 0 (AB B)) (F0 m 42 ls []) := by
  intro n0
  induction n0 with
  | zero =>
    intro v1 v2 v3 v4 v5 S H locs ls h hP hS hl
    exact (lp_0 h).elim
  | succ n0 ih0 =>
    intro v1 v2 v3 v4 v5 S H locs ls h hP hS hl
    have h := lp_s h
    exact w_X12_guard_42 l C0 n0 (fun v1 v2 v3 v4 v5 S H locs ls h hP hS hl => ih0 v1 v2 v3 v4 v5 S h hP hS hl) v1 v2 v3 v4 v5 S h hP hS hl
set_option maxRecDepth 100000 in
set_option maxHeartbeats 4000000 in
theorem w_X12_guard_0 (l : Launch) {V : Int32 × St} (C0 : XC D ct p s m args meth c cX12_guard 6 (some .int) RX12) (v1 : Int32) (S : St) {H : Heap} {locs : List Loc} {ls : Array Slot} (h : (b_X12_guard_0 v1 S).bind some = some V) (hP : MP D ct B Hb S H) (hS : va_S (AB B) s.heap H locs) (hl : lv_has ls 6 [(0, .ref (B + 136)), (1, .int v1)]) : W p l e { frames := 8, cells := 0, slots := 0, locals := 183 } s m args below meth c H locs 0 0 (MQ below (qIw D ct B Hb V) args s 0 0 (AB B)) (F0 m 0 ls []) := by
  obtain ⟨hx, hb, hr, hml, hown, hts, hK, hlocks, hN⟩ := id C0
  unfold b_X12_guard_0 at h
  refine lv_aload_n hx hb dX12_guard_0 rfl (lv_at hl 0 rfl) ?_
  refine lv_iconst (v := 0) hx hb dX12_guard_1 (by decide) ?_
  obtain ⟨S1, eS1, h⟩ := ob_nm h
  refine x_put (S' := si S 136 28 0) (FS := (fs12 B)) C0 hP hS (fun S => lay_X12 B ct S) rfl inG12 tyX12 tyX12_ok nmX12 28 (by decide) wd_1169 rfl rfl (fun a ha => lay_local (gi_si_n _ _ _ ha) rfl rfl rfl) (put_12_28 B _ _) rfl rfl (Nat.le_of_ble_eq_true rfl) dX12_guard_2 (fun H locs hP hS => ?_)
  rw [← eS1] at hP
  refine lv_iload_n hx hb dX12_guard_5 rfl (lv_at hl 1 rfl) ?_
  refine lv_i2l hx hb dX12_guard_6 rfl ?_
  refine lv_lconst (v := 0) hx hb dX12_guard_7 (by decide) ?_
  refine lv_iconst (v := 1) hx hb dX12_guard_8 (by decide) ?_
  refine lv_aload_n hx hb dX12_guard_9 rfl (lv_at hl 0 rfl) ?_
  refine x_get C0 hP (lay_X12 B ct S1) rfl inG12 15 (by decide) wd_1156 (fun _ h => h) rfl dX12_guard_10 ?_
  refine lv_ishl hx hb dX12_guard_13 ?_
  refine lv_iconst (v := 1) hx hb dX12_guard_14 (by decide) ?_
  refine lv_isub hx hb dX12_guard_15 ?_
  refine lv_i2l hx hb dX12_guard_16 rfl ?_
  obtain ⟨r2, hr2, h⟩ := ob_bd h
  refine n_I (kS (As := [.long v1.toInt64, .long 0, .long ((((1 : Int32) <<< ((gi S1 136 15) &&& 31)) - 1).toInt64)]) C0 (c_X12_in l v1.toInt64 0 ((((1 : Int32) <<< ((gi S1 136 15) &&& 31)) - 1).toInt64) hr2) ⟨wd_1370, wd_1368, wd_1369, wd_6⟩ kd_X12_in ⟨Nat.le_of_ble_eq_true rfl, Nat.le_of_ble_eq_true rfl⟩ hP rfl hl.1 rfl (Nat.le_of_ble_eq_true rfl) dX12_guard_17 ⟨Nat.le_of_ble_eq_true rfl, Nat.le_of_ble_eq_true rfl⟩) hS (fun H locs hP hS => ?_)
  refine lv_if_ne (tgt := 25) hx hb dX12_guard_20 (by decide) (fun z3 => ?_) (fun z3 => ?_)
  · have h := ob_f h z3
    refine lv_bipush (v := (-4)) hx hb dX12_guard_25 (by decide) ?_
    refine lv_istore_n (lv' := [(2, .int ((-4))), (0, .ref (B + 136)), (1, .int v1)]) hx hb dX12_guard_27 rfl hl (by decide) rfl (fun ls hl => ?_)
    refine lv_aload_n hx hb dX12_guard_28 rfl (lv_at hl 1 rfl) ?_
    refine x_get C0 hP (lay_X12 B ct S1) rfl inG12 7 (by decide) wd_1148 (fun _ h => h) rfl dX12_guard_29 ?_
    refine lv_istore_n (lv' := [(3, .int (gi S1 136 7)), (2, .int ((-4))), (0, .ref (B + 136)), (1, .int v1)]) hx hb dX12_guard_32 rfl hl (by decide) rfl (fun ls hl => ?_)
    refine lv_aload_n hx hb dX12_guard_33 rfl (lv_at hl 2 rfl) ?_
    refine x_get C0 hP (lay_X12 B ct S1) rfl inG12 9 (by decide) wd_1150 (fun _ h => h) rfl dX12_guard_34 ?_
    refine lv_istore (lv' := [(4, .int (gi S1 136 9)), (3, .int (gi S1 136 7)), (2, .int ((-4))), (0, .ref (B + 136)), (1, .int v1)]) hx hb dX12_guard_37 hl (by decide) rfl (fun ls hl => ?_)
    refine lv_iconst (v := 0) hx hb dX12_guard_39 (by decide) ?_
    refine lv_istore (lv' := [(5, .int 0), (4, .int (gi S1 136 9)), (3, .int (gi S1 136 7)), (2, .int ((-4))), (0, .ref (B + 136)), (1, .int v1)]) hx hb dX12_guard_40 hl (by decide) rfl (fun ls hl => ?_)
    exact wl_X12_guard_42 l C0 1000 v1 ((-4)) (gi S1 136 7) (gi S1 136 9) 0 S1 h hP hS (lv_sub hl [4, 5, 3, 2, 1, 0] rfl)
  · have h := ob_t h z3
    refine lv_iconst (v := (-1)) hx hb dX12_guard_23 (by decide) ?_
    exact r_Iw C0 hP hS h dX12_guard_24
set_option maxRecDepth 100000 in
set_option maxHeartbeats 4000000 in
theorem c_X12_guard (l : Launch) (a1 : Int32) {D : va_G} {ct : Nat → ClassId} {B : Nat} {Hb : Heap} {S : St} {V : Int32 × St} (h : L_X12_guard a1 S = some V) : Met l yX12_guard (Cond.code yX12_guard cX12_guard 6 (some .int) :: tG) { frames := 8, cells := 0, slots := 0, locals := 183 } (va_Pc [.ref (B + 136), .int a1] (MPK D ct B Hb S)) (qIw D ct B Hb V) 0 0 (AB B) := by
  refine mk_met (by decide +kernel) (Nat.le_of_ble_eq_true rfl) (fun p e s m args below meth c ls C0 hP hl _ => ?_)
  have h := ob_of h
  exact w_X12_guard_0 l C0 a1 S h hP va_S.rf (lv_sub hl [0, 1] rfl)
set_option maxRecDepth 100000 in
set_option maxHeartbeats 4000000 in
theorem w_X12_law_0 (l : Launch) {V : Int32 × St} (C0 : XC D ct p s m args meth c cX12_law 4 (some .int) RX12) (v1 : Int32) (S : St) {H : Heap} {locs : List Loc} {ls : Array Slot} (h : (b_X12_law_0 v1 S).bind some = some V) (hP : MP D ct B Hb S H) (hS : va_S (AB B) s.heap H locs) (hl : lv_has ls 4 [(0, .ref (B + 136)), (1, .int v1)]) : W p l e { frames := 8, cells := 0, slots := 0, locals := 183 } s m args below meth c H locs 0 0 (MQ below (qIw D ct B Hb V) args s 0 0 (AB B)) (F0 m 0 ls []) := by
  obtain ⟨hx, hb, hr, hml, hown, hts, hK, hlocks, hN⟩ := id C0
  unfold b_X12_law_0 at h
  refine lv_aload_n hx hb dX12_law_0 rfl (lv_at hl 0 rfl) ?_
  refine lv_iconst (v := 0) hx hb dX12_law_1 (by decide) ?_
  obtain ⟨S1, eS1, h⟩ := ob_nm h
  refine x_put (S' := si S 136 28 0) (FS := (fs12 B)) C0 hP hS (fun S => lay_X12 B ct S) rfl inG12 tyX12 tyX12_ok nmX12 28 (by decide) wd_1169 rfl rfl (fun a ha => lay_local (gi_si_n _ _ _ ha) rfl rfl rfl) (put_12_28 B _ _) rfl rfl (Nat.le_of_ble_eq_true rfl) dX12_law_2 (fun H locs hP hS => ?_)
  rw [← eS1] at hP
  refine lv_iload_n hx hb dX12_law_5 rfl (lv_at hl 1 rfl) ?_
  refine lv_i2l hx hb dX12_law_6 rfl ?_
  refine lv_lconst (v := 0) hx hb dX12_law_7 (by decide) ?_
  refine lv_ldc2 (v := 9) hx hb hown (hts _ wd_1458) dX12_law_8 ?_
  obtain ⟨r2, hr2, h⟩ := ob_bd h
  refine n_I (kS (As := [.long v1.toInt64, .long 0, .long 9]) C0 (c_X12_in l v1.toInt64 0 9 hr2) ⟨wd_1370, wd_1368, wd_1369, wd_6⟩ kd_X12_in ⟨Nat.le_of_ble_eq_true rfl, Nat.le_of_ble_eq_true rfl⟩ hP rfl hl.1 rfl (Nat.le_of_ble_eq_true rfl) dX12_law_11 ⟨Nat.le_of_ble_eq_true rfl, Nat.le_of_ble_eq_true rfl⟩) hS (fun H locs hP hS => ?_)
  refine lv_if_ne (tgt := 19) hx hb dX12_law_14 (by decide) (fun z3 => ?_) (fun z3 => ?_)
  · have h := ob_f h z3
    refine lv_aload_n hx hb dX12_law_19 rfl (lv_at hl 0 rfl) ?_
    refine x_get C0 hP (lay_X12 B ct S1) rfl inG12 7 (by decide) wd_1148 (fun _ h => h) rfl dX12_law_20 ?_
    refine lv_istore_n (lv' := [(2, .int (gi S1 136 7)), (0, .ref (B + 136)), (1, .int v1)]) hx hb dX12_law_23 rfl hl (by decide) rfl (fun ls hl => ?_)
    refine lv_aload_n hx hb dX12_law_24 rfl (lv_at hl 1 rfl) ?_
    obtain ⟨r4, hr4, h⟩ := ob_bd h
    refine n_Vw (kV (As := []) C0 (c_X12_takeChoices l hr4) ⟨wd_1676, wd_1673, wd_1675, wp_62, wd_6⟩ kd_X12_takeChoices ⟨Nat.le_of_ble_eq_true rfl, Nat.le_of_ble_eq_true rfl⟩ hP (lay_X12 B ct S1) rfl rfl hl.1 rfl (Nat.le_of_ble_eq_true rfl) dX12_law_25 ⟨Nat.le_of_ble_eq_true rfl, Nat.le_of_ble_eq_true rfl⟩) hS (fun H locs hP hS => ?_)
    refine lv_aload_n hx hb dX12_law_28 rfl (lv_at hl 1 rfl) ?_
    refine lv_iload_n hx hb dX12_law_29 rfl (lv_at hl 2 rfl) ?_
    obtain ⟨S5, eS5, h⟩ := ob_nm h
    refine x_put (S' := si r4 136 7 v1) (FS := (fs12 B)) C0 hP hS (fun S => lay_X12 B ct S) rfl inG12 tyX12 tyX12_ok nmX12 7 (by decide) wd_1148 rfl rfl (fun a ha => lay_local (gi_si_n _ _ _ ha) rfl rfl rfl) (put_12_7 B _ _) rfl rfl (Nat.le_of_ble_eq_true rfl) dX12_law_30 (fun H locs hP hS => ?_)
    rw [← eS5] at hP
    refine lv_aload_n hx hb dX12_law_33 rfl (lv_at hl 1 rfl) ?_
    refine lv_sipush (v := 255) hx hb dX12_law_34 (by decide) ?_
    obtain ⟨r6, hr6, h⟩ := ob_bd h
    refine n_Iw (kV (As := [.int 255]) C0 (c_X12_otherMany l 255 hr6) ⟨wd_1680, wd_1677, wd_1679, wp_63, wd_6⟩ kd_X12_otherMany ⟨Nat.le_of_ble_eq_true rfl, Nat.le_of_ble_eq_true rfl⟩ hP (lay_X12 B ct S5) rfl rfl hl.1 rfl (Nat.le_of_ble_eq_true rfl) dX12_law_37 ⟨Nat.le_of_ble_eq_true rfl, Nat.le_of_ble_eq_true rfl⟩) hS (fun H locs hP hS => ?_)
    refine lv_istore_n (lv' := [(3, .int r6.1), (2, .int (gi S1 136 7)), (0, .ref (B + 136)), (1, .int v1)]) hx hb dX12_law_40 rfl hl (by decide) rfl (fun ls hl => ?_)
    refine lv_aload_n hx hb dX12_law_41 rfl (lv_at hl 2 rfl) ?_
    refine lv_iload_n hx hb dX12_law_42 rfl (lv_at hl 1 rfl) ?_
    obtain ⟨S7, eS7, h⟩ := ob_nm h
    refine x_put (S' := si r6.2 136 7 (gi S1 136 7)) (FS := (fs12 B)) C0 hP hS (fun S => lay_X12 B ct S) rfl inG12 tyX12 tyX12_ok nmX12 7 (by decide) wd_1148 rfl rfl (fun a ha => lay_local (gi_si_n _ _ _ ha) rfl rfl rfl) (put_12_7 B _ _) rfl rfl (Nat.le_of_ble_eq_true rfl) dX12_law_43 (fun H locs hP hS => ?_)
    rw [← eS7] at hP
    refine lv_iload_n hx hb dX12_law_46 rfl (lv_at hl 0 rfl) ?_
    exact r_Iw C0 hP hS h dX12_law_47
  · have h := ob_t h z3
    refine lv_iconst (v := (-1)) hx hb dX12_law_17 (by decide) ?_
    exact r_Iw C0 hP hS h dX12_law_18
set_option maxRecDepth 100000 in
set_option maxHeartbeats 4000000 in
theorem c_X12_law (l : Launch) (a1 : Int32) {D : va_G} {ct : Nat → ClassId} {B : Nat} {Hb : Heap} {S : St} {V : Int32 × St} (h : L_X12_law a1 S = some V) : Met l yX12_law (Cond.code yX12_law cX12_law 4 (some .int) :: tG) { frames := 8, cells := 0, slots := 0, locals := 183 } (va_Pc [.ref (B + 136), .int a1] (MPK D ct B Hb S)) (qIw D ct B Hb V) 0 0 (AB B) := by
  refine mk_met (by decide +kernel) (Nat.le_of_ble_eq_true rfl) (fun p e s m args below meth c ls C0 hP hl _ => ?_)
  have h := ob_of h
  exact w_X12_law_0 l C0 a1 S h hP va_S.rf (lv_sub hl [0, 1] rfl)
set_option maxRecDepth 100000 in
set_option maxHeartbeats 4000000 in
theorem w_X12_bestRate_65 (l : Launch) {V : Int32 × St} (C0 : XC D ct p s m args meth c cX12_bestRate 6 (some .int) RX12) (n0 : Nat) (ih0 : ∀ (v1 : Int32) (v2 : Int32) (v3 : Int32) (v4 : Int32) (S : St) (H : Heap) (locs : List Loc) (ls : Array Slot), (lp n0 (l_X12_bestRate_17) (v1, v2, v3, v4, S)).bind some = some V → MP D ct B Hb S H → va_S (AB B) s.heap H locs → lv_has ls 6 [(0, .ref (B + 136)), (1, .int v1), (2, .int v2), (3, .int v3), (4, .int v4)] → W p l e { frames := 7, cells := 0, slots := 0, locals := 160 } s m args below meth c H locs 0 0 (MQ below (qIw D ct B Hb V) args s 0 0 (AB B)) (F0 m 17 ls [])) (v1 : Int32) (v2 : Int32) (v4 : Int32) (s0 : Int32) (S : St) {H : Heap} {locs : List Loc} {ls : Array Slot} (h : (b_X12_bestRate_65 v1 v2 v4 s0 S).bind (lpF n0 (l_X12_bestRate_17) some) = some V) (hP : MP D ct B Hb S H) (hS : va_S (AB B) s.heap H locs) (hl : lv_has ls 6 [(0, .ref (B + 136)), (1, .int v1), (2, .int v2), (4, .int v4)]) : W p l e { frames := 7, cells := 0, slots := 0, locals := 160 } s m args below meth c H locs 0 0 (MQ below (qIw D ct B Hb V) args s 0 0 (AB B)) (F0 m 65 ls [.int s0]) := by
  obtain ⟨hx, hb, hr, hml, hown, hts, hK, hlocks, hN⟩ := id C0
  unfold b_X12_bestRate_65 at h
  refine lv_istore_n (lv' := [(3, .int s0), (0, .ref (B + 136)), (1, .int v1), (2, .int v2), (4, .int v4)]) hx hb dX12_bestRate_65 rfl hl (by decide) rfl (fun ls hl => ?_)
  refine lv_iinc (v := v4 + 1) (lv' := [(4, .int (v4 + 1)), (3, .int s0), (0, .ref (B + 136)), (1, .int v1), (2, .int v2)]) hx hb dX12_bestRate_66 hl (k := 4) rfl rfl (by decide) rfl (fun ls hl => ?_)
  refine lv_goto (tgt := 17) hx hb dX12_bestRate_69 (by decide) ?_
  exact ih0 v1 v2 s0 (v4 + 1) S _ _ _ h hP hS (lv_sub hl [2, 3, 4, 1, 0] rfl)
set_option maxRecDepth 100000 in
set_option maxHeartbeats 4000000 in
theorem w_X12_bestRate_52 (l : Launch) {V : Int32 × St} (C0 : XC D ct p s m args meth c cX12_bestRate 6 (some .int) RX12) (n0 : Nat) (ih0 : ∀ (v1 : Int32) (v2 : Int32) (v3 : Int32) (v4 : Int32) (S : St) (H : Heap) (locs : List Loc) (ls : Array Slot), (lp n0 (l_X12_bestRate_17) (v1, v2, v3, v4, S)).bind some = some V → MP D ct B Hb S H → va_S (AB B) s.heap H locs → lv_has ls 6 [(0, .ref (B + 136)), (1, .int v1), (2, .int v2), (3, .int v3), (4, .int v4)] → W p l e { frames := 7, cells := 0, slots := 0, locals := 160 } s m args below meth c H locs 0 0 (MQ below (qIw D ct B Hb V) args s 0 0 (AB B)) (F0 m 17 ls [])) (v1 : Int32) (v3 : Int32) (v4 : Int32) (v5 : Int32) (s0 : Int32) (S : St) {H : Heap} {locs : List Loc} {ls : Array Slot} (h : (b_X12_bestRate_52 v1 v3 v4 v5 s0 S).bind (lpF n0 (l_X12_bestRate_17) some) = some V) (hP : MP D ct B Hb S H) (hS : va_S (AB B) s.heap H locs) (hl : lv_has ls 6 [(0, .ref (B + 136)), (1, .int v1), (3, .int v3), (4, .int v4), (5, .int v5)]) : W p l e { frames := 7, cells := 0, slots := 0, locals := 160 } s m args below meth c H locs 0 0 (MQ below (qIw D ct B Hb V) args s 0 0 (AB B)) (F0 m 52 ls [.int s0]) := by
  obtain ⟨hx, hb, hr, hml, hown, hts, hK, hlocks, hN⟩ := id C0
  unfold b_X12_bestRate_52 at h
  refine lv_istore_n (lv' := [(2, .int s0), (0, .ref (B + 136)), (1, .int v1), (3, .int v3), (4, .int v4), (5, .int v5)]) hx hb dX12_bestRate_52 rfl hl (by decide) rfl (fun ls hl => ?_)
  refine lv_iload hx hb dX12_bestRate_53 (lv_at hl 5 rfl) ?_
  refine lv_iload_n hx hb dX12_bestRate_55 rfl (lv_at hl 3 rfl) ?_
  refine lv_icmp_le (tgt := 64) hx hb dX12_bestRate_56 (by decide) (fun z1 => ?_) (fun z1 => ?_)
  · have h := ob_t h z1
    refine lv_iload_n hx hb dX12_bestRate_64 rfl (lv_at hl 3 rfl) ?_
    exact w_X12_bestRate_65 l C0 n0 ih0 v1 s0 v4 v3 S h hP hS (lv_sub hl [1, 2, 0, 4] rfl)
  · have h := ob_f h z1
    refine lv_iload hx hb dX12_bestRate_59 (lv_at hl 5 rfl) ?_
    refine lv_goto (tgt := 65) hx hb dX12_bestRate_61 (by decide) ?_
    exact w_X12_bestRate_65 l C0 n0 ih0 v1 s0 v4 v5 S h hP hS (lv_sub hl [1, 2, 0, 4] rfl)
set_option maxRecDepth 100000 in
set_option maxHeartbeats 4000000 in
theorem w_X12_bestRate_17 (l : Launch) {V : Int32 × St} (C0 : XC D ct p s m args meth c cX12_bestRate 6 (some .int) RX12) (n0 : Nat) (ih0 : ∀ (v1 : Int32) (v2 : Int32) (v3 : Int32) (v4 : Int32) (S : St) (H : Heap) (locs : List Loc) (ls : Array Slot), (lp n0 (l_X12_bestRate_17) (v1, v2, v3, v4, S)).bind some = some V → MP D ct B Hb S H → va_S (AB B) s.heap H locs → lv_has ls 6 [(0, .ref (B + 136)), (1, .int v1), (2, .int v2), (3, .int v3), (4, .int v4)] → W p l e { frames := 7, cells := 0, slots := 0, locals := 160 } s m args below meth c H locs 0 0 (MQ below (qIw D ct B Hb V) args s 0 0 (AB B)) (F0 m 17 ls [])) (v1 : Int32) (v2 : Int32) (v3 : Int32) (v4 : Int32) (S : St) {H : Heap} {locs : List Loc} {ls : Array Slot} (h : (b_X12_bestRate_17 v1 v2 v3 v4 S).bind (lpF n0 (l_X12_bestRate_17) some) = some V) (hP : MP D ct B Hb S H) (hS : va_S (AB B) s.heap H locs) (hl : lv_has ls 6 [(0, .ref (B + 136)), (1, .int v1), (2, .int v2), (3, .int v3), (4, .int v4)]) : W p l e { frames := 7, cells := 0, slots := 0, locals := 160 } s m args below meth c H locs 0 0 (MQ below (qIw D ct B Hb V) args s 0 0 (AB B)) (F0 m 17 ls []) := by
  obtain ⟨hx, hb, hr, hml, hown, hts, hK, hlocks, hN⟩ := id C0
  unfold b_X12_bestRate_17 at h
  refine lv_iload hx hb dX12_bestRate_17 (lv_at hl 4 rfl) ?_
  refine lv_bipush (v := 9) hx hb dX12_bestRate_19 (by decide) ?_
  refine lv_icmp_gt (tgt := 72) hx hb dX12_bestRate_21 (by decide) (fun z1 => ?_) (fun z1 => ?_)
  · have h := ob_t h z1
    refine lv_aload_n hx hb dX12_bestRate_72 rfl (lv_at hl 0 rfl) ?_
    refine lv_iload_n hx hb dX12_bestRate_73 rfl (lv_at hl 1 rfl) ?_
    obtain ⟨S2, eS2, h⟩ := ob_nm h
    refine x_put (S' := si S 136 8 v1) (FS := (fs12 B)) C0 hP hS (fun S => lay_X12 B ct S) rfl inG12 tyX12 tyX12_ok nmX12 8 (by decide) wd_1149 rfl rfl (fun a ha => lay_local (gi_si_n _ _ _ ha) rfl rfl rfl) (put_12_8 B _ _) rfl rfl (Nat.le_of_ble_eq_true rfl) dX12_bestRate_74 (fun H locs hP hS => ?_)
    rw [← eS2] at hP
    refine lv_iload_n hx hb dX12_bestRate_77 rfl (lv_at hl 2 rfl) ?_
    exact r_Iw C0 hP hS h dX12_bestRate_78
  · have h := ob_f h z1
    refine lv_aload_n hx hb dX12_bestRate_24 rfl (lv_at hl 0 rfl) ?_
    refine lv_iload hx hb dX12_bestRate_25 (lv_at hl 4 rfl) ?_
    obtain ⟨S3, eS3, h⟩ := ob_nm h
    refine x_put (S' := si S 136 8 v4) (FS := (fs12 B)) C0 hP hS (fun S => lay_X12 B ct S) rfl inG12 tyX12 tyX12_ok nmX12 8 (by decide) wd_1149 rfl rfl (fun a ha => lay_local (gi_si_n _ _ _ ha) rfl rfl rfl) (put_12_8 B _ _) rfl rfl (Nat.le_of_ble_eq_true rfl) dX12_bestRate_27 (fun H locs hP hS => ?_)
    rw [← eS3] at hP
    refine lv_aload_n hx hb dX12_bestRate_30 rfl (lv_at hl 0 rfl) ?_
    obtain ⟨r4, hr4, h⟩ := ob_bd h
    refine n_Vw (kV (As := []) C0 (c_X12_day l hr4) ⟨wd_1539, wd_1536, wd_1538, wp_43, wd_6⟩ kd_X12_day ⟨Nat.le_of_ble_eq_true rfl, Nat.le_of_ble_eq_true rfl⟩ hP (lay_X12 B ct S3) rfl rfl hl.1 rfl (Nat.le_of_ble_eq_true rfl) dX12_bestRate_31 ⟨Nat.le_of_ble_eq_true rfl, Nat.le_of_ble_eq_true rfl⟩) hS (fun H locs hP hS => ?_)
    refine lv_aload_n hx hb dX12_bestRate_34 rfl (lv_at hl 0 rfl) ?_
    obtain ⟨r5, hr5, h⟩ := ob_bd h
    refine n_I (kV (As := []) C0 (c_X12_paidInAll l hr5) ⟨wd_1605, wd_1602, wd_1604, wp_56, wd_6⟩ kd_X12_paidInAll ⟨Nat.le_of_ble_eq_true rfl, Nat.le_of_ble_eq_true rfl⟩ hP (lay_X12 B ct r4) rfl rfl hl.1 rfl (Nat.le_of_ble_eq_true rfl) dX12_bestRate_35 ⟨Nat.le_of_ble_eq_true rfl, Nat.le_of_ble_eq_true rfl⟩) hS (fun H locs hP hS => ?_)
    refine lv_istore (lv' := [(5, .int r5), (0, .ref (B + 136)), (1, .int v1), (2, .int v2), (3, .int v3), (4, .int v4)]) hx hb dX12_bestRate_38 hl (by decide) rfl (fun ls hl => ?_)
    refine lv_iload hx hb dX12_bestRate_40 (lv_at hl 0 rfl) ?_
    refine lv_iload_n hx hb dX12_bestRate_42 rfl (lv_at hl 4 rfl) ?_
    refine lv_icmp_le (tgt := 51) hx hb dX12_bestRate_43 (by decide) (fun z6 => ?_) (fun z6 => ?_)
    · have h := ob_t h z6
      refine lv_iload_n hx hb dX12_bestRate_51 rfl (lv_at hl 3 rfl) ?_
      exact w_X12_bestRate_52 l C0 n0 ih0 v1 v3 v4 r5 v2 r4 h hP hS (lv_sub hl [1, 2, 4, 5, 0] rfl)
    · have h := ob_f h z6
      refine lv_iload hx hb dX12_bestRate_46 (lv_at hl 5 rfl) ?_
      refine lv_goto (tgt := 52) hx hb dX12_bestRate_48 (by decide) ?_
      exact w_X12_bestRate_52 l C0 n0 ih0 v1 v3 v4 r5 v4 r4 h hP hS (lv_sub hl [1, 2, 4, 5, 0] rfl)
set_option maxRecDepth 100000 in
set_option maxHeartbeats 4000000 in
theorem wl_X12_bestRate_17 (l : Launch) {V : Int32 × St} (C0 : XC D ct p s m args meth c cX12_bestRate 6 (some .int) RX12)  : ∀ (n0 : Nat) (v1 : Int32) (v2 : Int32) (v3 : Int32) (v4 : Int32) (S : St) {H : Heap} {locs : List Loc} {ls : Array Slot}, (lp n0 (l_X12_bestRate_17) (v1, v2, v3, v4, S)).bind some = some V → MP D ct B Hb S H → va_S (AB B) s.heap H locs → lv_has ls 6 [(0, .ref (B + 136)), (1, .int v1), (2, .int v2), (3, .int v3), (4, .int v4)] → W p l e { frames := 7, cells := 0, slots := 0, locals := 160 } s m args below meth c H locs 0 0 (MQ below (qIw D ct B Hb V) args s 0 0 (AB B)) (F0 m 17 ls []) := by
  intro n0
  induction n0 with
  | zero =>
    intro v1 v2 v3 v4 S H locs ls h hP hS hl
    exact (lp_0 h).elim
  | succ n0 ih0 =>
    intro v1 v2 v3 v4 S H locs ls h hP hS hl
    have h := lp_s h
    exact w_X12_bestRate_17 l C0 n0 (fun v1 v2 v3 v4 S H locs ls h hP hS hl => ih0 v1 v2 v3 v4 S h hP hS hl) v1 v2 v3 v4 S h hP hS hl
set_option maxRecDepth 100000 in
set_option maxHeartbeats 4000000 in
theorem w_X12_bestRate_0 (l : Launch) {V : Int32 × St} (C0 : XC D ct p s m args meth c cX12_bestRate 6 (some .int) RX12) (S : St) {H : Heap} {locs : List Loc} {ls : Array Slot} (h : (b_X12_bestRate_0 S).bind some = some V) (hP : MP D ct B Hb S H) (hS : va_S (AB B) s.heap H locs) (hl : lv_has ls 6 [(0, .ref (B + 136))]) : W p l e { frames := 7, cells := 0, slots := 0, locals := 160 } s m args below meth c H locs 0 0 (MQ below (qIw D ct B Hb V) args s 0 0 (AB B)) (F0 m 0 ls []) := by
  obtain ⟨hx, hb, hr, hml, hown, hts, hK, hlocks, hN⟩ := id C0
  unfold b_X12_bestRate_0 at h
  refine lv_aload_n hx hb dX12_bestRate_0 rfl (lv_at hl 0 rfl) ?_
  refine lv_iconst (v := 0) hx hb dX12_bestRate_1 (by decide) ?_
  obtain ⟨S1, eS1, h⟩ := ob_nm h
  refine x_put (S' := si S 136 28 0) (FS := (fs12 B)) C0 hP hS (fun S => lay_X12 B ct S) rfl inG12 tyX12 tyX12_ok nmX12 28 (by decide) wd_1169 rfl rfl (fun a ha => lay_local (gi_si_n _ _ _ ha) rfl rfl rfl) (put_12_28 B _ _) rfl rfl (Nat.le_of_ble_eq_true rfl) dX12_bestRate_2 (fun H locs hP hS => ?_)
  rw [← eS1] at hP
  refine lv_aload_n hx hb dX12_bestRate_5 rfl (lv_at hl 0 rfl) ?_
  refine x_get C0 hP (lay_X12 B ct S1) rfl inG12 8 (by decide) wd_1149 (fun _ h => h) rfl dX12_bestRate_6 ?_
  refine lv_istore_n (lv' := [(1, .int (gi S1 136 8)), (0, .ref (B + 136))]) hx hb dX12_bestRate_9 rfl hl (by decide) rfl (fun ls hl => ?_)
  refine lv_iconst (v := 1) hx hb dX12_bestRate_10 (by decide) ?_
  refine lv_istore_n (lv' := [(2, .int 1), (1, .int (gi S1 136 8)), (0, .ref (B + 136))]) hx hb dX12_bestRate_11 rfl hl (by decide) rfl (fun ls hl => ?_)
  refine lv_iconst (v := (-1)) hx hb dX12_bestRate_12 (by decide) ?_
  refine lv_istore_n (lv' := [(3, .int ((-1))), (2, .int 1), (1, .int (gi S1 136 8)), (0, .ref (B + 136))]) hx hb dX12_bestRate_13 rfl hl (by decide) rfl (fun ls hl => ?_)
  refine lv_iconst (v := 1) hx hb dX12_bestRate_14 (by decide) ?_
  refine lv_istore (lv' := [(4, .int 1), (3, .int ((-1))), (2, .int 1), (1, .int (gi S1 136 8)), (0, .ref (B + 136))]) hx hb dX12_bestRate_15 hl (by decide) rfl (fun ls hl => ?_)
  exact wl_X12_bestRate_17 l C0 1000 (gi S1 136 8) 1 ((-1)) 1 S1 h hP hS (lv_sub hl [4, 3, 2, 1, 0] rfl)
set_option maxRecDepth 100000 in
set_option maxHeartbeats 4000000 in
theorem c_X12_bestRate (l : Launch) {D : va_G} {ct : Nat → ClassId} {B : Nat} {Hb : Heap} {S : St} {V : Int32 × St} (h : L_X12_bestRate S = some V) : Met l yX12_bestRate (Cond.code yX12_bestRate cX12_bestRate 6 (some .int) :: tG) { frames := 7, cells := 0, slots := 0, locals := 160 } (va_Pc [.ref (B + 136)] (MPK D ct B Hb S)) (qIw D ct B Hb V) 0 0 (AB B) := by
  refine mk_met (by decide +kernel) (Nat.le_of_ble_eq_true rfl) (fun p e s m args below meth c ls C0 hP hl _ => ?_)
  have h := ob_of h
  exact w_X12_bestRate_0 l C0 S h hP va_S.rf (lv_sub hl [0] rfl)
set_option maxRecDepth 100000 in
set_option maxHeartbeats 4000000 in
theorem w_X12_bestOpen_66 (l : Launch) {V : Int32 × St} (C0 : XC D ct p s m args meth c cX12_bestOpen 6 (some .int) RX12) (n0 : Nat) (ih0 : ∀ (v1 : Int32) (v2 : Int32) (v3 : Int32) (v4 : Int32) (S : St) (H : Heap) (locs : List Loc) (ls : Array Slot), (lp n0 (l_X12_bestOpen_18) (v1, v2, v3, v4, S)).bind some = some V → MP D ct B Hb S H → va_S (AB B) s.heap H locs → lv_has ls 6 [(0, .ref (B + 136)), (1, .int v1), (2, .int v2), (3, .int v3), (4, .int v4)] → W p l e { frames := 7, cells := 0, slots := 0, locals := 160 } s m args below meth c H locs 0 0 (MQ below (qIw D ct B Hb V) args s 0 0 (AB B)) (F0 m 18 ls [])) (v1 : Int32) (v2 : Int32) (v4 : Int32) (s0 : Int32) (S : St) {H : Heap} {locs : List Loc} {ls : Array Slot} (h : (b_X12_bestOpen_66 v1 v2 v4 s0 S).bind (lpF n0 (l_X12_bestOpen_18) some) = some V) (hP : MP D ct B Hb S H) (hS : va_S (AB B) s.heap H locs) (hl : lv_has ls 6 [(0, .ref (B + 136)), (1, .int v1), (2, .int v2), (4, .int v4)]) : W p l e { frames := 7, cells := 0, slots := 0, locals := 160 } s m args below meth c H locs 0 0 (MQ below (qIw D ct B Hb V) args s 0 0 (AB B)) (F0 m 66 ls [.int s0]) := by
  obtain ⟨hx, hb, hr, hml, hown, hts, hK, hlocks, hN⟩ := id C0
  unfold b_X12_bestOpen_66 at h
  refine lv_istore_n (lv' := [(3, .int s0), (0, .ref (B + 136)), (1, .int v1), (2, .int v2), (4, .int v4)]) hx hb dX12_bestOpen_66 rfl hl (by decide) rfl (fun ls hl => ?_)
  refine lv_iinc (v := v4 + 1) (lv' := [(4, .int (v4 + 1)), (3, .int s0), (0, .ref (B + 136)), (1, .int v1), (2, .int v2)]) hx hb dX12_bestOpen_67 hl (k := 4) rfl rfl (by decide) rfl (fun ls hl => ?_)
  refine lv_goto (tgt := 18) hx hb dX12_bestOpen_70 (by decide) ?_
  exact ih0 v1 v2 s0 (v4 + 1) S _ _ _ h hP hS (lv_sub hl [2, 3, 4, 1, 0] rfl)
set_option maxRecDepth 100000 in
set_option maxHeartbeats 4000000 in
theorem w_X12_bestOpen_53 (l : Launch) {V : Int32 × St} (C0 : XC D ct p s m args meth c cX12_bestOpen 6 (some .int) RX12) (n0 : Nat) (ih0 : ∀ (v1 : Int32) (v2 : Int32) (v3 : Int32) (v4 : Int32) (S : St) (H : Heap) (locs : List Loc) (ls : Array Slot), (lp n0 (l_X12_bestOpen_18) (v1, v2, v3, v4, S)).bind some = some V → MP D ct B Hb S H → va_S (AB B) s.heap H locs → lv_has ls 6 [(0, .ref (B + 136)), (1, .int v1), (2, .int v2), (3, .int v3), (4, .int v4)] → W p l e { frames := 7, cells := 0, slots := 0, locals := 160 } s m args below meth c H locs 0 0 (MQ below (qIw D ct B Hb V) args s 0 0 (AB B)) (F0 m 18 ls [])) (v1 : Int32) (v3 : Int32) (v4 : Int32) (v5 : Int32) (s0 : Int32) (S : St) {H : Heap} {locs : List Loc} {ls : Array Slot} (h : (b_X12_bestOpen_53 v1 v3 v4 v5 s0 S).bind (lpF n0 (l_X12_bestOpen_18) some) = some V) (hP : MP D ct B Hb S H) (hS : va_S (AB B) s.heap H locs) (hl : lv_has ls 6 [(0, .ref (B + 136)), (1, .int v1), (3, .int v3), (4, .int v4), (5, .int v5)]) : W p l e { frames := 7, cells := 0, slots := 0, locals := 160 } s m args below meth c H locs 0 0 (MQ below (qIw D ct B Hb V) args s 0 0 (AB B)) (F0 m 53 ls [.int s0]) := by
  obtain ⟨hx, hb, hr, hml, hown, hts, hK, hlocks, hN⟩ := id C0
  unfold b_X12_bestOpen_53 at h
  refine lv_istore_n (lv' := [(2, .int s0), (0, .ref (B + 136)), (1, .int v1), (3, .int v3), (4, .int v4), (5, .int v5)]) hx hb dX12_bestOpen_53 rfl hl (by decide) rfl (fun ls hl => ?_)
  refine lv_iload hx hb dX12_bestOpen_54 (lv_at hl 5 rfl) ?_
  refine lv_iload_n hx hb dX12_bestOpen_56 rfl (lv_at hl 3 rfl) ?_
  refine lv_icmp_ge (tgt := 65) hx hb dX12_bestOpen_57 (by decide) (fun z1 => ?_) (fun z1 => ?_)
  · have h := ob_t h z1
    refine lv_iload_n hx hb dX12_bestOpen_65 rfl (lv_at hl 3 rfl) ?_
    exact w_X12_bestOpen_66 l C0 n0 ih0 v1 s0 v4 v3 S h hP hS (lv_sub hl [1, 2, 0, 4] rfl)
  · have h := ob_f h z1
    refine lv_iload hx hb dX12_bestOpen_60 (lv_at hl 5 rfl) ?_
    refine lv_goto (tgt := 66) hx hb dX12_bestOpen_62 (by decide) ?_
    exact w_X12_bestOpen_66 l C0 n0 ih0 v1 s0 v4 v5 S h hP hS (lv_sub hl [1, 2, 0, 4] rfl)
set_option maxRecDepth 100000 in
set_option maxHeartbeats 4000000 in
theorem w_X12_bestOpen_18 (l : Launch) {V : Int32 × St} (C0 : XC D ct p s m args meth c cX12_bestOpen 6 (some .int) RX12) (n0 : Nat) (ih0 : ∀ (v1 : Int32) (v2 : Int32) (v3 : Int32) (v4 : Int32) (S : St) (H : Heap) (locs : List Loc) (ls : Array Slot), (lp n0 (l_X12_bestOpen_18) (v1, v2, v3, v4, S)).bind some = some V → MP D ct B Hb S H → va_S (AB B) s.heap H locs → lv_has ls 6 [(0, .ref (B + 136)), (1, .int v1), (2, .int v2), (3, .int v3), (4, .int v4)] → W p l e { frames := 7, cells := 0, slots := 0, locals := 160 } s m args below meth c H locs 0 0 (MQ below (qIw D ct B Hb V) args s 0 0 (AB B)) (F0 m 18 ls [])) (v1 : Int32) (v2 : Int32) (v3 : Int32) (v4 : Int32) (S : St) {H : Heap} {locs : List Loc} {ls : Array Slot} (h : (b_X12_bestOpen_18 v1 v2 v3 v4 S).bind (lpF n0 (l_X12_bestOpen_18) some) = some V) (hP : MP D ct B Hb S H) (hS : va_S (AB B) s.heap H locs) (hl : lv_has ls 6 [(0, .ref (B + 136)), (1, .int v1), (2, .int v2), (3, .int v3), (4, .int v4)]) : W p l e { frames := 7, cells := 0, slots := 0, locals := 160 } s m args below meth c H locs 0 0 (MQ below (qIw D ct B Hb V) args s 0 0 (AB B)) (F0 m 18 ls []) := by
  obtain ⟨hx, hb, hr, hml, hown, hts, hK, hlocks, hN⟩ := id C0
  unfold b_X12_bestOpen_18 at h
  refine lv_iload hx hb dX12_bestOpen_18 (lv_at hl 4 rfl) ?_
  refine lv_bipush (v := 24) hx hb dX12_bestOpen_20 (by decide) ?_
  refine lv_icmp_ge (tgt := 73) hx hb dX12_bestOpen_22 (by decide) (fun z1 => ?_) (fun z1 => ?_)
  · have h := ob_t h z1
    refine lv_aload_n hx hb dX12_bestOpen_73 rfl (lv_at hl 0 rfl) ?_
    refine lv_iload_n hx hb dX12_bestOpen_74 rfl (lv_at hl 1 rfl) ?_
    obtain ⟨S2, eS2, h⟩ := ob_nm h
    refine x_put (S' := si S 136 6 v1) (FS := (fs12 B)) C0 hP hS (fun S => lay_X12 B ct S) rfl inG12 tyX12 tyX12_ok nmX12 6 (by decide) wd_1147 rfl rfl (fun a ha => lay_local (gi_si_n _ _ _ ha) rfl rfl rfl) (put_12_6 B _ _) rfl rfl (Nat.le_of_ble_eq_true rfl) dX12_bestOpen_75 (fun H locs hP hS => ?_)
    rw [← eS2] at hP
    refine lv_iload_n hx hb dX12_bestOpen_78 rfl (lv_at hl 2 rfl) ?_
    exact r_Iw C0 hP hS h dX12_bestOpen_79
  · have h := ob_f h z1
    refine lv_aload_n hx hb dX12_bestOpen_25 rfl (lv_at hl 0 rfl) ?_
    refine lv_iload hx hb dX12_bestOpen_26 (lv_at hl 4 rfl) ?_
    obtain ⟨S3, eS3, h⟩ := ob_nm h
    refine x_put (S' := si S 136 6 v4) (FS := (fs12 B)) C0 hP hS (fun S => lay_X12 B ct S) rfl inG12 tyX12 tyX12_ok nmX12 6 (by decide) wd_1147 rfl rfl (fun a ha => lay_local (gi_si_n _ _ _ ha) rfl rfl rfl) (put_12_6 B _ _) rfl rfl (Nat.le_of_ble_eq_true rfl) dX12_bestOpen_28 (fun H locs hP hS => ?_)
    rw [← eS3] at hP
    refine lv_aload_n hx hb dX12_bestOpen_31 rfl (lv_at hl 0 rfl) ?_
    obtain ⟨r4, hr4, h⟩ := ob_bd h
    refine n_Vw (kV (As := []) C0 (c_X12_day l hr4) ⟨wd_1539, wd_1536, wd_1538, wp_43, wd_6⟩ kd_X12_day ⟨Nat.le_of_ble_eq_true rfl, Nat.le_of_ble_eq_true rfl⟩ hP (lay_X12 B ct S3) rfl rfl hl.1 rfl (Nat.le_of_ble_eq_true rfl) dX12_bestOpen_32 ⟨Nat.le_of_ble_eq_true rfl, Nat.le_of_ble_eq_true rfl⟩) hS (fun H locs hP hS => ?_)
    refine lv_aload_n hx hb dX12_bestOpen_35 rfl (lv_at hl 0 rfl) ?_
    obtain ⟨r5, hr5, h⟩ := ob_bd h
    refine n_I (kV (As := []) C0 (c_X12_regretMany l hr5) ⟨wd_1609, wd_1606, wd_1608, wp_57, wd_6⟩ kd_X12_regretMany ⟨Nat.le_of_ble_eq_true rfl, Nat.le_of_ble_eq_true rfl⟩ hP (lay_X12 B ct r4) rfl rfl hl.1 rfl (Nat.le_of_ble_eq_true rfl) dX12_bestOpen_36 ⟨Nat.le_of_ble_eq_true rfl, Nat.le_of_ble_eq_true rfl⟩) hS (fun H locs hP hS => ?_)
    refine lv_istore (lv' := [(5, .int r5), (0, .ref (B + 136)), (1, .int v1), (2, .int v2), (3, .int v3), (4, .int v4)]) hx hb dX12_bestOpen_39 hl (by decide) rfl (fun ls hl => ?_)
    refine lv_iload hx hb dX12_bestOpen_41 (lv_at hl 0 rfl) ?_
    refine lv_iload_n hx hb dX12_bestOpen_43 rfl (lv_at hl 4 rfl) ?_
    refine lv_icmp_ge (tgt := 52) hx hb dX12_bestOpen_44 (by decide) (fun z6 => ?_) (fun z6 => ?_)
    · have h := ob_t h z6
      refine lv_iload_n hx hb dX12_bestOpen_52 rfl (lv_at hl 3 rfl) ?_
      exact w_X12_bestOpen_53 l C0 n0 ih0 v1 v3 v4 r5 v2 r4 h hP hS (lv_sub hl [1, 2, 4, 5, 0] rfl)
    · have h := ob_f h z6
      refine lv_iload hx hb dX12_bestOpen_47 (lv_at hl 5 rfl) ?_
      refine lv_goto (tgt := 53) hx hb dX12_bestOpen_49 (by decide) ?_
      exact w_X12_bestOpen_53 l C0 n0 ih0 v1 v3 v4 r5 v4 r4 h hP hS (lv_sub hl [1, 2, 4, 5, 0] rfl)
set_option maxRecDepth 100000 in
set_option maxHeartbeats 4000000 in
theorem wl_X12_bestOpen_18 (l : Launch) {V : Int32 × St} (C0 : XC D ct p s m args meth c cX12_bestOpen 6 (some .int) RX12)  : ∀ (n0 : Nat) (v1 : Int32) (v2 : Int32) (v3 : Int32) (v4 : Int32) (S : St) {H : Heap} {locs : List Loc} {ls : Array Slot}, (lp n0 (l_X12_bestOpen_18) (v1, v2, v3, v4, S)).bind some = some V → MP D ct B Hb S H → va_S (AB B) s.heap H locs → lv_has ls 6 [(0, .ref (B + 136)), (1, .int v1), (2, .int v2), (3, .int v3), (4, .int v4)] → W p l e { frames := 7, cells := 0, slots := 0, locals := 160 } s m args below meth c H locs 0 0 (MQ below (qIw D ct B Hb V) args s 0 0 (AB B)) (F0 m 18 ls []) := by
  intro n0
  induction n0 with
  | zero =>
    intro v1 v2 v3 v4 S H locs ls h hP hS hl
    exact (lp_0 h).elim
  | succ n0 ih0 =>
    intro v1 v2 v3 v4 S H locs ls h hP hS hl
    have h := lp_s h
    exact w_X12_bestOpen_18 l C0 n0 (fun v1 v2 v3 v4 S H locs ls h hP hS hl => ih0 v1 v2 v3 v4 S h hP hS hl) v1 v2 v3 v4 S h hP hS hl
set_option maxRecDepth 100000 in
set_option maxHeartbeats 4000000 in
theorem w_X12_bestOpen_0 (l : Launch) {V : Int32 × St} (C0 : XC D ct p s m args meth c cX12_bestOpen 6 (some .int) RX12) (S : St) {H : Heap} {locs : List Loc} {ls : Array Slot} (h : (b_X12_bestOpen_0 S).bind some = some V) (hP : MP D ct B Hb S H) (hS : va_S (AB B) s.heap H locs) (hl : lv_has ls 6 [(0, .ref (B + 136))]) : W p l e { frames := 7, cells := 0, slots := 0, locals := 160 } s m args below meth c H locs 0 0 (MQ below (qIw D ct B Hb V) args s 0 0 (AB B)) (F0 m 0 ls []) := by
  obtain ⟨hx, hb, hr, hml, hown, hts, hK, hlocks, hN⟩ := id C0
  unfold b_X12_bestOpen_0 at h
  refine lv_aload_n hx hb dX12_bestOpen_0 rfl (lv_at hl 0 rfl) ?_
  refine lv_iconst (v := 0) hx hb dX12_bestOpen_1 (by decide) ?_
  obtain ⟨S1, eS1, h⟩ := ob_nm h
  refine x_put (S' := si S 136 28 0) (FS := (fs12 B)) C0 hP hS (fun S => lay_X12 B ct S) rfl inG12 tyX12 tyX12_ok nmX12 28 (by decide) wd_1169 rfl rfl (fun a ha => lay_local (gi_si_n _ _ _ ha) rfl rfl rfl) (put_12_28 B _ _) rfl rfl (Nat.le_of_ble_eq_true rfl) dX12_bestOpen_2 (fun H locs hP hS => ?_)
  rw [← eS1] at hP
  refine lv_aload_n hx hb dX12_bestOpen_5 rfl (lv_at hl 0 rfl) ?_
  refine x_get C0 hP (lay_X12 B ct S1) rfl inG12 6 (by decide) wd_1147 (fun _ h => h) rfl dX12_bestOpen_6 ?_
  refine lv_istore_n (lv' := [(1, .int (gi S1 136 6)), (0, .ref (B + 136))]) hx hb dX12_bestOpen_9 rfl hl (by decide) rfl (fun ls hl => ?_)
  refine lv_iconst (v := 0) hx hb dX12_bestOpen_10 (by decide) ?_
  refine lv_istore_n (lv' := [(2, .int 0), (1, .int (gi S1 136 6)), (0, .ref (B + 136))]) hx hb dX12_bestOpen_11 rfl hl (by decide) rfl (fun ls hl => ?_)
  refine lv_bipush (v := 99) hx hb dX12_bestOpen_12 (by decide) ?_
  refine lv_istore_n (lv' := [(3, .int 99), (2, .int 0), (1, .int (gi S1 136 6)), (0, .ref (B + 136))]) hx hb dX12_bestOpen_14 rfl hl (by decide) rfl (fun ls hl => ?_)
  refine lv_iconst (v := 0) hx hb dX12_bestOpen_15 (by decide) ?_
  refine lv_istore (lv' := [(4, .int 0), (3, .int 99), (2, .int 0), (1, .int (gi S1 136 6)), (0, .ref (B + 136))]) hx hb dX12_bestOpen_16 hl (by decide) rfl (fun ls hl => ?_)
  exact wl_X12_bestOpen_18 l C0 1000 (gi S1 136 6) 0 99 0 S1 h hP hS (lv_sub hl [4, 3, 2, 1, 0] rfl)
set_option maxRecDepth 100000 in
set_option maxHeartbeats 4000000 in
theorem c_X12_bestOpen (l : Launch) {D : va_G} {ct : Nat → ClassId} {B : Nat} {Hb : Heap} {S : St} {V : Int32 × St} (h : L_X12_bestOpen S = some V) : Met l yX12_bestOpen (Cond.code yX12_bestOpen cX12_bestOpen 6 (some .int) :: tG) { frames := 7, cells := 0, slots := 0, locals := 160 } (va_Pc [.ref (B + 136)] (MPK D ct B Hb S)) (qIw D ct B Hb V) 0 0 (AB B) := by
  refine mk_met (by decide +kernel) (Nat.le_of_ble_eq_true rfl) (fun p e s m args below meth c ls C0 hP hl _ => ?_)
  have h := ob_of h
  exact w_X12_bestOpen_0 l C0 S h hP va_S.rf (lv_sub hl [0] rfl)
set_option maxRecDepth 100000 in
set_option maxHeartbeats 4000000 in
theorem w_X12_purse_85 (l : Launch) {V : Int32 × St} (C0 : XC D ct p s m args meth c cX12_purse 6 (some .int) RX12) (v1 : Int32) (v2 : Int32) (v4 : Int32) (S : St) {H : Heap} {locs : List Loc} {ls : Array Slot} (h : (b_X12_purse_85 v1 v2 v4 S).bind some = some V) (hP : MP D ct B Hb S H) (hS : va_S (AB B) s.heap H locs) (hl : lv_has ls 6 [(0, .ref (B + 136)), (1, .int v1), (2, .int v2), (4, .int v4)]) : W p l e { frames := 8, cells := 0, slots := 0, locals := 181 } s m args below meth c H locs 0 0 (MQ below (qIw D ct B Hb V) args s 0 0 (AB B)) (F0 m 85 ls []) := by
  obtain ⟨hx, hb, hr, hml, hown, hts, hK, hlocks, hN⟩ := id C0
  unfold b_X12_purse_85 at h
  refine lv_aload_n hx hb dX12_purse_85 rfl (lv_at hl 0 rfl) ?_
  refine x_get C0 hP (lay_X12 B ct S) rfl inG12 21 (by decide) wd_1162 (fun _ h => h) rfl dX12_purse_86 ?_
  refine lv_iload_n hx hb dX12_purse_89 rfl (lv_at hl 1 rfl) ?_
  refine lv_iload_n hx hb dX12_purse_90 rfl (lv_at hl 2 rfl) ?_
  obtain ⟨g1, h⟩ := ob_gd h
  obtain ⟨S2, eS2, h⟩ := ob_nm h
  refine x_iast C0 hP hS (fun S => lay_152 B ct S) g1 dX12_purse_91 (fun H locs hP hS => ?_)
  rw [← eS2] at hP
  refine lv_iload hx hb dX12_purse_92 (lv_at hl 3 rfl) ?_
  exact r_Iw C0 hP hS h dX12_purse_94
set_option maxRecDepth 100000 in
set_option maxHeartbeats 4000000 in
theorem w_X12_purse_77 (l : Launch) {V : Int32 × St} (C0 : XC D ct p s m args meth c cX12_purse 6 (some .int) RX12) (n0 : Nat) (ih0 : ∀ (v1 : Int32) (v2 : Int32) (v3 : Int32) (v4 : Int32) (v5 : Int32) (S : St) (H : Heap) (locs : List Loc) (ls : Array Slot), (lp n0 (l_X12_purse_42) (v1, v2, v3, v4, v5, S)).bind some = some V → MP D ct B Hb S H → va_S (AB B) s.heap H locs → lv_has ls 6 [(0, .ref (B + 136)), (1, .int v1), (2, .int v2), (3, .int v3), (4, .int v4), (5, .int v5)] → W p l e { frames := 8, cells := 0, slots := 0, locals := 181 } s m args below meth c H locs 0 0 (MQ below (qIw D ct B Hb V) args s 0 0 (AB B)) (F0 m 42 ls [])) (v1 : Int32) (v2 : Int32) (v3 : Int32) (v5 : Int32) (s0 : Int32) (S : St) {H : Heap} {locs : List Loc} {ls : Array Slot} (h : (b_X12_purse_77 v1 v2 v3 v5 s0 S).bind (lpF n0 (l_X12_purse_42) some) = some V) (hP : MP D ct B Hb S H) (hS : va_S (AB B) s.heap H locs) (hl : lv_has ls 6 [(0, .ref (B + 136)), (1, .int v1), (2, .int v2), (3, .int v3), (5, .int v5)]) : W p l e { frames := 8, cells := 0, slots := 0, locals := 181 } s m args below meth c H locs 0 0 (MQ below (qIw D ct B Hb V) args s 0 0 (AB B)) (F0 m 77 ls [.int s0]) := by
  obtain ⟨hx, hb, hr, hml, hown, hts, hK, hlocks, hN⟩ := id C0
  unfold b_X12_purse_77 at h
  refine lv_istore (lv' := [(4, .int s0), (0, .ref (B + 136)), (1, .int v1), (2, .int v2), (3, .int v3), (5, .int v5)]) hx hb dX12_purse_77 hl (by decide) rfl (fun ls hl => ?_)
  refine lv_iinc (v := v5 + 1) (lv' := [(5, .int (v5 + 1)), (4, .int s0), (0, .ref (B + 136)), (1, .int v1), (2, .int v2), (3, .int v3)]) hx hb dX12_purse_79 hl (k := 5) rfl rfl (by decide) rfl (fun ls hl => ?_)
  refine lv_goto (tgt := 42) hx hb dX12_purse_82 (by decide) ?_
  exact ih0 v1 v2 v3 s0 (v5 + 1) S _ _ _ h hP hS (lv_sub hl [2, 3, 4, 5, 1, 0] rfl)
set_option maxRecDepth 100000 in
set_option maxHeartbeats 4000000 in
theorem w_X12_purse_42 (l : Launch) {V : Int32 × St} (C0 : XC D ct p s m args meth c cX12_purse 6 (some .int) RX12) (n0 : Nat) (ih0 : ∀ (v1 : Int32) (v2 : Int32) (v3 : Int32) (v4 : Int32) (v5 : Int32) (S : St) (H : Heap) (locs : List Loc) (ls : Array Slot), (lp n0 (l_X12_purse_42) (v1, v2, v3, v4, v5, S)).bind some = some V → MP D ct B Hb S H → va_S (AB B) s.heap H locs → lv_has ls 6 [(0, .ref (B + 136)), (1, .int v1), (2, .int v2), (3, .int v3), (4, .int v4), (5, .int v5)] → W p l e { frames := 8, cells := 0, slots := 0, locals := 181 } s m args below meth c H locs 0 0 (MQ below (qIw D ct B Hb V) args s 0 0 (AB B)) (F0 m 42 ls [])) (v1 : Int32) (v2 : Int32) (v3 : Int32) (v4 : Int32) (v5 : Int32) (S : St) {H : Heap} {locs : List Loc} {ls : Array Slot} (h : (b_X12_purse_42 v1 v2 v3 v4 v5 S).bind (lpF n0 (l_X12_purse_42) some) = some V) (hP : MP D ct B Hb S H) (hS : va_S (AB B) s.heap H locs) (hl : lv_has ls 6 [(0, .ref (B + 136)), (1, .int v1), (2, .int v2), (3, .int v3), (4, .int v4), (5, .int v5)]) : W p l e { frames := 8, cells := 0, slots := 0, locals := 181 } s m args below meth c H locs 0 0 (MQ below (qIw D ct B Hb V) args s 0 0 (AB B)) (F0 m 42 ls []) := by
  obtain ⟨hx, hb, hr, hml, hown, hts, hK, hlocks, hN⟩ := id C0
  unfold b_X12_purse_42 at h
  refine lv_iload hx hb dX12_purse_42 (lv_at hl 5 rfl) ?_
  refine lv_bipush (v := 99) hx hb dX12_purse_44 (by decide) ?_
  refine lv_icmp_gt (tgt := 85) hx hb dX12_purse_46 (by decide) (fun z1 => ?_) (fun z1 => ?_)
  · have h := ob_t h z1
    have h := ob_mp h
    exact w_X12_purse_85 l C0 v1 v2 v4 S h hP hS (lv_sub hl [0, 1, 2, 4] rfl)
  · have h := ob_f h z1
    refine lv_iload hx hb dX12_purse_49 (lv_at hl 4 rfl) ?_
    refine lv_if_ge (tgt := 85) hx hb dX12_purse_51 (by decide) (fun z2 => ?_) (fun z2 => ?_)
    · have h := ob_t h z2
      have h := ob_mp h
      exact w_X12_purse_85 l C0 v1 v2 v4 S h hP hS (lv_sub hl [0, 1, 2, 4] rfl)
    · have h := ob_f h z2
      refine lv_aload_n hx hb dX12_purse_54 rfl (lv_at hl 0 rfl) ?_
      refine x_get C0 hP (lay_X12 B ct S) rfl inG12 21 (by decide) wd_1162 (fun _ h => h) rfl dX12_purse_55 ?_
      refine lv_iload_n hx hb dX12_purse_58 rfl (lv_at hl 1 rfl) ?_
      refine lv_iload hx hb dX12_purse_59 (lv_at hl 5 rfl) ?_
      obtain ⟨g3, h⟩ := ob_gd h
      obtain ⟨S4, eS4, h⟩ := ob_nm h
      refine x_iast C0 hP hS (fun S => lay_152 B ct S) g3 dX12_purse_61 (fun H locs hP hS => ?_)
      rw [← eS4] at hP
      refine lv_aload_n hx hb dX12_purse_62 rfl (lv_at hl 0 rfl) ?_
      refine lv_iload_n hx hb dX12_purse_63 rfl (lv_at hl 1 rfl) ?_
      obtain ⟨r5, hr5, h⟩ := ob_bd h
      refine n_Iw (kV (As := [.int v1]) C0 (c_X12_choiceOf l v1 hr5) ⟨wd_1633, wd_1630, wd_1632, wp_59, wd_6⟩ kd_X12_choiceOf ⟨Nat.le_of_ble_eq_true rfl, Nat.le_of_ble_eq_true rfl⟩ hP (lay_X12 B ct S4) rfl rfl hl.1 rfl (Nat.le_of_ble_eq_true rfl) dX12_purse_64 ⟨Nat.le_of_ble_eq_true rfl, Nat.le_of_ble_eq_true rfl⟩) hS (fun H locs hP hS => ?_)
      refine lv_iload_n hx hb dX12_purse_67 rfl (lv_at hl 3 rfl) ?_
      refine lv_icmp_ne (tgt := 76) hx hb dX12_purse_68 (by decide) (fun z6 => ?_) (fun z6 => ?_)
      · have h := ob_f h z6
        refine lv_iconst (v := (-1)) hx hb dX12_purse_76 (by decide) ?_
        exact w_X12_purse_77 l C0 n0 ih0 v1 v2 v3 v5 ((-1)) r5.2 h hP hS (lv_sub hl [0, 1, 2, 3, 5] rfl)
      · have h := ob_t h z6
        refine lv_iload hx hb dX12_purse_71 (lv_at hl 5 rfl) ?_
        refine lv_goto (tgt := 77) hx hb dX12_purse_73 (by decide) ?_
        exact w_X12_purse_77 l C0 n0 ih0 v1 v2 v3 v5 v5 r5.2 h hP hS (lv_sub hl [0, 1, 2, 3, 5] rfl)
set_option maxRecDepth 100000 in
set_option maxHeartbeats 4000000 in
theorem wl_X12_purse_42 (l : Launch) {V : Int32 × St} (C0 : XC D ct p s m args meth c cX12_purse 6 (some .int) RX12)  : ∀ (n0 : Nat) (v1 : Int32) (v2 : Int32) (v3 : Int32) (v4 : Int32) (v5 : Int32) (S : St) {H : Heap} {locs : List Loc} {ls : Array Slot}, (lp n0 (l_X12_purse_42) (v1, v2, v3, v4, v5, S)).bind some = some V → MP D ct B Hb S H → va_S (AB B) s.heap H locs → lv_has ls 6 [(0, .ref (B + 136)), (1, .int v1), (2, .int v2), (3, .int v3), (4, .int v4), (5, .int v5)] → W p l e { frames := 8, cells := 0, slots := 0, locals := 181 } s m args below meth c H locs 0 0 (MQ below (qIw D ct B Hb V) args s 0 0 (AB B)) (F0 m 42 ls []) := by
  intro n0
  induction n0 with
  | zero =>
    intro v1 v2 v3 v4 v5 S H locs ls h hP hS hl
    exact (lp_0 h).elim
  | succ n0 ih0 =>
    intro v1 v2 v3 v4 v5 S H locs ls h hP hS hl
    have h := lp_s h
    exact w_X12_purse_42 l C0 n0 (fun v1 v2 v3 v4 v5 S H locs ls h hP hS hl => ih0 v1 v2 v3 v4 v5 S h hP hS hl) v1 v2 v3 v4 v5 S h hP hS hl
set_option maxRecDepth 100000 in
set_option maxHeartbeats 4000000 in
theorem w_X12_purse_0 (l : Launch) {V : Int32 × St} (C0 : XC D ct p s m args meth c cX12_purse 6 (some .int) RX12) (v1 : Int32) (S : St) {H : Heap} {locs : List Loc} {ls : Array Slot} (h : (b_X12_purse_0 v1 S).bind some = some V) (hP : MP D ct B Hb S H) (hS : va_S (AB B) s.heap H locs) (hl : lv_has ls 6 [(0, .ref (B + 136)), (1, .int v1)]) : W p l e { frames := 8, cells := 0, slots := 0, locals := 181 } s m args below meth c H locs 0 0 (MQ below (qIw D ct B Hb V) args s 0 0 (AB B)) (F0 m 0 ls []) := by
  obtain ⟨hx, hb, hr, hml, hown, hts, hK, hlocks, hN⟩ := id C0
  unfold b_X12_purse_0 at h
  refine lv_aload_n hx hb dX12_purse_0 rfl (lv_at hl 0 rfl) ?_
  refine lv_iconst (v := 0) hx hb dX12_purse_1 (by decide) ?_
  obtain ⟨S1, eS1, h⟩ := ob_nm h
  refine x_put (S' := si S 136 28 0) (FS := (fs12 B)) C0 hP hS (fun S => lay_X12 B ct S) rfl inG12 tyX12 tyX12_ok nmX12 28 (by decide) wd_1169 rfl rfl (fun a ha => lay_local (gi_si_n _ _ _ ha) rfl rfl rfl) (put_12_28 B _ _) rfl rfl (Nat.le_of_ble_eq_true rfl) dX12_purse_2 (fun H locs hP hS => ?_)
  rw [← eS1] at hP
  refine lv_aload_n hx hb dX12_purse_5 rfl (lv_at hl 0 rfl) ?_
  refine lv_iload_n hx hb dX12_purse_6 rfl (lv_at hl 1 rfl) ?_
  obtain ⟨r2, hr2, h⟩ := ob_bd h
  refine n_I (kV (As := [.int v1]) C0 (c_X12_isOne l v1 hr2) ⟨wd_1448, wd_1445, wd_1447, wp_37, wd_6⟩ kd_X12_isOne ⟨Nat.le_of_ble_eq_true rfl, Nat.le_of_ble_eq_true rfl⟩ hP (lay_X12 B ct S1) rfl rfl hl.1 rfl (Nat.le_of_ble_eq_true rfl) dX12_purse_7 ⟨Nat.le_of_ble_eq_true rfl, Nat.le_of_ble_eq_true rfl⟩) hS (fun H locs hP hS => ?_)
  refine lv_if_ne (tgt := 15) hx hb dX12_purse_10 (by decide) (fun z3 => ?_) (fun z3 => ?_)
  · have h := ob_f h z3
    refine lv_aload_n hx hb dX12_purse_15 rfl (lv_at hl 0 rfl) ?_
    refine x_get C0 hP (lay_X12 B ct S1) rfl inG12 21 (by decide) wd_1162 (fun _ h => h) rfl dX12_purse_16 ?_
    refine lv_iload_n hx hb dX12_purse_19 rfl (lv_at hl 1 rfl) ?_
    obtain ⟨g4, h⟩ := ob_gd h
    refine x_iald C0 hP ((fun S => lay_152 B ct S) S1) g4 dX12_purse_20 ?_
    refine lv_istore_n (lv' := [(2, .int (gi S1 152 v1.toNatClampNeg)), (0, .ref (B + 136)), (1, .int v1)]) hx hb dX12_purse_21 rfl hl (by decide) rfl (fun ls hl => ?_)
    refine lv_aload_n hx hb dX12_purse_22 rfl (lv_at hl 1 rfl) ?_
    refine x_get C0 hP (lay_X12 B ct S1) rfl inG12 21 (by decide) wd_1162 (fun _ h => h) rfl dX12_purse_23 ?_
    refine lv_iload_n hx hb dX12_purse_26 rfl (lv_at hl 2 rfl) ?_
    refine lv_bipush (v := 99) hx hb dX12_purse_27 (by decide) ?_
    obtain ⟨g5, h⟩ := ob_gd h
    obtain ⟨S6, eS6, h⟩ := ob_nm h
    refine x_iast C0 hP hS (fun S => lay_152 B ct S) g5 dX12_purse_29 (fun H locs hP hS => ?_)
    rw [← eS6] at hP
    refine lv_aload_n hx hb dX12_purse_30 rfl (lv_at hl 1 rfl) ?_
    refine lv_iload_n hx hb dX12_purse_31 rfl (lv_at hl 2 rfl) ?_
    obtain ⟨r7, hr7, h⟩ := ob_bd h
    refine n_Iw (kV (As := [.int v1]) C0 (c_X12_choiceOf l v1 hr7) ⟨wd_1633, wd_1630, wd_1632, wp_59, wd_6⟩ kd_X12_choiceOf ⟨Nat.le_of_ble_eq_true rfl, Nat.le_of_ble_eq_true rfl⟩ hP (lay_X12 B ct S6) rfl rfl hl.1 rfl (Nat.le_of_ble_eq_true rfl) dX12_purse_32 ⟨Nat.le_of_ble_eq_true rfl, Nat.le_of_ble_eq_true rfl⟩) hS (fun H locs hP hS => ?_)
    refine lv_istore_n (lv' := [(3, .int r7.1), (2, .int (gi S1 152 v1.toNatClampNeg)), (0, .ref (B + 136)), (1, .int v1)]) hx hb dX12_purse_35 rfl hl (by decide) rfl (fun ls hl => ?_)
    refine lv_iconst (v := (-1)) hx hb dX12_purse_36 (by decide) ?_
    refine lv_istore (lv' := [(4, .int ((-1))), (3, .int r7.1), (2, .int (gi S1 152 v1.toNatClampNeg)), (0, .ref (B + 136)), (1, .int v1)]) hx hb dX12_purse_37 hl (by decide) rfl (fun ls hl => ?_)
    refine lv_iconst (v := 0) hx hb dX12_purse_39 (by decide) ?_
    refine lv_istore (lv' := [(5, .int 0), (4, .int ((-1))), (3, .int r7.1), (2, .int (gi S1 152 v1.toNatClampNeg)), (0, .ref (B + 136)), (1, .int v1)]) hx hb dX12_purse_40 hl (by decide) rfl (fun ls hl => ?_)
    exact wl_X12_purse_42 l C0 1000 v1 (gi S1 152 v1.toNatClampNeg) r7.1 ((-1)) 0 r7.2 h hP hS (lv_sub hl [4, 5, 3, 2, 1, 0] rfl)
  · have h := ob_t h z3
    refine lv_iconst (v := (-1)) hx hb dX12_purse_13 (by decide) ?_
    exact r_Iw C0 hP hS h dX12_purse_14
set_option maxRecDepth 100000 in
set_option maxHeartbeats 4000000 in
theorem c_X12_purse (l : Launch) (a1 : Int32) {D : va_G} {ct : Nat → ClassId} {B : Nat} {Hb : Heap} {S : St} {V : Int32 × St} (h : L_X12_purse a1 S = some V) : Met l yX12_purse (Cond.code yX12_purse cX12_purse 6 (some .int) :: tG) { frames := 8, cells := 0, slots := 0, locals := 181 } (va_Pc [.ref (B + 136), .int a1] (MPK D ct B Hb S)) (qIw D ct B Hb V) 0 0 (AB B) := by
  refine mk_met (by decide +kernel) (Nat.le_of_ble_eq_true rfl) (fun p e s m args below meth c ls C0 hP hl _ => ?_)
  have h := ob_of h
  exact w_X12_purse_0 l C0 a1 S h hP va_S.rf (lv_sub hl [0, 1] rfl)
set_option maxRecDepth 100000 in
set_option maxHeartbeats 4000000 in
theorem w_X12_later_0 (l : Launch) {V : Int32} (C0 : XC D ct p s m args meth c cX12_later 2 (some .int) RX12) (v0 : Int32) (v1 : Int32) (S : St) {H : Heap} {locs : List Loc} {ls : Array Slot} (h : (b_X12_later_0 v0 v1 S).bind some = some V) (hP : MP D ct B Hb S H) (hS : va_S (AB B) s.heap H locs) (hl : lv_has ls 2 [(0, .int v0), (1, .int v1)]) : W p l e { frames := 0, cells := 0, slots := 0, locals := 0 } s m args below meth c H locs 0 0 (MQ below (qI D ct B Hb S V) args s 0 0 (AB B)) (F0 m 0 ls []) := by
  obtain ⟨hx, hb, hr, hml, hown, hts, hK, hlocks, hN⟩ := id C0
  unfold b_X12_later_0 at h
  refine lv_iload_n hx hb dX12_later_0 rfl (lv_at hl 0 rfl) ?_
  refine lv_iload_n hx hb dX12_later_1 rfl (lv_at hl 1 rfl) ?_
  refine lv_iadd hx hb dX12_later_2 ?_
  refine lv_bipush (v := 23) hx hb dX12_later_3 (by decide) ?_
  refine lv_icmp_le (tgt := 13) hx hb dX12_later_5 (by decide) (fun z1 => ?_) (fun z1 => ?_)
  · have h := ob_t h z1
    refine lv_iload_n hx hb dX12_later_13 rfl (lv_at hl 0 rfl) ?_
    refine lv_iload_n hx hb dX12_later_14 rfl (lv_at hl 1 rfl) ?_
    refine lv_iadd hx hb dX12_later_15 ?_
    exact r_I C0 hP hS h dX12_later_16
  · have h := ob_f h z1
    refine lv_bipush (v := 23) hx hb dX12_later_8 (by decide) ?_
    refine lv_goto (tgt := 16) hx hb dX12_later_10 (by decide) ?_
    exact r_I C0 hP hS h dX12_later_16
set_option maxRecDepth 100000 in
set_option maxHeartbeats 4000000 in
theorem c_X12_later (l : Launch) (a0 : Int32) (a1 : Int32) {D : va_G} {ct : Nat → ClassId} {B : Nat} {Hb : Heap} {S : St} {V : Int32} (h : L_X12_later a0 a1 S = some V) : Met l yX12_later (Cond.code yX12_later cX12_later 2 (some .int) :: tG) { frames := 0, cells := 0, slots := 0, locals := 0 } (va_Pc [.int a0, .int a1] (MPK D ct B Hb S)) (qI D ct B Hb S V) 0 0 (AB B) := by
  refine mk_met (by decide +kernel) (Nat.le_of_ble_eq_true rfl) (fun p e s m args below meth c ls C0 hP hl _ => ?_)
  have h := ob_of h
  exact w_X12_later_0 l C0 a0 a1 S h hP va_S.rf (lv_sub hl [0, 1] rfl)
end WALKS
