theorem dX12_row_0 : decode cX12_row 0 = .ok (.aload_n 0, 1) := by decide +kernel
theorem dX12_row_1 : decode cX12_row 1 = .ok (.iconst 0, 1) := by decide +kernel
theorem dX12_row_2 : decode cX12_row 2 = .ok (.putfield 160, 3) := by decide +kernel
theorem dX12_row_5 : decode cX12_row 5 = .ok (.iload_n 1, 1) := by decide +kernel
theorem dX12_row_6 : decode cX12_row 6 = .ok (.i2l, 1) := by decide +kernel
theorem dX12_row_7 : decode cX12_row 7 = .ok (.lconst 0, 1) := by decide +kernel
theorem dX12_row_8 : decode cX12_row 8 = .ok (.ldc2_w 353, 3) := by decide +kernel
theorem dX12_row_11 : decode cX12_row 11 = .ok (.invokestatic 165, 3) := by decide +kernel
theorem dX12_row_14 : decode cX12_row 14 = .ok (.ifCond .eq 21, 3) := by decide +kernel
theorem dX12_row_17 : decode cX12_row 17 = .ok (.iload_n 2, 1) := by decide +kernel
theorem dX12_row_18 : decode cX12_row 18 = .ok (.i2l, 1) := by decide +kernel
theorem dX12_row_19 : decode cX12_row 19 = .ok (.lconst 0, 1) := by decide +kernel
theorem dX12_row_20 : decode cX12_row 20 = .ok (.ldc2_w 452, 3) := by decide +kernel
theorem dX12_row_23 : decode cX12_row 23 = .ok (.invokestatic 165, 3) := by decide +kernel
theorem dX12_row_26 : decode cX12_row 26 = .ok (.ifCond .eq 9, 3) := by decide +kernel
theorem dX12_row_29 : decode cX12_row 29 = .ok (.iload_n 3, 1) := by decide +kernel
theorem dX12_row_30 : decode cX12_row 30 = .ok (.bipush 100, 2) := by decide +kernel
theorem dX12_row_32 : decode cX12_row 32 = .ok (.if_icmp .le 5, 3) := by decide +kernel
theorem dX12_row_35 : decode cX12_row 35 = .ok (.iconst (-1), 1) := by decide +kernel
theorem dX12_row_36 : decode cX12_row 36 = .ok (.ireturn, 1) := by decide +kernel
theorem dX12_row_37 : decode cX12_row 37 = .ok (.iload_n 3, 1) := by decide +kernel
theorem dX12_row_38 : decode cX12_row 38 = .ok (.ifCond .ge 6, 3) := by decide +kernel
theorem dX12_row_41 : decode cX12_row 41 = .ok (.bipush (-14), 2) := by decide +kernel
theorem dX12_row_43 : decode cX12_row 43 = .ok (.ireturn, 1) := by decide +kernel
theorem dX12_row_44 : decode cX12_row 44 = .ok (.aload_n 0, 1) := by decide +kernel
theorem dX12_row_45 : decode cX12_row 45 = .ok (.getfield 68, 3) := by decide +kernel
theorem dX12_row_48 : decode cX12_row 48 = .ok (.iload_n 1, 1) := by decide +kernel
theorem dX12_row_49 : decode cX12_row 49 = .ok (.iconst 2, 1) := by decide +kernel
theorem dX12_row_50 : decode cX12_row 50 = .ok (.iastore, 1) := by decide +kernel
theorem dX12_row_51 : decode cX12_row 51 = .ok (.aload_n 0, 1) := by decide +kernel
theorem dX12_row_52 : decode cX12_row 52 = .ok (.getfield 77, 3) := by decide +kernel
theorem dX12_row_55 : decode cX12_row 55 = .ok (.iload_n 1, 1) := by decide +kernel
theorem dX12_row_56 : decode cX12_row 56 = .ok (.iload_n 2, 1) := by decide +kernel
theorem dX12_row_57 : decode cX12_row 57 = .ok (.iastore, 1) := by decide +kernel
theorem dX12_row_58 : decode cX12_row 58 = .ok (.aload_n 0, 1) := by decide +kernel
theorem dX12_row_59 : decode cX12_row 59 = .ok (.getfield 80, 3) := by decide +kernel
theorem dX12_row_62 : decode cX12_row 62 = .ok (.iload_n 1, 1) := by decide +kernel
theorem dX12_row_63 : decode cX12_row 63 = .ok (.iload_n 3, 1) := by decide +kernel
theorem dX12_row_64 : decode cX12_row 64 = .ok (.iastore, 1) := by decide +kernel
theorem dX12_row_65 : decode cX12_row 65 = .ok (.iconst 0, 1) := by decide +kernel
theorem dX12_row_66 : decode cX12_row 66 = .ok (.istore 4, 2) := by decide +kernel
theorem dX12_row_68 : decode cX12_row 68 = .ok (.iload 4, 2) := by decide +kernel
theorem dX12_row_70 : decode cX12_row 70 = .ok (.bipush 100, 2) := by decide +kernel
theorem dX12_row_72 : decode cX12_row 72 = .ok (.if_icmp .ge 22, 3) := by decide +kernel
theorem dX12_row_75 : decode cX12_row 75 = .ok (.aload_n 0, 1) := by decide +kernel
theorem dX12_row_76 : decode cX12_row 76 = .ok (.getfield 83, 3) := by decide +kernel
theorem dX12_row_79 : decode cX12_row 79 = .ok (.bipush 100, 2) := by decide +kernel
theorem dX12_row_81 : decode cX12_row 81 = .ok (.iload_n 1, 1) := by decide +kernel
theorem dX12_row_82 : decode cX12_row 82 = .ok (.imul, 1) := by decide +kernel
theorem dX12_row_83 : decode cX12_row 83 = .ok (.iload 4, 2) := by decide +kernel
theorem dX12_row_85 : decode cX12_row 85 = .ok (.iadd, 1) := by decide +kernel
theorem dX12_row_86 : decode cX12_row 86 = .ok (.lconst 0, 1) := by decide +kernel
theorem dX12_row_87 : decode cX12_row 87 = .ok (.lastore, 1) := by decide +kernel
theorem dX12_row_88 : decode cX12_row 88 = .ok (.iinc 4 1, 3) := by decide +kernel
theorem dX12_row_91 : decode cX12_row 91 = .ok (.goto (-23), 3) := by decide +kernel
theorem dX12_row_94 : decode cX12_row 94 = .ok (.iconst 0, 1) := by decide +kernel
theorem dX12_row_95 : decode cX12_row 95 = .ok (.ireturn, 1) := by decide +kernel
theorem dX12_put_0 : decode cX12_put 0 = .ok (.aload_n 0, 1) := by decide +kernel
theorem dX12_put_1 : decode cX12_put 1 = .ok (.iconst 0, 1) := by decide +kernel
theorem dX12_put_2 : decode cX12_put 2 = .ok (.putfield 160, 3) := by decide +kernel
theorem dX12_put_5 : decode cX12_put 5 = .ok (.aload_n 0, 1) := by decide +kernel
theorem dX12_put_6 : decode cX12_put 6 = .ok (.iload_n 1, 1) := by decide +kernel
theorem dX12_put_7 : decode cX12_put 7 = .ok (.invokevirtual 322, 3) := by decide +kernel
theorem dX12_put_10 : decode cX12_put 10 = .ok (.istore 4, 2) := by decide +kernel
theorem dX12_put_12 : decode cX12_put 12 = .ok (.iload 4, 2) := by decide +kernel
theorem dX12_put_14 : decode cX12_put 14 = .ok (.ifCond .ge 6, 3) := by decide +kernel
theorem dX12_put_17 : decode cX12_put 17 = .ok (.iload 4, 2) := by decide +kernel
theorem dX12_put_19 : decode cX12_put 19 = .ok (.ireturn, 1) := by decide +kernel
theorem dX12_put_20 : decode cX12_put 20 = .ok (.iload_n 2, 1) := by decide +kernel
theorem dX12_put_21 : decode cX12_put 21 = .ok (.i2l, 1) := by decide +kernel
theorem dX12_put_22 : decode cX12_put 22 = .ok (.lconst 0, 1) := by decide +kernel
theorem dX12_put_23 : decode cX12_put 23 = .ok (.aload_n 0, 1) := by decide +kernel
theorem dX12_put_24 : decode cX12_put 24 = .ok (.getfield 80, 3) := by decide +kernel
theorem dX12_put_27 : decode cX12_put 27 = .ok (.iload_n 1, 1) := by decide +kernel
theorem dX12_put_28 : decode cX12_put 28 = .ok (.iaload, 1) := by decide +kernel
theorem dX12_put_29 : decode cX12_put 29 = .ok (.iconst 1, 1) := by decide +kernel
theorem dX12_put_30 : decode cX12_put 30 = .ok (.isub, 1) := by decide +kernel
theorem dX12_put_31 : decode cX12_put 31 = .ok (.i2l, 1) := by decide +kernel
theorem dX12_put_32 : decode cX12_put 32 = .ok (.invokestatic 165, 3) := by decide +kernel
theorem dX12_put_35 : decode cX12_put 35 = .ok (.ifCond .ne 6, 3) := by decide +kernel
theorem dX12_put_38 : decode cX12_put 38 = .ok (.bipush (-13), 2) := by decide +kernel
theorem dX12_put_40 : decode cX12_put 40 = .ok (.ireturn, 1) := by decide +kernel
theorem dX12_put_41 : decode cX12_put 41 = .ok (.aload_n 0, 1) := by decide +kernel
theorem dX12_put_42 : decode cX12_put 42 = .ok (.getfield 83, 3) := by decide +kernel
theorem dX12_put_45 : decode cX12_put 45 = .ok (.bipush 100, 2) := by decide +kernel
theorem dX12_put_47 : decode cX12_put 47 = .ok (.iload_n 1, 1) := by decide +kernel
theorem dX12_put_48 : decode cX12_put 48 = .ok (.imul, 1) := by decide +kernel
theorem dX12_put_49 : decode cX12_put 49 = .ok (.iload_n 2, 1) := by decide +kernel
theorem dX12_put_50 : decode cX12_put 50 = .ok (.iadd, 1) := by decide +kernel
theorem dX12_put_51 : decode cX12_put 51 = .ok (.iload_n 3, 1) := by decide +kernel
theorem dX12_put_52 : decode cX12_put 52 = .ok (.aload_n 0, 1) := by decide +kernel
theorem dX12_put_53 : decode cX12_put 53 = .ok (.getfield 77, 3) := by decide +kernel
theorem dX12_put_56 : decode cX12_put 56 = .ok (.iload_n 1, 1) := by decide +kernel
theorem dX12_put_57 : decode cX12_put 57 = .ok (.iaload, 1) := by decide +kernel
theorem dX12_put_58 : decode cX12_put 58 = .ok (.invokestatic 454, 3) := by decide +kernel
theorem dX12_put_61 : decode cX12_put 61 = .ok (.lastore, 1) := by decide +kernel
theorem dX12_put_62 : decode cX12_put 62 = .ok (.iconst 0, 1) := by decide +kernel
theorem dX12_put_63 : decode cX12_put 63 = .ok (.ireturn, 1) := by decide +kernel
theorem dX12_element_0 : decode cX12_element 0 = .ok (.aload_n 0, 1) := by decide +kernel
theorem dX12_element_1 : decode cX12_element 1 = .ok (.iload_n 1, 1) := by decide +kernel
theorem dX12_element_2 : decode cX12_element 2 = .ok (.invokevirtual 322, 3) := by decide +kernel
theorem dX12_element_5 : decode cX12_element 5 = .ok (.istore_n 3, 1) := by decide +kernel
theorem dX12_element_6 : decode cX12_element 6 = .ok (.aload_n 0, 1) := by decide +kernel
theorem dX12_element_7 : decode cX12_element 7 = .ok (.iload_n 3, 1) := by decide +kernel
theorem dX12_element_8 : decode cX12_element 8 = .ok (.iconst (-1), 1) := by decide +kernel
theorem dX12_element_9 : decode cX12_element 9 = .ok (.if_icmp .ne 7, 3) := by decide +kernel
theorem dX12_element_12 : decode cX12_element 12 = .ok (.iconst 1, 1) := by decide +kernel
theorem dX12_element_13 : decode cX12_element 13 = .ok (.goto 30, 3) := by decide +kernel
theorem dX12_element_16 : decode cX12_element 16 = .ok (.iload_n 3, 1) := by decide +kernel
theorem dX12_element_17 : decode cX12_element 17 = .ok (.ifCond .lt 21, 3) := by decide +kernel
theorem dX12_element_20 : decode cX12_element 20 = .ok (.iload_n 2, 1) := by decide +kernel
theorem dX12_element_21 : decode cX12_element 21 = .ok (.i2l, 1) := by decide +kernel
theorem dX12_element_22 : decode cX12_element 22 = .ok (.lconst 0, 1) := by decide +kernel
theorem dX12_element_23 : decode cX12_element 23 = .ok (.aload_n 0, 1) := by decide +kernel
theorem dX12_element_24 : decode cX12_element 24 = .ok (.getfield 80, 3) := by decide +kernel
theorem dX12_element_27 : decode cX12_element 27 = .ok (.iload_n 1, 1) := by decide +kernel
theorem dX12_element_28 : decode cX12_element 28 = .ok (.iaload, 1) := by decide +kernel
theorem dX12_element_29 : decode cX12_element 29 = .ok (.iconst 1, 1) := by decide +kernel
theorem dX12_element_30 : decode cX12_element 30 = .ok (.isub, 1) := by decide +kernel
theorem dX12_element_31 : decode cX12_element 31 = .ok (.i2l, 1) := by decide +kernel
theorem dX12_element_32 : decode cX12_element 32 = .ok (.invokestatic 165, 3) := by decide +kernel
theorem dX12_element_35 : decode cX12_element 35 = .ok (.ifCond .ne 7, 3) := by decide +kernel
theorem dX12_element_38 : decode cX12_element 38 = .ok (.iconst 2, 1) := by decide +kernel
theorem dX12_element_39 : decode cX12_element 39 = .ok (.goto 4, 3) := by decide +kernel
theorem dX12_element_42 : decode cX12_element 42 = .ok (.iconst 0, 1) := by decide +kernel
theorem dX12_element_43 : decode cX12_element 43 = .ok (.putfield 160, 3) := by decide +kernel
theorem dX12_element_46 : decode cX12_element 46 = .ok (.aload_n 0, 1) := by decide +kernel
theorem dX12_element_47 : decode cX12_element 47 = .ok (.getfield 160, 3) := by decide +kernel
theorem dX12_element_50 : decode cX12_element 50 = .ok (.ifCond .le 7, 3) := by decide +kernel
theorem dX12_element_53 : decode cX12_element 53 = .ok (.lconst 0, 1) := by decide +kernel
theorem dX12_element_54 : decode cX12_element 54 = .ok (.goto 14, 3) := by decide +kernel
theorem dX12_element_57 : decode cX12_element 57 = .ok (.aload_n 0, 1) := by decide +kernel
theorem dX12_element_58 : decode cX12_element 58 = .ok (.getfield 83, 3) := by decide +kernel
theorem dX12_element_61 : decode cX12_element 61 = .ok (.bipush 100, 2) := by decide +kernel
theorem dX12_element_63 : decode cX12_element 63 = .ok (.iload_n 1, 1) := by decide +kernel
theorem dX12_element_64 : decode cX12_element 64 = .ok (.imul, 1) := by decide +kernel
theorem dX12_element_65 : decode cX12_element 65 = .ok (.iload_n 2, 1) := by decide +kernel
theorem dX12_element_66 : decode cX12_element 66 = .ok (.iadd, 1) := by decide +kernel
theorem dX12_element_67 : decode cX12_element 67 = .ok (.laload, 1) := by decide +kernel
theorem dX12_element_68 : decode cX12_element 68 = .ok (.lreturn, 1) := by decide +kernel
theorem dX12_copy_0 : decode cX12_copy 0 = .ok (.aload_n 0, 1) := by decide +kernel
theorem dX12_copy_1 : decode cX12_copy 1 = .ok (.iconst 0, 1) := by decide +kernel
theorem dX12_copy_2 : decode cX12_copy 2 = .ok (.putfield 160, 3) := by decide +kernel
theorem dX12_copy_5 : decode cX12_copy 5 = .ok (.iload_n 1, 1) := by decide +kernel
theorem dX12_copy_6 : decode cX12_copy 6 = .ok (.i2l, 1) := by decide +kernel
theorem dX12_copy_7 : decode cX12_copy 7 = .ok (.lconst 0, 1) := by decide +kernel
theorem dX12_copy_8 : decode cX12_copy 8 = .ok (.ldc2_w 353, 3) := by decide +kernel
theorem dX12_copy_11 : decode cX12_copy 11 = .ok (.invokestatic 165, 3) := by decide +kernel
theorem dX12_copy_14 : decode cX12_copy 14 = .ok (.ifCond .eq 15, 3) := by decide +kernel
theorem dX12_copy_17 : decode cX12_copy 17 = .ok (.iload_n 3, 1) := by decide +kernel
theorem dX12_copy_18 : decode cX12_copy 18 = .ok (.i2l, 1) := by decide +kernel
theorem dX12_copy_19 : decode cX12_copy 19 = .ok (.lconst 0, 1) := by decide +kernel
theorem dX12_copy_20 : decode cX12_copy 20 = .ok (.ldc2_w 353, 3) := by decide +kernel
theorem dX12_copy_23 : decode cX12_copy 23 = .ok (.invokestatic 165, 3) := by decide +kernel
theorem dX12_copy_26 : decode cX12_copy 26 = .ok (.ifCond .ne 5, 3) := by decide +kernel
theorem dX12_copy_29 : decode cX12_copy 29 = .ok (.iconst (-1), 1) := by decide +kernel
theorem dX12_copy_30 : decode cX12_copy 30 = .ok (.ireturn, 1) := by decide +kernel
theorem dX12_copy_31 : decode cX12_copy 31 = .ok (.aload_n 0, 1) := by decide +kernel
theorem dX12_copy_32 : decode cX12_copy 32 = .ok (.getfield 68, 3) := by decide +kernel
theorem dX12_copy_35 : decode cX12_copy 35 = .ok (.iload_n 1, 1) := by decide +kernel
theorem dX12_copy_36 : decode cX12_copy 36 = .ok (.iaload, 1) := by decide +kernel
theorem dX12_copy_37 : decode cX12_copy 37 = .ok (.ifCond .eq 12, 3) := by decide +kernel
theorem dX12_copy_40 : decode cX12_copy 40 = .ok (.aload_n 0, 1) := by decide +kernel
theorem dX12_copy_41 : decode cX12_copy 41 = .ok (.getfield 68, 3) := by decide +kernel
theorem dX12_copy_44 : decode cX12_copy 44 = .ok (.iload_n 3, 1) := by decide +kernel
theorem dX12_copy_45 : decode cX12_copy 45 = .ok (.iaload, 1) := by decide +kernel
theorem dX12_copy_46 : decode cX12_copy 46 = .ok (.ifCond .ne 6, 3) := by decide +kernel
theorem dX12_copy_49 : decode cX12_copy 49 = .ok (.bipush (-11), 2) := by decide +kernel
theorem dX12_copy_51 : decode cX12_copy 51 = .ok (.ireturn, 1) := by decide +kernel
theorem dX12_copy_52 : decode cX12_copy 52 = .ok (.aload_n 0, 1) := by decide +kernel
theorem dX12_copy_53 : decode cX12_copy 53 = .ok (.getfield 68, 3) := by decide +kernel
theorem dX12_copy_56 : decode cX12_copy 56 = .ok (.iload_n 1, 1) := by decide +kernel
theorem dX12_copy_57 : decode cX12_copy 57 = .ok (.iaload, 1) := by decide +kernel
theorem dX12_copy_58 : decode cX12_copy 58 = .ok (.iconst 2, 1) := by decide +kernel
theorem dX12_copy_59 : decode cX12_copy 59 = .ok (.if_icmp .ne 28, 3) := by decide +kernel
theorem dX12_copy_62 : decode cX12_copy 62 = .ok (.aload_n 0, 1) := by decide +kernel
theorem dX12_copy_63 : decode cX12_copy 63 = .ok (.getfield 68, 3) := by decide +kernel
theorem dX12_copy_66 : decode cX12_copy 66 = .ok (.iload_n 3, 1) := by decide +kernel
theorem dX12_copy_67 : decode cX12_copy 67 = .ok (.iaload, 1) := by decide +kernel
theorem dX12_copy_68 : decode cX12_copy 68 = .ok (.iconst 2, 1) := by decide +kernel
theorem dX12_copy_69 : decode cX12_copy 69 = .ok (.if_icmp .ne 18, 3) := by decide +kernel
theorem dX12_copy_72 : decode cX12_copy 72 = .ok (.aload_n 0, 1) := by decide +kernel
theorem dX12_copy_73 : decode cX12_copy 73 = .ok (.getfield 77, 3) := by decide +kernel
theorem dX12_copy_76 : decode cX12_copy 76 = .ok (.iload_n 1, 1) := by decide +kernel
theorem dX12_copy_77 : decode cX12_copy 77 = .ok (.iaload, 1) := by decide +kernel
theorem dX12_copy_78 : decode cX12_copy 78 = .ok (.aload_n 0, 1) := by decide +kernel
theorem dX12_copy_79 : decode cX12_copy 79 = .ok (.getfield 77, 3) := by decide +kernel
theorem dX12_copy_82 : decode cX12_copy 82 = .ok (.iload_n 3, 1) := by decide +kernel
theorem dX12_copy_83 : decode cX12_copy 83 = .ok (.iaload, 1) := by decide +kernel
theorem dX12_copy_84 : decode cX12_copy 84 = .ok (.if_icmp .eq 6, 3) := by decide +kernel
theorem dX12_copy_87 : decode cX12_copy 87 = .ok (.bipush (-12), 2) := by decide +kernel
theorem dX12_copy_89 : decode cX12_copy 89 = .ok (.ireturn, 1) := by decide +kernel
theorem dX12_copy_90 : decode cX12_copy 90 = .ok (.iload 5, 2) := by decide +kernel
theorem dX12_copy_92 : decode cX12_copy 92 = .ok (.ifCond .lt 39, 3) := by decide +kernel
theorem dX12_copy_95 : decode cX12_copy 95 = .ok (.iload_n 2, 1) := by decide +kernel
theorem dX12_copy_96 : decode cX12_copy 96 = .ok (.ifCond .lt 35, 3) := by decide +kernel
theorem dX12_copy_99 : decode cX12_copy 99 = .ok (.iload 4, 2) := by decide +kernel
theorem dX12_copy_101 : decode cX12_copy 101 = .ok (.ifCond .lt 30, 3) := by decide +kernel
theorem dX12_copy_104 : decode cX12_copy 104 = .ok (.iload_n 2, 1) := by decide +kernel
theorem dX12_copy_105 : decode cX12_copy 105 = .ok (.aload_n 0, 1) := by decide +kernel
theorem dX12_copy_106 : decode cX12_copy 106 = .ok (.getfield 80, 3) := by decide +kernel
theorem dX12_copy_109 : decode cX12_copy 109 = .ok (.iload_n 1, 1) := by decide +kernel
theorem dX12_copy_110 : decode cX12_copy 110 = .ok (.iaload, 1) := by decide +kernel
theorem dX12_copy_111 : decode cX12_copy 111 = .ok (.iload 5, 2) := by decide +kernel
theorem dX12_copy_113 : decode cX12_copy 113 = .ok (.isub, 1) := by decide +kernel
theorem dX12_copy_114 : decode cX12_copy 114 = .ok (.if_icmp .gt 17, 3) := by decide +kernel
theorem dX12_copy_117 : decode cX12_copy 117 = .ok (.iload 4, 2) := by decide +kernel
theorem dX12_copy_119 : decode cX12_copy 119 = .ok (.aload_n 0, 1) := by decide +kernel
theorem dX12_copy_120 : decode cX12_copy 120 = .ok (.getfield 80, 3) := by decide +kernel
theorem dX12_copy_123 : decode cX12_copy 123 = .ok (.iload_n 3, 1) := by decide +kernel
theorem dX12_copy_124 : decode cX12_copy 124 = .ok (.iaload, 1) := by decide +kernel
theorem dX12_copy_125 : decode cX12_copy 125 = .ok (.iload 5, 2) := by decide +kernel
theorem dX12_copy_127 : decode cX12_copy 127 = .ok (.isub, 1) := by decide +kernel
theorem dX12_copy_128 : decode cX12_copy 128 = .ok (.if_icmp .le 6, 3) := by decide +kernel
theorem dX12_copy_131 : decode cX12_copy 131 = .ok (.bipush (-13), 2) := by decide +kernel
theorem dX12_copy_133 : decode cX12_copy 133 = .ok (.ireturn, 1) := by decide +kernel
theorem dX12_copy_134 : decode cX12_copy 134 = .ok (.iconst 0, 1) := by decide +kernel
theorem dX12_copy_135 : decode cX12_copy 135 = .ok (.istore 6, 2) := by decide +kernel
theorem dX12_copy_137 : decode cX12_copy 137 = .ok (.iload 6, 2) := by decide +kernel
theorem dX12_copy_139 : decode cX12_copy 139 = .ok (.iload 5, 2) := by decide +kernel
theorem dX12_copy_141 : decode cX12_copy 141 = .ok (.if_icmp .ge 30, 3) := by decide +kernel
theorem dX12_copy_144 : decode cX12_copy 144 = .ok (.aload_n 0, 1) := by decide +kernel
theorem dX12_copy_145 : decode cX12_copy 145 = .ok (.getfield 157, 3) := by decide +kernel
theorem dX12_copy_148 : decode cX12_copy 148 = .ok (.iload 6, 2) := by decide +kernel
theorem dX12_copy_150 : decode cX12_copy 150 = .ok (.aload_n 0, 1) := by decide +kernel
theorem dX12_copy_151 : decode cX12_copy 151 = .ok (.getfield 83, 3) := by decide +kernel
theorem dX12_copy_154 : decode cX12_copy 154 = .ok (.bipush 100, 2) := by decide +kernel
theorem dX12_copy_156 : decode cX12_copy 156 = .ok (.iload_n 1, 1) := by decide +kernel
theorem dX12_copy_157 : decode cX12_copy 157 = .ok (.imul, 1) := by decide +kernel
theorem dX12_copy_158 : decode cX12_copy 158 = .ok (.iload_n 2, 1) := by decide +kernel
theorem dX12_copy_159 : decode cX12_copy 159 = .ok (.iadd, 1) := by decide +kernel
theorem dX12_copy_160 : decode cX12_copy 160 = .ok (.iload 6, 2) := by decide +kernel
theorem dX12_copy_162 : decode cX12_copy 162 = .ok (.iadd, 1) := by decide +kernel
theorem dX12_copy_163 : decode cX12_copy 163 = .ok (.laload, 1) := by decide +kernel
theorem dX12_copy_164 : decode cX12_copy 164 = .ok (.lastore, 1) := by decide +kernel
theorem dX12_copy_165 : decode cX12_copy 165 = .ok (.iinc 6 1, 3) := by decide +kernel
theorem dX12_copy_168 : decode cX12_copy 168 = .ok (.goto (-31), 3) := by decide +kernel
theorem dX12_copy_171 : decode cX12_copy 171 = .ok (.iconst 0, 1) := by decide +kernel
theorem dX12_copy_172 : decode cX12_copy 172 = .ok (.istore 6, 2) := by decide +kernel
theorem dX12_copy_174 : decode cX12_copy 174 = .ok (.iload 6, 2) := by decide +kernel
theorem dX12_copy_176 : decode cX12_copy 176 = .ok (.iload 5, 2) := by decide +kernel
theorem dX12_copy_178 : decode cX12_copy 178 = .ok (.if_icmp .ge 31, 3) := by decide +kernel
theorem dX12_copy_181 : decode cX12_copy 181 = .ok (.aload_n 0, 1) := by decide +kernel
theorem dX12_copy_182 : decode cX12_copy 182 = .ok (.getfield 83, 3) := by decide +kernel
theorem dX12_copy_185 : decode cX12_copy 185 = .ok (.bipush 100, 2) := by decide +kernel
theorem dX12_copy_187 : decode cX12_copy 187 = .ok (.iload_n 3, 1) := by decide +kernel
theorem dX12_copy_188 : decode cX12_copy 188 = .ok (.imul, 1) := by decide +kernel
theorem dX12_copy_189 : decode cX12_copy 189 = .ok (.iload 4, 2) := by decide +kernel
theorem dX12_copy_191 : decode cX12_copy 191 = .ok (.iadd, 1) := by decide +kernel
theorem dX12_copy_192 : decode cX12_copy 192 = .ok (.iload 6, 2) := by decide +kernel
theorem dX12_copy_194 : decode cX12_copy 194 = .ok (.iadd, 1) := by decide +kernel
theorem dX12_copy_195 : decode cX12_copy 195 = .ok (.aload_n 0, 1) := by decide +kernel
theorem dX12_copy_196 : decode cX12_copy 196 = .ok (.getfield 157, 3) := by decide +kernel
theorem dX12_copy_199 : decode cX12_copy 199 = .ok (.iload 6, 2) := by decide +kernel
theorem dX12_copy_201 : decode cX12_copy 201 = .ok (.laload, 1) := by decide +kernel
theorem dX12_copy_202 : decode cX12_copy 202 = .ok (.lastore, 1) := by decide +kernel
theorem dX12_copy_203 : decode cX12_copy 203 = .ok (.iinc 6 1, 3) := by decide +kernel
theorem dX12_copy_206 : decode cX12_copy 206 = .ok (.goto (-32), 3) := by decide +kernel
theorem dX12_copy_209 : decode cX12_copy 209 = .ok (.iload 5, 2) := by decide +kernel
theorem dX12_copy_211 : decode cX12_copy 211 = .ok (.ireturn, 1) := by decide +kernel
theorem dX12_costOf_0 : decode cX12_costOf 0 = .ok (.iload_n 0, 1) := by decide +kernel
theorem dX12_costOf_1 : decode cX12_costOf 1 = .ok (.tableswitch 71 0 6 #[43, 46, 49, 54, 61, 64, 69], 43) := by decide +kernel
theorem dX12_costOf_44 : decode cX12_costOf 44 = .ok (.bipush 6, 2) := by decide +kernel
theorem dX12_costOf_46 : decode cX12_costOf 46 = .ok (.ireturn, 1) := by decide +kernel
theorem dX12_costOf_47 : decode cX12_costOf 47 = .ok (.bipush 18, 2) := by decide +kernel
theorem dX12_costOf_49 : decode cX12_costOf 49 = .ok (.ireturn, 1) := by decide +kernel
theorem dX12_costOf_50 : decode cX12_costOf 50 = .ok (.bipush 6, 2) := by decide +kernel
theorem dX12_costOf_52 : decode cX12_costOf 52 = .ok (.iload_n 1, 1) := by decide +kernel
theorem dX12_costOf_53 : decode cX12_costOf 53 = .ok (.iadd, 1) := by decide +kernel
theorem dX12_costOf_54 : decode cX12_costOf 54 = .ok (.ireturn, 1) := by decide +kernel
theorem dX12_costOf_55 : decode cX12_costOf 55 = .ok (.iconst 2, 1) := by decide +kernel
theorem dX12_costOf_56 : decode cX12_costOf 56 = .ok (.bipush 6, 2) := by decide +kernel
theorem dX12_costOf_58 : decode cX12_costOf 58 = .ok (.iload_n 1, 1) := by decide +kernel
theorem dX12_costOf_59 : decode cX12_costOf 59 = .ok (.iadd, 1) := by decide +kernel
theorem dX12_costOf_60 : decode cX12_costOf 60 = .ok (.imul, 1) := by decide +kernel
theorem dX12_costOf_61 : decode cX12_costOf 61 = .ok (.ireturn, 1) := by decide +kernel
theorem dX12_costOf_62 : decode cX12_costOf 62 = .ok (.bipush 15, 2) := by decide +kernel
theorem dX12_costOf_64 : decode cX12_costOf 64 = .ok (.ireturn, 1) := by decide +kernel
theorem dX12_costOf_65 : decode cX12_costOf 65 = .ok (.bipush 15, 2) := by decide +kernel
theorem dX12_costOf_67 : decode cX12_costOf 67 = .ok (.iload_n 1, 1) := by decide +kernel
theorem dX12_costOf_68 : decode cX12_costOf 68 = .ok (.iadd, 1) := by decide +kernel
theorem dX12_costOf_69 : decode cX12_costOf 69 = .ok (.ireturn, 1) := by decide +kernel
theorem dX12_costOf_70 : decode cX12_costOf 70 = .ok (.iconst 3, 1) := by decide +kernel
theorem dX12_costOf_71 : decode cX12_costOf 71 = .ok (.ireturn, 1) := by decide +kernel
theorem dX12_costOf_72 : decode cX12_costOf 72 = .ok (.iconst 2, 1) := by decide +kernel
theorem dX12_costOf_73 : decode cX12_costOf 73 = .ok (.ireturn, 1) := by decide +kernel
theorem dX12_cost_0 : decode cX12_cost 0 = .ok (.aload_n 0, 1) := by decide +kernel
theorem dX12_cost_1 : decode cX12_cost 1 = .ok (.iconst 0, 1) := by decide +kernel
theorem dX12_cost_2 : decode cX12_cost 2 = .ok (.putfield 160, 3) := by decide +kernel
theorem dX12_cost_5 : decode cX12_cost 5 = .ok (.aload_n 0, 1) := by decide +kernel
theorem dX12_cost_6 : decode cX12_cost 6 = .ok (.iload_n 1, 1) := by decide +kernel
theorem dX12_cost_7 : decode cX12_cost 7 = .ok (.invokevirtual 355, 3) := by decide +kernel
theorem dX12_cost_10 : decode cX12_cost 10 = .ok (.ifCond .ge 11, 3) := by decide +kernel
theorem dX12_cost_13 : decode cX12_cost 13 = .ok (.aload_n 0, 1) := by decide +kernel
theorem dX12_cost_14 : decode cX12_cost 14 = .ok (.iload_n 1, 1) := by decide +kernel
theorem dX12_cost_15 : decode cX12_cost 15 = .ok (.invokevirtual 355, 3) := by decide +kernel
theorem dX12_cost_18 : decode cX12_cost 18 = .ok (.goto 18, 3) := by decide +kernel
theorem dX12_cost_21 : decode cX12_cost 21 = .ok (.aload_n 0, 1) := by decide +kernel
theorem dX12_cost_22 : decode cX12_cost 22 = .ok (.getfield 71, 3) := by decide +kernel
theorem dX12_cost_25 : decode cX12_cost 25 = .ok (.iload_n 1, 1) := by decide +kernel
theorem dX12_cost_26 : decode cX12_cost 26 = .ok (.iaload, 1) := by decide +kernel
theorem dX12_cost_27 : decode cX12_cost 27 = .ok (.aload_n 0, 1) := by decide +kernel
theorem dX12_cost_28 : decode cX12_cost 28 = .ok (.getfield 74, 3) := by decide +kernel
theorem dX12_cost_31 : decode cX12_cost 31 = .ok (.iload_n 1, 1) := by decide +kernel
theorem dX12_cost_32 : decode cX12_cost 32 = .ok (.iaload, 1) := by decide +kernel
theorem dX12_cost_33 : decode cX12_cost 33 = .ok (.invokestatic 457, 3) := by decide +kernel
theorem dX12_cost_36 : decode cX12_cost 36 = .ok (.ireturn, 1) := by decide +kernel
theorem dX12_toss_0 : decode cX12_toss 0 = .ok (.aload_n 0, 1) := by decide +kernel
theorem dX12_toss_1 : decode cX12_toss 1 = .ok (.iconst 0, 1) := by decide +kernel
theorem dX12_toss_2 : decode cX12_toss 2 = .ok (.putfield 160, 3) := by decide +kernel
theorem dX12_toss_5 : decode cX12_toss 5 = .ok (.aload_n 0, 1) := by decide +kernel
theorem dX12_toss_6 : decode cX12_toss 6 = .ok (.iload_n 1, 1) := by decide +kernel
theorem dX12_toss_7 : decode cX12_toss 7 = .ok (.invokevirtual 355, 3) := by decide +kernel
theorem dX12_toss_10 : decode cX12_toss 10 = .ok (.ifCond .ge 9, 3) := by decide +kernel
theorem dX12_toss_13 : decode cX12_toss 13 = .ok (.aload_n 0, 1) := by decide +kernel
theorem dX12_toss_14 : decode cX12_toss 14 = .ok (.iload_n 1, 1) := by decide +kernel
theorem dX12_toss_15 : decode cX12_toss 15 = .ok (.invokevirtual 355, 3) := by decide +kernel
theorem dX12_toss_18 : decode cX12_toss 18 = .ok (.ireturn, 1) := by decide +kernel
theorem dX12_toss_19 : decode cX12_toss 19 = .ok (.aload_n 0, 1) := by decide +kernel
theorem dX12_toss_20 : decode cX12_toss 20 = .ok (.getfield 71, 3) := by decide +kernel
theorem dX12_toss_23 : decode cX12_toss 23 = .ok (.iload_n 1, 1) := by decide +kernel
theorem dX12_toss_24 : decode cX12_toss 24 = .ok (.iaload, 1) := by decide +kernel
theorem dX12_toss_25 : decode cX12_toss 25 = .ok (.istore_n 2, 1) := by decide +kernel
theorem dX12_toss_26 : decode cX12_toss 26 = .ok (.aload_n 0, 1) := by decide +kernel
theorem dX12_toss_27 : decode cX12_toss 27 = .ok (.getfield 74, 3) := by decide +kernel
theorem dX12_toss_30 : decode cX12_toss 30 = .ok (.iload_n 1, 1) := by decide +kernel
theorem dX12_toss_31 : decode cX12_toss 31 = .ok (.iaload, 1) := by decide +kernel
theorem dX12_toss_32 : decode cX12_toss 32 = .ok (.istore_n 3, 1) := by decide +kernel
theorem dX12_toss_33 : decode cX12_toss 33 = .ok (.iload_n 2, 1) := by decide +kernel
theorem dX12_toss_34 : decode cX12_toss 34 = .ok (.iconst 5, 1) := by decide +kernel
theorem dX12_toss_35 : decode cX12_toss 35 = .ok (.if_icmp .gt 7, 3) := by decide +kernel
theorem dX12_toss_38 : decode cX12_toss 38 = .ok (.iload_n 3, 1) := by decide +kernel
theorem dX12_toss_39 : decode cX12_toss 39 = .ok (.ifCond .ne 6, 3) := by decide +kernel
theorem dX12_toss_42 : decode cX12_toss 42 = .ok (.bipush (-15), 2) := by decide +kernel
theorem dX12_toss_44 : decode cX12_toss 44 = .ok (.ireturn, 1) := by decide +kernel
theorem dX12_toss_45 : decode cX12_toss 45 = .ok (.iload_n 2, 1) := by decide +kernel
theorem dX12_toss_46 : decode cX12_toss 46 = .ok (.iconst 2, 1) := by decide +kernel
theorem dX12_toss_47 : decode cX12_toss 47 = .ok (.if_icmp .eq 8, 3) := by decide +kernel
theorem dX12_toss_50 : decode cX12_toss 50 = .ok (.iload_n 2, 1) := by decide +kernel
theorem dX12_toss_51 : decode cX12_toss 51 = .ok (.iconst 3, 1) := by decide +kernel
theorem dX12_toss_52 : decode cX12_toss 52 = .ok (.if_icmp .ne 10, 3) := by decide +kernel
theorem dX12_toss_55 : decode cX12_toss 55 = .ok (.bipush 100, 2) := by decide +kernel
theorem dX12_toss_57 : decode cX12_toss 57 = .ok (.iload_n 3, 1) := by decide +kernel
theorem dX12_toss_58 : decode cX12_toss 58 = .ok (.iadd, 1) := by decide +kernel
theorem dX12_toss_59 : decode cX12_toss 59 = .ok (.goto 21, 3) := by decide +kernel
theorem dX12_toss_62 : decode cX12_toss 62 = .ok (.iload_n 2, 1) := by decide +kernel
theorem dX12_toss_63 : decode cX12_toss 63 = .ok (.iconst 5, 1) := by decide +kernel
theorem dX12_toss_64 : decode cX12_toss 64 = .ok (.if_icmp .ne 15, 3) := by decide +kernel
theorem dX12_toss_67 : decode cX12_toss 67 = .ok (.sipush 200, 3) := by decide +kernel
theorem dX12_toss_70 : decode cX12_toss 70 = .ok (.iload_n 2, 1) := by decide +kernel
theorem dX12_toss_71 : decode cX12_toss 71 = .ok (.iload_n 3, 1) := by decide +kernel
theorem dX12_toss_72 : decode cX12_toss 72 = .ok (.invokestatic 457, 3) := by decide +kernel
theorem dX12_toss_75 : decode cX12_toss 75 = .ok (.iadd, 1) := by decide +kernel
theorem dX12_toss_76 : decode cX12_toss 76 = .ok (.goto 4, 3) := by decide +kernel
theorem dX12_toss_79 : decode cX12_toss 79 = .ok (.iload_n 3, 1) := by decide +kernel
theorem dX12_toss_80 : decode cX12_toss 80 = .ok (.ireturn, 1) := by decide +kernel
def b_X12_row_68 (v1 : Int32) (v4 : Int32) (S : St) : Option ((Int32 × Int32 × St) ⊕ (Int32 × St)) := (if (100 : Int32) ≤ v4 then some (.inr (0, S)) else gd (inb ((100 * v1) + v4) 800) (nm (sl S 158 ((100 * v1) + v4).toNatClampNeg 0) fun S3 => some (.inl (v1, (v4 + 1), S3))))
def l_X12_row_68 (x : (Int32 × Int32 × St)) : Option ((Int32 × Int32 × St) ⊕ (Int32 × St)) := b_X12_row_68 x.1 x.2.1 x.2.2
def b_X12_row_0 (v1 : Int32) (v2 : Int32) (v3 : Int32) (S : St) : Option (Int32 × St) := nm (si S 136 28 0) fun S1 => (L_X12_in v1.toInt64 0 7 S1).bind fun r2 => (if (r2 : Int32) = 0 then some ((-1), S1) else (L_X12_in v2.toInt64 0 2 S1).bind fun r4 => (if (r4 : Int32) = 0 then some ((-1), S1) else (if (v3 : Int32) ≤ 100 then (if (0 : Int32) ≤ v3 then gd (inb v1 8) (nm (si S1 153 v1.toNatClampNeg 2) fun S9 => gd (inb v1 8) (nm (si S9 156 v1.toNatClampNeg v2) fun S11 => gd (inb v1 8) (nm (si S11 157 v1.toNatClampNeg v3) fun S13 => (lp 1000 (l_X12_row_68) (v1, 0, S13))))) else some ((-14), S1)) else some ((-1), S1))))
def L_X12_row (a1 : Int32) (a2 : Int32) (a3 : Int32) (S : St) : Option (Int32 × St) := b_X12_row_0 a1 a2 a3 S
def b_X12_put_0 (v1 : Int32) (v2 : Int32) (v3 : Int32) (S : St) : Option (Int32 × St) := nm (si S 136 28 0) fun S1 => (L_X12_wrongRow v1 S1).bind fun r2 => (if (0 : Int32) ≤ r2 then gd (inb v1 8) ((L_X12_in v2.toInt64 0 (((gi S1 157 v1.toNatClampNeg) - 1).toInt64) S1).bind fun r5 => (if (r5 : Int32) = 0 then some ((-13), S1) else gd (inb v1 8) ((L_X12_narrowed v3 (gi S1 156 v1.toNatClampNeg) S1).bind fun r8 => gd (inb ((100 * v1) + v2) 800) (nm (sl S1 158 ((100 * v1) + v2).toNatClampNeg r8) fun S10 => some (0, S10))))) else some (r2, S1))
def L_X12_put (a1 : Int32) (a2 : Int32) (a3 : Int32) (S : St) : Option (Int32 × St) := b_X12_put_0 a1 a2 a3 S
def b_X12_element_43 (v1 : Int32) (v2 : Int32) (s0 : Int32) (S : St) : Option (Int64 × St) := nm (si S 136 28 s0) fun S1 => (if (gi S1 136 28 : Int32) ≤ 0 then gd (inb ((100 * v1) + v2) 800) (some (gl S1 158 ((100 * v1) + v2).toNatClampNeg, S1)) else some (0, S1))
def b_X12_element_38 (v1 : Int32) (v2 : Int32) (S : St) : Option (Int64 × St) := (b_X12_element_43 v1 v2 2 S)
def b_X12_element_0 (v1 : Int32) (v2 : Int32) (S : St) : Option (Int64 × St) := (L_X12_wrongRow v1 S).bind fun r1 => (if (r1 : Int32) = ((-1)) then (b_X12_element_43 v1 v2 1 S) else (if (r1 : Int32) < 0 then (b_X12_element_38 v1 v2 S) else gd (inb v1 8) ((L_X12_in v2.toInt64 0 (((gi S 157 v1.toNatClampNeg) - 1).toInt64) S).bind fun r5 => (if (r5 : Int32) = 0 then (b_X12_element_38 v1 v2 S) else (b_X12_element_43 v1 v2 0 S)))))
def L_X12_element (a1 : Int32) (a2 : Int32) (S : St) : Option (Int64 × St) := b_X12_element_0 a1 a2 S
def b_X12_copy_174 (v3 : Int32) (v4 : Int32) (v5 : Int32) (v6 : Int32) (S : St) : Option ((Int32 × Int32 × Int32 × Int32 × St) ⊕ (Int32 × St)) := (if (v5 : Int32) ≤ v6 then some (.inr (v5, S)) else gd (inb v6 100) (gd (inb (((100 * v3) + v4) + v6) 800) (nm (sl S 158 (((100 * v3) + v4) + v6).toNatClampNeg (gl S 181 v6.toNatClampNeg)) fun S4 => some (.inl (v3, v4, v5, (v6 + 1), S4)))))
def l_X12_copy_174 (x : (Int32 × Int32 × Int32 × Int32 × St)) : Option ((Int32 × Int32 × Int32 × Int32 × St) ⊕ (Int32 × St)) := b_X12_copy_174 x.1 x.2.1 x.2.2.1 x.2.2.2.1 x.2.2.2.2
def b_X12_copy_171 (v3 : Int32) (v4 : Int32) (v5 : Int32) (S : St) : Option (Int32 × St) := (lp 1000 (l_X12_copy_174) (v3, v4, v5, 0, S))
def b_X12_copy_137 (v1 : Int32) (v2 : Int32) (v3 : Int32) (v4 : Int32) (v5 : Int32) (v6 : Int32) (S : St) : Option ((Int32 × Int32 × Int32 × Int32 × Int32 × Int32 × St) ⊕ (Int32 × St)) := (if (v5 : Int32) ≤ v6 then ((b_X12_copy_171 v3 v4 v5 S).map Sum.inr) else gd (inb (((100 * v1) + v2) + v6) 800) (gd (inb v6 100) (nm (sl S 181 v6.toNatClampNeg (gl S 158 (((100 * v1) + v2) + v6).toNatClampNeg)) fun S4 => some (.inl (v1, v2, v3, v4, v5, (v6 + 1), S4)))))
def l_X12_copy_137 (x : (Int32 × Int32 × Int32 × Int32 × Int32 × Int32 × St)) : Option ((Int32 × Int32 × Int32 × Int32 × Int32 × Int32 × St) ⊕ (Int32 × St)) := b_X12_copy_137 x.1 x.2.1 x.2.2.1 x.2.2.2.1 x.2.2.2.2.1 x.2.2.2.2.2.1 x.2.2.2.2.2.2
def b_X12_copy_0 (v1 : Int32) (v2 : Int32) (v3 : Int32) (v4 : Int32) (v5 : Int32) (S : St) : Option (Int32 × St) := nm (si S 136 28 0) fun S1 => (L_X12_in v1.toInt64 0 7 S1).bind fun r2 => (if (r2 : Int32) = 0 then some ((-1), S1) else (L_X12_in v3.toInt64 0 7 S1).bind fun r4 => (if (r4 : Int32) = 0 then some ((-1), S1) else gd (inb v1 8) ((if (gi S1 153 v1.toNatClampNeg : Int32) = 0 then some ((-11), S1) else gd (inb v3 8) ((if (gi S1 153 v3.toNatClampNeg : Int32) = 0 then some ((-11), S1) else gd (inb v1 8) ((if (gi S1 153 v1.toNatClampNeg : Int32) = 2 then gd (inb v3 8) ((if (gi S1 153 v3.toNatClampNeg : Int32) = 2 then gd (inb v1 8) (gd (inb v3 8) ((if (gi S1 156 v1.toNatClampNeg : Int32) = (gi S1 156 v3.toNatClampNeg) then (if (v5 : Int32) < 0 then some ((-13), S1) else (if (v2 : Int32) < 0 then some ((-13), S1) else (if (v4 : Int32) < 0 then some ((-13), S1) else gd (inb v1 8) ((if ((gi S1 157 v1.toNatClampNeg) - v5 : Int32) < v2 then some ((-13), S1) else gd (inb v3 8) ((if (v4 : Int32) ≤ ((gi S1 157 v3.toNatClampNeg) - v5) then (lp 1000 (l_X12_copy_137) (v1, v2, v3, v4, v5, 0, S1)) else some ((-13), S1)))))))) else some ((-12), S1)))) else some ((-12), S1))) else some ((-12), S1)))))))))
def L_X12_copy (a1 : Int32) (a2 : Int32) (a3 : Int32) (a4 : Int32) (a5 : Int32) (S : St) : Option (Int32 × St) := b_X12_copy_0 a1 a2 a3 a4 a5 S
def b_X12_costOf_0 (v0 : Int32) (v1 : Int32) (S : St) : Option Int32 := (if (v0 : Int32) = 0 then some 6 else if (v0 : Int32) = 1 then some 18 else if (v0 : Int32) = 2 then some (6 + v1) else if (v0 : Int32) = 3 then some (2 * (6 + v1)) else if (v0 : Int32) = 4 then some 15 else if (v0 : Int32) = 5 then some (15 + v1) else if (v0 : Int32) = 6 then some 3 else some 2)
def L_X12_costOf (a0 : Int32) (a1 : Int32) (S : St) : Option Int32 := b_X12_costOf_0 a0 a1 S
def b_X12_cost_0 (v1 : Int32) (S : St) : Option (Int32 × St) := nm (si S 136 28 0) fun S1 => (L_X12_wrongKept v1 S1).bind fun r2 => (if (0 : Int32) ≤ r2 then gd (inb v1 8) (gd (inb v1 8) ((L_X12_costOf (gi S1 154 v1.toNatClampNeg) (gi S1 155 v1.toNatClampNeg) S1).bind fun r6 => some (r6, S1))) else (L_X12_wrongKept v1 S1).bind fun r7 => some (r7, S1))
def L_X12_cost (a1 : Int32) (S : St) : Option (Int32 × St) := b_X12_cost_0 a1 S
def b_X12_toss_55 (v3 : Int32) (S : St) : Option (Int32 × St) := some (100 + v3, S)
def b_X12_toss_0 (v1 : Int32) (S : St) : Option (Int32 × St) := nm (si S 136 28 0) fun S1 => (L_X12_wrongKept v1 S1).bind fun r2 => (if (0 : Int32) ≤ r2 then gd (inb v1 8) (gd (inb v1 8) ((if (5 : Int32) < (gi S1 154 v1.toNatClampNeg) then some ((-15), S1) else (if (gi S1 155 v1.toNatClampNeg : Int32) = 0 then some ((-15), S1) else (if (gi S1 154 v1.toNatClampNeg : Int32) = 2 then (b_X12_toss_55 (gi S1 155 v1.toNatClampNeg) S1) else (if (gi S1 154 v1.toNatClampNeg : Int32) = 3 then (b_X12_toss_55 (gi S1 155 v1.toNatClampNeg) S1) else (if (gi S1 154 v1.toNatClampNeg : Int32) = 5 then (L_X12_costOf (gi S1 154 v1.toNatClampNeg) (gi S1 155 v1.toNatClampNeg) S1).bind fun r11 => some (200 + r11, S1) else some (gi S1 155 v1.toNatClampNeg, S1)))))))) else (L_X12_wrongKept v1 S1).bind fun r12 => some (r12, S1))
def L_X12_toss (a1 : Int32) (S : St) : Option (Int32 × St) := b_X12_toss_0 a1 S
section WALKS
variable {p : Program} {e : Env} {s : State} {m : MethodId} {args : Array Value} {below : List Frame} {meth : Method} {c : Code} {D : va_G} {ct : Nat → ClassId} {B : Nat} {Hb : Heap}
set_option maxRecDepth 100000 in
set_option maxHeartbeats 4000000 in
theorem w_X12_row_68 (l : Launch) {V : Int32 × St} (C0 : XC D ct p s m args meth c cX12_row 5 (some .int) RX12) (n0 : Nat) (ih0 : ∀ (v1 : Int32) (v4 : Int32) (S : St) (H : Heap) (locs : List Loc) (ls : Array Slot), (lp n0 (l_X12_row_68) (v1, v4, S)).bind some = some V → MP D ct B Hb S H → va_S (AB B) s.heap H locs → lv_has ls 5 [(0, .ref (B + 136)), (1, .int v1), (4, .int v4)] → W p l e { frames := 1, cells := 0, slots := 0, locals := 25 } s m args below meth c H locs 0 0 (MQ below (qIw D ct B Hb V) args s 0 0 (AB B)) (F0 m 68 ls [])) (v1 : Int32) (v4 : Int32) (S : St) {H : Heap} {locs : List Loc} {ls : Array Slot} (h : (b_X12_row_68 v1 v4 S).bind (lpF n0 (l_X12_row_68) some) = some V) (hP : MP D ct B Hb S H) (hS : va_S (AB B) s.heap H locs) (hl : lv_has ls 5 [(0, .ref (B + 136)), (1, .int v1), (4, .int v4)]) : W p l e { frames := 1, cells := 0, slots := 0, locals := 25 } s m args below meth c H locs 0 0 (MQ below (qIw D ct B Hb V) args s 0 0 (AB B)) (F0 m 68 ls []) := by
  obtain ⟨hx, hb, hr, hml, hown, hts, hK, hlocks, hN⟩ := id C0
  unfold b_X12_row_68 at h
  refine lv_iload hx hb dX12_row_68 (lv_at hl 2 rfl) ?_
  refine lv_bipush (v := 100) hx hb dX12_row_70 (by decide) ?_
  refine lv_icmp_ge (tgt := 94) hx hb dX12_row_72 (by decide) (fun z1 => ?_) (fun z1 => ?_)
  · have h := ob_t h z1
    refine lv_iconst (v := 0) hx hb dX12_row_94 (by decide) ?_
    exact r_Iw C0 hP hS h dX12_row_95
  · have h := ob_f h z1
    refine lv_aload_n hx hb dX12_row_75 rfl (lv_at hl 0 rfl) ?_
    refine x_get C0 hP (lay_X12 B ct S) rfl inG12 27 (by decide) wd_1168 (fun _ h => h) rfl dX12_row_76 ?_
    refine lv_bipush (v := 100) hx hb dX12_row_79 (by decide) ?_
    refine lv_iload_n hx hb dX12_row_81 rfl (lv_at hl 1 rfl) ?_
    refine lv_imul hx hb dX12_row_82 ?_
    refine lv_iload hx hb dX12_row_83 (lv_at hl 2 rfl) ?_
    refine lv_iadd hx hb dX12_row_85 ?_
    refine lv_lconst (v := 0) hx hb dX12_row_86 (by decide) ?_
    obtain ⟨g2, h⟩ := ob_gd h
    obtain ⟨S3, eS3, h⟩ := ob_nm h
    refine x_last C0 hP hS (fun S => lay_158 B ct S) g2 dX12_row_87 (fun H locs hP hS => ?_)
    rw [← eS3] at hP
    refine lv_iinc (v := v4 + 1) (lv' := [(4, .int (v4 + 1)), (0, .ref (B + 136)), (1, .int v1)]) hx hb dX12_row_88 hl (k := 2) rfl rfl (by decide) rfl (fun ls hl => ?_)
    refine lv_goto (tgt := 68) hx hb dX12_row_91 (by decide) ?_
    exact ih0 v1 (v4 + 1) S3 _ _ _ h hP hS (lv_sub hl [1, 2, 0] rfl)
set_option maxRecDepth 100000 in
set_option maxHeartbeats 4000000 in
theorem wl_X12_row_68 (l : Launch) {V : Int32 × St} (C0 : XC D ct p s m args meth c cX12_row 5 (some .int) RX12)  : ∀ (n0 : Nat) (v1 : Int32) (v4 : Int32) (S : St) {H : Heap} {locs : List Loc} {ls : Array Slot}, (lp n0 (l_X12_row_68) (v1, v4, S)).bind some = some V → MP D ct B Hb S H → va_S (AB B) s.heap H locs → lv_has ls 5 [(0, .ref (B + 136)), (1, .int v1), (4, .int v4)] → W p l e { frames := 1, cells := 0, slots := 0, locals := 25 } s m args below meth c H locs 0 0 (MQ below (qIw D ct B Hb V) args s 0 0 (AB B)) (F0 m 68 ls []) := by
  intro n0
  induction n0 with
  | zero =>
    intro v1 v4 S H locs ls h hP hS hl
    exact (lp_0 h).elim
  | succ n0 ih0 =>
    intro v1 v4 S H locs ls h hP hS hl
    have h := lp_s h
    exact w_X12_row_68 l C0 n0 (fun v1 v4 S H locs ls h hP hS hl => ih0 v1 v4 S h hP hS hl) v1 v4 S h hP hS hl
set_option maxRecDepth 100000 in
set_option maxHeartbeats 4000000 in
theorem w_X12_row_0 (l : Launch) {V : Int32 × St} (C0 : XC D ct p s m args meth c cX12_row 5 (some .int) RX12) (v1 : Int32) (v2 : Int32) (v3 : Int32) (S : St) {H : Heap} {locs : List Loc} {ls : Array Slot} (h : (b_X12_row_0 v1 v2 v3 S).bind some = some V) (hP : MP D ct B Hb S H) (hS : va_S (AB B) s.heap H locs) (hl : lv_has ls 5 [(0, .ref (B + 136)), (1, .int v1), (2, .int v2), (3, .int v3)]) : W p l e { frames := 1, cells := 0, slots := 0, locals := 25 } s m args below meth c H locs 0 0 (MQ below (qIw D ct B Hb V) args s 0 0 (AB B)) (F0 m 0 ls []) := by
  obtain ⟨hx, hb, hr, hml, hown, hts, hK, hlocks, hN⟩ := id C0
  unfold b_X12_row_0 at h
  refine lv_aload_n hx hb dX12_row_0 rfl (lv_at hl 0 rfl) ?_
  refine lv_iconst (v := 0) hx hb dX12_row_1 (by decide) ?_
  obtain ⟨S1, eS1, h⟩ := ob_nm h
  refine x_put (S' := si S 136 28 0) (FS := (fs12 B)) C0 hP hS (fun S => lay_X12 B ct S) rfl inG12 tyX12 tyX12_ok nmX12 28 (by decide) wd_1169 rfl rfl (fun a ha => lay_local (gi_si_n _ _ _ ha) rfl rfl rfl) (put_12_28 B _ _) rfl rfl (Nat.le_of_ble_eq_true rfl) dX12_row_2 (fun H locs hP hS => ?_)
  rw [← eS1] at hP
  refine lv_iload_n hx hb dX12_row_5 rfl (lv_at hl 1 rfl) ?_
  refine lv_i2l hx hb dX12_row_6 rfl ?_
  refine lv_lconst (v := 0) hx hb dX12_row_7 (by decide) ?_
  refine lv_ldc2 (v := 7) hx hb hown (hts _ wd_1367) dX12_row_8 ?_
  obtain ⟨r2, hr2, h⟩ := ob_bd h
  refine n_I (kS (As := [.long v1.toInt64, .long 0, .long 7]) C0 (c_X12_in l v1.toInt64 0 7 hr2) ⟨wd_1370, wd_1368, wd_1369, wd_6⟩ kd_X12_in ⟨Nat.le_of_ble_eq_true rfl, Nat.le_of_ble_eq_true rfl⟩ hP rfl hl.1 rfl (Nat.le_of_ble_eq_true rfl) dX12_row_11 ⟨Nat.le_of_ble_eq_true rfl, Nat.le_of_ble_eq_true rfl⟩) hS (fun H locs hP hS => ?_)
  refine lv_if_eq (tgt := 35) hx hb dX12_row_14 (by decide) (fun z3 => ?_) (fun z3 => ?_)
  · have h := ob_t h z3
    refine lv_iconst (v := (-1)) hx hb dX12_row_35 (by decide) ?_
    exact r_Iw C0 hP hS h dX12_row_36
  · have h := ob_f h z3
    refine lv_iload_n hx hb dX12_row_17 rfl (lv_at hl 2 rfl) ?_
    refine lv_i2l hx hb dX12_row_18 rfl ?_
    refine lv_lconst (v := 0) hx hb dX12_row_19 (by decide) ?_
    refine lv_ldc2 (v := 2) hx hb hown (hts _ wd_1771) dX12_row_20 ?_
    obtain ⟨r4, hr4, h⟩ := ob_bd h
    refine n_I (kS (As := [.long v2.toInt64, .long 0, .long 2]) C0 (c_X12_in l v2.toInt64 0 2 hr4) ⟨wd_1370, wd_1368, wd_1369, wd_6⟩ kd_X12_in ⟨Nat.le_of_ble_eq_true rfl, Nat.le_of_ble_eq_true rfl⟩ hP rfl hl.1 rfl (Nat.le_of_ble_eq_true rfl) dX12_row_23 ⟨Nat.le_of_ble_eq_true rfl, Nat.le_of_ble_eq_true rfl⟩) hS (fun H locs hP hS => ?_)
    refine lv_if_eq (tgt := 35) hx hb dX12_row_26 (by decide) (fun z5 => ?_) (fun z5 => ?_)
    · have h := ob_t h z5
      refine lv_iconst (v := (-1)) hx hb dX12_row_35 (by decide) ?_
      exact r_Iw C0 hP hS h dX12_row_36
    · have h := ob_f h z5
      refine lv_iload_n hx hb dX12_row_29 rfl (lv_at hl 3 rfl) ?_
      refine lv_bipush (v := 100) hx hb dX12_row_30 (by decide) ?_
      refine lv_icmp_le (tgt := 37) hx hb dX12_row_32 (by decide) (fun z6 => ?_) (fun z6 => ?_)
      · have h := ob_t h z6
        refine lv_iload_n hx hb dX12_row_37 rfl (lv_at hl 3 rfl) ?_
        refine lv_if_ge (tgt := 44) hx hb dX12_row_38 (by decide) (fun z7 => ?_) (fun z7 => ?_)
        · have h := ob_t h z7
          refine lv_aload_n hx hb dX12_row_44 rfl (lv_at hl 0 rfl) ?_
          refine x_get C0 hP (lay_X12 B ct S1) rfl inG12 22 (by decide) wd_1163 (fun _ h => h) rfl dX12_row_45 ?_
          refine lv_iload_n hx hb dX12_row_48 rfl (lv_at hl 1 rfl) ?_
          refine lv_iconst (v := 2) hx hb dX12_row_49 (by decide) ?_
          obtain ⟨g8, h⟩ := ob_gd h
          obtain ⟨S9, eS9, h⟩ := ob_nm h
          refine x_iast C0 hP hS (fun S => lay_153 B ct S) g8 dX12_row_50 (fun H locs hP hS => ?_)
          rw [← eS9] at hP
          refine lv_aload_n hx hb dX12_row_51 rfl (lv_at hl 0 rfl) ?_
          refine x_get C0 hP (lay_X12 B ct S9) rfl inG12 25 (by decide) wd_1166 (fun _ h => h) rfl dX12_row_52 ?_
          refine lv_iload_n hx hb dX12_row_55 rfl (lv_at hl 1 rfl) ?_
          refine lv_iload_n hx hb dX12_row_56 rfl (lv_at hl 2 rfl) ?_
          obtain ⟨g10, h⟩ := ob_gd h
          obtain ⟨S11, eS11, h⟩ := ob_nm h
          refine x_iast C0 hP hS (fun S => lay_156 B ct S) g10 dX12_row_57 (fun H locs hP hS => ?_)
          rw [← eS11] at hP
          refine lv_aload_n hx hb dX12_row_58 rfl (lv_at hl 0 rfl) ?_
          refine x_get C0 hP (lay_X12 B ct S11) rfl inG12 26 (by decide) wd_1167 (fun _ h => h) rfl dX12_row_59 ?_
          refine lv_iload_n hx hb dX12_row_62 rfl (lv_at hl 1 rfl) ?_
          refine lv_iload_n hx hb dX12_row_63 rfl (lv_at hl 3 rfl) ?_
          obtain ⟨g12, h⟩ := ob_gd h
          obtain ⟨S13, eS13, h⟩ := ob_nm h
          refine x_iast C0 hP hS (fun S => lay_157 B ct S) g12 dX12_row_64 (fun H locs hP hS => ?_)
          rw [← eS13] at hP
          refine lv_iconst (v := 0) hx hb dX12_row_65 (by decide) ?_
          refine lv_istore (lv' := [(4, .int 0), (0, .ref (B + 136)), (1, .int v1), (2, .int v2), (3, .int v3)]) hx hb dX12_row_66 hl (by decide) rfl (fun ls hl => ?_)
          exact wl_X12_row_68 l C0 1000 v1 0 S13 h hP hS (lv_sub hl [1, 2, 0] rfl)
        · have h := ob_f h z7
          refine lv_bipush (v := (-14)) hx hb dX12_row_41 (by decide) ?_
          exact r_Iw C0 hP hS h dX12_row_43
      · have h := ob_f h z6
        refine lv_iconst (v := (-1)) hx hb dX12_row_35 (by decide) ?_
        exact r_Iw C0 hP hS h dX12_row_36
set_option maxRecDepth 100000 in
set_option maxHeartbeats 4000000 in
theorem c_X12_row (l : Launch) (a1 : Int32) (a2 : Int32) (a3 : Int32) {D : va_G} {ct : Nat → ClassId} {B : Nat} {Hb : Heap} {S : St} {V : Int32 × St} (h : L_X12_row a1 a2 a3 S = some V) : Met l yX12_row (Cond.code yX12_row cX12_row 5 (some .int) :: tG) { frames := 1, cells := 0, slots := 0, locals := 25 } (va_Pc [.ref (B + 136), .int a1, .int a2, .int a3] (MPK D ct B Hb S)) (qIw D ct B Hb V) 0 0 (AB B) := by
  refine mk_met (by decide +kernel) (Nat.le_of_ble_eq_true rfl) (fun p e s m args below meth c ls C0 hP hl _ => ?_)
  have h := ob_of h
  exact w_X12_row_0 l C0 a1 a2 a3 S h hP va_S.rf (lv_sub hl [0, 1, 2, 3] rfl)
set_option maxRecDepth 100000 in
set_option maxHeartbeats 4000000 in
theorem w_X12_put_0 (l : Launch) {V : Int32 × St} (C0 : XC D ct p s m args meth c cX12_put 5 (some .int) RX12) (v1 : Int32) (v2 : Int32) (v3 : Int32) (S : St) {H : Heap} {locs : List Loc} {ls : Array Slot} (h : (b_X12_put_0 v1 v2 v3 S).bind some = some V) (hP : MP D ct B Hb S H) (hS : va_S (AB B) s.heap H locs) (hl : lv_has ls 5 [(0, .ref (B + 136)), (1, .int v1), (2, .int v2), (3, .int v3)]) : W p l e { frames := 2, cells := 0, slots := 0, locals := 46 } s m args below meth c H locs 0 0 (MQ below (qIw D ct B Hb V) args s 0 0 (AB B)) (F0 m 0 ls []) := by
  obtain ⟨hx, hb, hr, hml, hown, hts, hK, hlocks, hN⟩ := id C0
  unfold b_X12_put_0 at h
  refine lv_aload_n hx hb dX12_put_0 rfl (lv_at hl 0 rfl) ?_
  refine lv_iconst (v := 0) hx hb dX12_put_1 (by decide) ?_
  obtain ⟨S1, eS1, h⟩ := ob_nm h
  refine x_put (S' := si S 136 28 0) (FS := (fs12 B)) C0 hP hS (fun S => lay_X12 B ct S) rfl inG12 tyX12 tyX12_ok nmX12 28 (by decide) wd_1169 rfl rfl (fun a ha => lay_local (gi_si_n _ _ _ ha) rfl rfl rfl) (put_12_28 B _ _) rfl rfl (Nat.le_of_ble_eq_true rfl) dX12_put_2 (fun H locs hP hS => ?_)
  rw [← eS1] at hP
  refine lv_aload_n hx hb dX12_put_5 rfl (lv_at hl 0 rfl) ?_
  refine lv_iload_n hx hb dX12_put_6 rfl (lv_at hl 1 rfl) ?_
  obtain ⟨r2, hr2, h⟩ := ob_bd h
  refine n_I (kV (As := [.int v1]) C0 (c_X12_wrongRow l v1 hr2) ⟨wd_1366, wd_1363, wd_1365, wp_22, wd_6⟩ kd_X12_wrongRow ⟨Nat.le_of_ble_eq_true rfl, Nat.le_of_ble_eq_true rfl⟩ hP (lay_X12 B ct S1) rfl rfl hl.1 rfl (Nat.le_of_ble_eq_true rfl) dX12_put_7 ⟨Nat.le_of_ble_eq_true rfl, Nat.le_of_ble_eq_true rfl⟩) hS (fun H locs hP hS => ?_)
  refine lv_istore (lv' := [(4, .int r2), (0, .ref (B + 136)), (1, .int v1), (2, .int v2), (3, .int v3)]) hx hb dX12_put_10 hl (by decide) rfl (fun ls hl => ?_)
  refine lv_iload hx hb dX12_put_12 (lv_at hl 0 rfl) ?_
  refine lv_if_ge (tgt := 20) hx hb dX12_put_14 (by decide) (fun z3 => ?_) (fun z3 => ?_)
  · have h := ob_t h z3
    refine lv_iload_n hx hb dX12_put_20 rfl (lv_at hl 3 rfl) ?_
    refine lv_i2l hx hb dX12_put_21 rfl ?_
    refine lv_lconst (v := 0) hx hb dX12_put_22 (by decide) ?_
    refine lv_aload_n hx hb dX12_put_23 rfl (lv_at hl 1 rfl) ?_
    refine x_get C0 hP (lay_X12 B ct S1) rfl inG12 26 (by decide) wd_1167 (fun _ h => h) rfl dX12_put_24 ?_
    refine lv_iload_n hx hb dX12_put_27 rfl (lv_at hl 2 rfl) ?_
    obtain ⟨g4, h⟩ := ob_gd h
    refine x_iald C0 hP ((fun S => lay_157 B ct S) S1) g4 dX12_put_28 ?_
    refine lv_iconst (v := 1) hx hb dX12_put_29 (by decide) ?_
    refine lv_isub hx hb dX12_put_30 ?_
    refine lv_i2l hx hb dX12_put_31 rfl ?_
    obtain ⟨r5, hr5, h⟩ := ob_bd h
    refine n_I (kS (As := [.long v2.toInt64, .long 0, .long (((gi S1 157 v1.toNatClampNeg) - 1).toInt64)]) C0 (c_X12_in l v2.toInt64 0 (((gi S1 157 v1.toNatClampNeg) - 1).toInt64) hr5) ⟨wd_1370, wd_1368, wd_1369, wd_6⟩ kd_X12_in ⟨Nat.le_of_ble_eq_true rfl, Nat.le_of_ble_eq_true rfl⟩ hP rfl hl.1 rfl (Nat.le_of_ble_eq_true rfl) dX12_put_32 ⟨Nat.le_of_ble_eq_true rfl, Nat.le_of_ble_eq_true rfl⟩) hS (fun H locs hP hS => ?_)
    refine lv_if_ne (tgt := 41) hx hb dX12_put_35 (by decide) (fun z6 => ?_) (fun z6 => ?_)
    · have h := ob_f h z6
      refine lv_aload_n hx hb dX12_put_41 rfl (lv_at hl 1 rfl) ?_
      refine x_get C0 hP (lay_X12 B ct S1) rfl inG12 27 (by decide) wd_1168 (fun _ h => h) rfl dX12_put_42 ?_
      refine lv_bipush (v := 100) hx hb dX12_put_45 (by decide) ?_
      refine lv_iload_n hx hb dX12_put_47 rfl (lv_at hl 2 rfl) ?_
      refine lv_imul hx hb dX12_put_48 ?_
      refine lv_iload_n hx hb dX12_put_49 rfl (lv_at hl 3 rfl) ?_
      refine lv_iadd hx hb dX12_put_50 ?_
      refine lv_iload_n hx hb dX12_put_51 rfl (lv_at hl 4 rfl) ?_
      refine lv_aload_n hx hb dX12_put_52 rfl (lv_at hl 1 rfl) ?_
      refine x_get C0 hP (lay_X12 B ct S1) rfl inG12 25 (by decide) wd_1166 (fun _ h => h) rfl dX12_put_53 ?_
      refine lv_iload_n hx hb dX12_put_56 rfl (lv_at hl 2 rfl) ?_
      obtain ⟨g7, h⟩ := ob_gd h
      refine x_iald C0 hP ((fun S => lay_156 B ct S) S1) g7 dX12_put_57 ?_
      obtain ⟨r8, hr8, h⟩ := ob_bd h
      refine n_L (kS (As := [.int v3, .int (gi S1 156 v1.toNatClampNeg)]) C0 (c_X12_narrowed l v3 (gi S1 156 v1.toNatClampNeg) hr8) ⟨wd_1778, wd_1776, wd_1777, wd_6⟩ kd_X12_narrowed ⟨Nat.le_of_ble_eq_true rfl, Nat.le_of_ble_eq_true rfl⟩ hP rfl hl.1 rfl (Nat.le_of_ble_eq_true rfl) dX12_put_58 ⟨Nat.le_of_ble_eq_true rfl, Nat.le_of_ble_eq_true rfl⟩) hS (fun H locs hP hS => ?_)
      obtain ⟨g9, h⟩ := ob_gd h
      obtain ⟨S10, eS10, h⟩ := ob_nm h
      refine x_last C0 hP hS (fun S => lay_158 B ct S) g9 dX12_put_61 (fun H locs hP hS => ?_)
      rw [← eS10] at hP
      refine lv_iconst (v := 0) hx hb dX12_put_62 (by decide) ?_
      exact r_Iw C0 hP hS h dX12_put_63
    · have h := ob_t h z6
      refine lv_bipush (v := (-13)) hx hb dX12_put_38 (by decide) ?_
      exact r_Iw C0 hP hS h dX12_put_40
  · have h := ob_f h z3
    refine lv_iload hx hb dX12_put_17 (lv_at hl 0 rfl) ?_
    exact r_Iw C0 hP hS h dX12_put_19
set_option maxRecDepth 100000 in
set_option maxHeartbeats 4000000 in
theorem c_X12_put (l : Launch) (a1 : Int32) (a2 : Int32) (a3 : Int32) {D : va_G} {ct : Nat → ClassId} {B : Nat} {Hb : Heap} {S : St} {V : Int32 × St} (h : L_X12_put a1 a2 a3 S = some V) : Met l yX12_put (Cond.code yX12_put cX12_put 5 (some .int) :: tG) { frames := 2, cells := 0, slots := 0, locals := 46 } (va_Pc [.ref (B + 136), .int a1, .int a2, .int a3] (MPK D ct B Hb S)) (qIw D ct B Hb V) 0 0 (AB B) := by
  refine mk_met (by decide +kernel) (Nat.le_of_ble_eq_true rfl) (fun p e s m args below meth c ls C0 hP hl _ => ?_)
  have h := ob_of h
  exact w_X12_put_0 l C0 a1 a2 a3 S h hP va_S.rf (lv_sub hl [0, 1, 2, 3] rfl)
set_option maxRecDepth 100000 in
set_option maxHeartbeats 4000000 in
theorem w_X12_element_43 (l : Launch) {V : Int64 × St} (C0 : XC D ct p s m args meth c cX12_element 4 (some .long) RX12) (v1 : Int32) (v2 : Int32) (s0 : Int32) (S : St) {H : Heap} {locs : List Loc} {ls : Array Slot} (h : (b_X12_element_43 v1 v2 s0 S).bind some = some V) (hP : MP D ct B Hb S H) (hS : va_S (AB B) s.heap H locs) (hl : lv_has ls 4 [(0, .ref (B + 136)), (1, .int v1), (2, .int v2)]) : W p l e { frames := 2, cells := 0, slots := 0, locals := 46 } s m args below meth c H locs 0 0 (MQ below (qLw D ct B Hb V) args s 0 0 (AB B)) (F0 m 43 ls [.int s0, .ref (B + 136)]) := by
  obtain ⟨hx, hb, hr, hml, hown, hts, hK, hlocks, hN⟩ := id C0
  unfold b_X12_element_43 at h
  obtain ⟨S1, eS1, h⟩ := ob_nm h
  refine x_put (S' := si S 136 28 s0) (FS := (fs12 B)) C0 hP hS (fun S => lay_X12 B ct S) rfl inG12 tyX12 tyX12_ok nmX12 28 (by decide) wd_1169 rfl rfl (fun a ha => lay_local (gi_si_n _ _ _ ha) rfl rfl rfl) (put_12_28 B _ _) rfl rfl (Nat.le_of_ble_eq_true rfl) dX12_element_43 (fun H locs hP hS => ?_)
  rw [← eS1] at hP
  refine lv_aload_n hx hb dX12_element_46 rfl (lv_at hl 0 rfl) ?_
  refine x_get C0 hP (lay_X12 B ct S1) rfl inG12 28 (by decide) wd_1169 (fun _ h => h) rfl dX12_element_47 ?_
  refine lv_if_le (tgt := 57) hx hb dX12_element_50 (by decide) (fun z2 => ?_) (fun z2 => ?_)
  · have h := ob_t h z2
    refine lv_aload_n hx hb dX12_element_57 rfl (lv_at hl 0 rfl) ?_
    refine x_get C0 hP (lay_X12 B ct S1) rfl inG12 27 (by decide) wd_1168 (fun _ h => h) rfl dX12_element_58 ?_
    refine lv_bipush (v := 100) hx hb dX12_element_61 (by decide) ?_
    refine lv_iload_n hx hb dX12_element_63 rfl (lv_at hl 1 rfl) ?_
    refine lv_imul hx hb dX12_element_64 ?_
    refine lv_iload_n hx hb dX12_element_65 rfl (lv_at hl 2 rfl) ?_
    refine lv_iadd hx hb dX12_element_66 ?_
    obtain ⟨g3, h⟩ := ob_gd h
    refine x_lald C0 hP ((fun S => lay_158 B ct S) S1) g3 dX12_element_67 ?_
    exact r_Lw C0 hP hS h dX12_element_68
  · have h := ob_f h z2
    refine lv_lconst (v := 0) hx hb dX12_element_53 (by decide) ?_
    refine lv_goto (tgt := 68) hx hb dX12_element_54 (by decide) ?_
    exact r_Lw C0 hP hS h dX12_element_68
set_option maxRecDepth 100000 in
set_option maxHeartbeats 4000000 in
theorem w_X12_element_38 (l : Launch) {V : Int64 × St} (C0 : XC D ct p s m args meth c cX12_element 4 (some .long) RX12) (v1 : Int32) (v2 : Int32) (S : St) {H : Heap} {locs : List Loc} {ls : Array Slot} (h : (b_X12_element_38 v1 v2 S).bind some = some V) (hP : MP D ct B Hb S H) (hS : va_S (AB B) s.heap H locs) (hl : lv_has ls 4 [(0, .ref (B + 136)), (1, .int v1), (2, .int v2)]) : W p l e { frames := 2, cells := 0, slots := 0, locals := 46 } s m args below meth c H locs 0 0 (MQ below (qLw D ct B Hb V) args s 0 0 (AB B)) (F0 m 38 ls [.ref (B + 136)]) := by
  obtain ⟨hx, hb, hr, hml, hown, hts, hK, hlocks, hN⟩ := id C0
  unfold b_X12_element_38 at h
  refine lv_iconst (v := 2) hx hb dX12_element_38 (by decide) ?_
  refine lv_goto (tgt := 43) hx hb dX12_element_39 (by decide) ?_
  exact w_X12_element_43 l C0 v1 v2 2 S h hP hS (lv_sub hl [0, 1, 2] rfl)
set_option maxRecDepth 100000 in
set_option maxHeartbeats 4000000 in
theorem w_X12_element_0 (l : Launch) {V : Int64 × St} (C0 : XC D ct p s m args meth c cX12_element 4 (some .long) RX12) (v1 : Int32) (v2 : Int32) (S : St) {H : Heap} {locs : List Loc} {ls : Array Slot} (h : (b_X12_element_0 v1 v2 S).bind some = some V) (hP : MP D ct B Hb S H) (hS : va_S (AB B) s.heap H locs) (hl : lv_has ls 4 [(0, .ref (B + 136)), (1, .int v1), (2, .int v2)]) : W p l e { frames := 2, cells := 0, slots := 0, locals := 46 } s m args below meth c H locs 0 0 (MQ below (qLw D ct B Hb V) args s 0 0 (AB B)) (F0 m 0 ls []) := by
  obtain ⟨hx, hb, hr, hml, hown, hts, hK, hlocks, hN⟩ := id C0
  unfold b_X12_element_0 at h
  refine lv_aload_n hx hb dX12_element_0 rfl (lv_at hl 0 rfl) ?_
  refine lv_iload_n hx hb dX12_element_1 rfl (lv_at hl 1 rfl) ?_
  obtain ⟨r1, hr1, h⟩ := ob_bd h
  refine n_I (kV (As := [.int v1]) C0 (c_X12_wrongRow l v1 hr1) ⟨wd_1366, wd_1363, wd_1365, wp_22, wd_6⟩ kd_X12_wrongRow ⟨Nat.le_of_ble_eq_true rfl, Nat.le_of_ble_eq_true rfl⟩ hP (lay_X12 B ct S) rfl rfl hl.1 rfl (Nat.le_of_ble_eq_true rfl) dX12_element_2 ⟨Nat.le_of_ble_eq_true rfl, Nat.le_of_ble_eq_true rfl⟩) hS (fun H locs hP hS => ?_)
  refine lv_istore_n (lv' := [(3, .int r1), (0, .ref (B + 136)), (1, .int v1), (2, .int v2)]) hx hb dX12_element_5 rfl hl (by decide) rfl (fun ls hl => ?_)
  refine lv_aload_n hx hb dX12_element_6 rfl (lv_at hl 1 rfl) ?_
  refine lv_iload_n hx hb dX12_element_7 rfl (lv_at hl 0 rfl) ?_
  refine lv_iconst (v := (-1)) hx hb dX12_element_8 (by decide) ?_
  refine lv_icmp_ne (tgt := 16) hx hb dX12_element_9 (by decide) (fun z2 => ?_) (fun z2 => ?_)
  · have h := ob_f h z2
    refine lv_iload_n hx hb dX12_element_16 rfl (lv_at hl 0 rfl) ?_
    refine lv_if_lt (tgt := 38) hx hb dX12_element_17 (by decide) (fun z3 => ?_) (fun z3 => ?_)
    · have h := ob_t h z3
      exact w_X12_element_38 l C0 v1 v2 S h hP hS (lv_sub hl [1, 2, 3] rfl)
    · have h := ob_f h z3
      refine lv_iload_n hx hb dX12_element_20 rfl (lv_at hl 3 rfl) ?_
      refine lv_i2l hx hb dX12_element_21 rfl ?_
      refine lv_lconst (v := 0) hx hb dX12_element_22 (by decide) ?_
      refine lv_aload_n hx hb dX12_element_23 rfl (lv_at hl 1 rfl) ?_
      refine x_get C0 hP (lay_X12 B ct S) rfl inG12 26 (by decide) wd_1167 (fun _ h => h) rfl dX12_element_24 ?_
      refine lv_iload_n hx hb dX12_element_27 rfl (lv_at hl 2 rfl) ?_
      obtain ⟨g4, h⟩ := ob_gd h
      refine x_iald C0 hP ((fun S => lay_157 B ct S) S) g4 dX12_element_28 ?_
      refine lv_iconst (v := 1) hx hb dX12_element_29 (by decide) ?_
      refine lv_isub hx hb dX12_element_30 ?_
      refine lv_i2l hx hb dX12_element_31 rfl ?_
      obtain ⟨r5, hr5, h⟩ := ob_bd h
      refine n_I (kS (As := [.long v2.toInt64, .long 0, .long (((gi S 157 v1.toNatClampNeg) - 1).toInt64)]) C0 (c_X12_in l v2.toInt64 0 (((gi S 157 v1.toNatClampNeg) - 1).toInt64) hr5) ⟨wd_1370, wd_1368, wd_1369, wd_6⟩ kd_X12_in ⟨Nat.le_of_ble_eq_true rfl, Nat.le_of_ble_eq_true rfl⟩ hP rfl hl.1 rfl (Nat.le_of_ble_eq_true rfl) dX12_element_32 ⟨Nat.le_of_ble_eq_true rfl, Nat.le_of_ble_eq_true rfl⟩) hS (fun H locs hP hS => ?_)
      refine lv_if_ne (tgt := 42) hx hb dX12_element_35 (by decide) (fun z6 => ?_) (fun z6 => ?_)
      · have h := ob_f h z6
        refine lv_iconst (v := 0) hx hb dX12_element_42 (by decide) ?_
        exact w_X12_element_43 l C0 v1 v2 0 S h hP hS (lv_sub hl [1, 2, 3] rfl)
      · have h := ob_t h z6
        exact w_X12_element_38 l C0 v1 v2 S h hP hS (lv_sub hl [1, 2, 3] rfl)
  · have h := ob_t h z2
    refine lv_iconst (v := 1) hx hb dX12_element_12 (by decide) ?_
    refine lv_goto (tgt := 43) hx hb dX12_element_13 (by decide) ?_
    exact w_X12_element_43 l C0 v1 v2 1 S h hP hS (lv_sub hl [1, 2, 3] rfl)
set_option maxRecDepth 100000 in
set_option maxHeartbeats 4000000 in
theorem c_X12_element (l : Launch) (a1 : Int32) (a2 : Int32) {D : va_G} {ct : Nat → ClassId} {B : Nat} {Hb : Heap} {S : St} {V : Int64 × St} (h : L_X12_element a1 a2 S = some V) : Met l yX12_element (Cond.code yX12_element cX12_element 4 (some .long) :: tG) { frames := 2, cells := 0, slots := 0, locals := 46 } (va_Pc [.ref (B + 136), .int a1, .int a2] (MPK D ct B Hb S)) (qLw D ct B Hb V) 0 0 (AB B) := by
  refine mk_met (by decide +kernel) (Nat.le_of_ble_eq_true rfl) (fun p e s m args below meth c ls C0 hP hl _ => ?_)
  have h := ob_of h
  exact w_X12_element_0 l C0 a1 a2 S h hP va_S.rf (lv_sub hl [0, 1, 2] rfl)
set_option maxRecDepth 100000 in
set_option maxHeartbeats 4000000 in
theorem w_X12_copy_174 (l : Launch) {V : Int32 × St} (C0 : XC D ct p s m args meth c cX12_copy 7 (some .int) RX12) (n0 : Nat) (ih0 : ∀ (v3 : Int32) (v4 : Int32) (v5 : Int32) (v6 : Int32) (S : St) (H : Heap) (locs : List Loc) (ls : Array Slot), (lp n0 (l_X12_copy_174) (v3, v4, v5, v6, S)).bind some = some V → MP D ct B Hb S H → va_S (AB B) s.heap H locs → lv_has ls 7 [(0, .ref (B + 136)), (3, .int v3), (4, .int v4), (5, .int v5), (6, .int v6)] → W p l e { frames := 1, cells := 0, slots := 0, locals := 25 } s m args below meth c H locs 0 0 (MQ below (qIw D ct B Hb V) args s 0 0 (AB B)) (F0 m 174 ls [])) (v3 : Int32) (v4 : Int32) (v5 : Int32) (v6 : Int32) (S : St) {H : Heap} {locs : List Loc} {ls : Array Slot} (h : (b_X12_copy_174 v3 v4 v5 v6 S).bind (lpF n0 (l_X12_copy_174) some) = some V) (hP : MP D ct B Hb S H) (hS : va_S (AB B) s.heap H locs) (hl : lv_has ls 7 [(0, .ref (B + 136)), (3, .int v3), (4, .int v4), (5, .int v5), (6, .int v6)]) : W p l e { frames := 1, cells := 0, slots := 0, locals := 25 } s m args below meth c H locs 0 0 (MQ below (qIw D ct B Hb V) args s 0 0 (AB B)) (F0 m 174 ls []) := by
  obtain ⟨hx, hb, hr, hml, hown, hts, hK, hlocks, hN⟩ := id C0
  unfold b_X12_copy_174 at h
  refine lv_iload hx hb dX12_copy_174 (lv_at hl 4 rfl) ?_
  refine lv_iload hx hb dX12_copy_176 (lv_at hl 3 rfl) ?_
  refine lv_icmp_ge (tgt := 209) hx hb dX12_copy_178 (by decide) (fun z1 => ?_) (fun z1 => ?_)
  · have h := ob_t h z1
    refine lv_iload hx hb dX12_copy_209 (lv_at hl 3 rfl) ?_
    exact r_Iw C0 hP hS h dX12_copy_211
  · have h := ob_f h z1
    refine lv_aload_n hx hb dX12_copy_181 rfl (lv_at hl 0 rfl) ?_
    refine x_get C0 hP (lay_X12 B ct S) rfl inG12 27 (by decide) wd_1168 (fun _ h => h) rfl dX12_copy_182 ?_
    refine lv_bipush (v := 100) hx hb dX12_copy_185 (by decide) ?_
    refine lv_iload_n hx hb dX12_copy_187 rfl (lv_at hl 1 rfl) ?_
    refine lv_imul hx hb dX12_copy_188 ?_
    refine lv_iload hx hb dX12_copy_189 (lv_at hl 2 rfl) ?_
    refine lv_iadd hx hb dX12_copy_191 ?_
    refine lv_iload hx hb dX12_copy_192 (lv_at hl 4 rfl) ?_
    refine lv_iadd hx hb dX12_copy_194 ?_
    refine lv_aload_n hx hb dX12_copy_195 rfl (lv_at hl 0 rfl) ?_
    refine x_get C0 hP (lay_X12 B ct S) rfl inG12 64 (by decide) wd_1205 (fun _ h => h) rfl dX12_copy_196 ?_
    refine lv_iload hx hb dX12_copy_199 (lv_at hl 4 rfl) ?_
    obtain ⟨g2, h⟩ := ob_gd h
    refine x_lald C0 hP ((fun S => lay_181 B ct S) S) g2 dX12_copy_201 ?_
    obtain ⟨g3, h⟩ := ob_gd h
    obtain ⟨S4, eS4, h⟩ := ob_nm h
    refine x_last C0 hP hS (fun S => lay_158 B ct S) g3 dX12_copy_202 (fun H locs hP hS => ?_)
    rw [← eS4] at hP
    refine lv_iinc (v := v6 + 1) (lv' := [(6, .int (v6 + 1)), (0, .ref (B + 136)), (3, .int v3), (4, .int v4), (5, .int v5)]) hx hb dX12_copy_203 hl (k := 4) rfl rfl (by decide) rfl (fun ls hl => ?_)
    refine lv_goto (tgt := 174) hx hb dX12_copy_206 (by decide) ?_
    exact ih0 v3 v4 v5 (v6 + 1) S4 _ _ _ h hP hS (lv_sub hl [1, 2, 3, 4, 0] rfl)
set_option maxRecDepth 100000 in
set_option maxHeartbeats 4000000 in
theorem wl_X12_copy_174 (l : Launch) {V : Int32 × St} (C0 : XC D ct p s m args meth c cX12_copy 7 (some .int) RX12)  : ∀ (n0 : Nat) (v3 : Int32) (v4 : Int32) (v5 : Int32) (v6 : Int32) (S : St) {H : Heap} {locs : List Loc} {ls : Array Slot}, (lp n0 (l_X12_copy_174) (v3, v4, v5, v6, S)).bind some = some V → MP D ct B Hb S H → va_S (AB B) s.heap H locs → lv_has ls 7 [(0, .ref (B + 136)), (3, .int v3), (4, .int v4), (5, .int v5), (6, .int v6)] → W p l e { frames := 1, cells := 0, slots := 0, locals := 25 } s m args below meth c H locs 0 0 (MQ below (qIw D ct B Hb V) args s 0 0 (AB B)) (F0 m 174 ls []) := by
  intro n0
  induction n0 with
  | zero =>
    intro v3 v4 v5 v6 S H locs ls h hP hS hl
    exact (lp_0 h).elim
  | succ n0 ih0 =>
    intro v3 v4 v5 v6 S H locs ls h hP hS hl
    have h := lp_s h
    exact w_X12_copy_174 l C0 n0 (fun v3 v4 v5 v6 S H locs ls h hP hS hl => ih0 v3 v4 v5 v6 S h hP hS hl) v3 v4 v5 v6 S h hP hS hl
set_option maxRecDepth 100000 in
set_option maxHeartbeats 4000000 in
theorem w_X12_copy_171 (l : Launch) {V : Int32 × St} (C0 : XC D ct p s m args meth c cX12_copy 7 (some .int) RX12) (v3 : Int32) (v4 : Int32) (v5 : Int32) (S : St) {H : Heap} {locs : List Loc} {ls : Array Slot} (h : (b_X12_copy_171 v3 v4 v5 S).bind some = some V) (hP : MP D ct B Hb S H) (hS : va_S (AB B) s.heap H locs) (hl : lv_has ls 7 [(0, .ref (B + 136)), (3, .int v3), (4, .int v4), (5, .int v5)]) : W p l e { frames := 1, cells := 0, slots := 0, locals := 25 } s m args below meth c H locs 0 0 (MQ below (qIw D ct B Hb V) args s 0 0 (AB B)) (F0 m 171 ls []) := by
  obtain ⟨hx, hb, hr, hml, hown, hts, hK, hlocks, hN⟩ := id C0
  unfold b_X12_copy_171 at h
  refine lv_iconst (v := 0) hx hb dX12_copy_171 (by decide) ?_
  refine lv_istore (lv' := [(6, .int 0), (0, .ref (B + 136)), (3, .int v3), (4, .int v4), (5, .int v5)]) hx hb dX12_copy_172 hl (by decide) rfl (fun ls hl => ?_)
  exact wl_X12_copy_174 l C0 1000 v3 v4 v5 0 S h hP hS (lv_sub hl [1, 2, 3, 4, 0] rfl)
set_option maxRecDepth 100000 in
set_option maxHeartbeats 4000000 in
theorem w_X12_copy_137 (l : Launch) {V : Int32 × St} (C0 : XC D ct p s m args meth c cX12_copy 7 (some .int) RX12) (n0 : Nat) (ih0 : ∀ (v1 : Int32) (v2 : Int32) (v3 : Int32) (v4 : Int32) (v5 : Int32) (v6 : Int32) (S : St) (H : Heap) (locs : List Loc) (ls : Array Slot), (lp n0 (l_X12_copy_137) (v1, v2, v3, v4, v5, v6, S)).bind some = some V → MP D ct B Hb S H → va_S (AB B) s.heap H locs → lv_has ls 7 [(0, .ref (B + 136)), (1, .int v1), (2, .int v2), (3, .int v3), (4, .int v4), (5, .int v5), (6, .int v6)] → W p l e { frames := 1, cells := 0, slots := 0, locals := 25 } s m args below meth c H locs 0 0 (MQ below (qIw D ct B Hb V) args s 0 0 (AB B)) (F0 m 137 ls [])) (v1 : Int32) (v2 : Int32) (v3 : Int32) (v4 : Int32) (v5 : Int32) (v6 : Int32) (S : St) {H : Heap} {locs : List Loc} {ls : Array Slot} (h : (b_X12_copy_137 v1 v2 v3 v4 v5 v6 S).bind (lpF n0 (l_X12_copy_137) some) = some V) (hP : MP D ct B Hb S H) (hS : va_S (AB B) s.heap H locs) (hl : lv_has ls 7 [(0, .ref (B + 136)), (1, .int v1), (2, .int v2), (3, .int v3), (4, .int v4), (5, .int v5), (6, .int v6)]) : W p l e { frames := 1, cells := 0, slots := 0, locals := 25 } s m args below meth c H locs 0 0 (MQ below (qIw D ct B Hb V) args s 0 0 (AB B)) (F0 m 137 ls []) := by
  obtain ⟨hx, hb, hr, hml, hown, hts, hK, hlocks, hN⟩ := id C0
  unfold b_X12_copy_137 at h
  refine lv_iload hx hb dX12_copy_137 (lv_at hl 6 rfl) ?_
  refine lv_iload hx hb dX12_copy_139 (lv_at hl 5 rfl) ?_
  refine lv_icmp_ge (tgt := 171) hx hb dX12_copy_141 (by decide) (fun z1 => ?_) (fun z1 => ?_)
  · have h := ob_t h z1
    have h := ob_mp h
    exact w_X12_copy_171 l C0 v3 v4 v5 S h hP hS (lv_sub hl [0, 3, 4, 5] rfl)
  · have h := ob_f h z1
    refine lv_aload_n hx hb dX12_copy_144 rfl (lv_at hl 0 rfl) ?_
    refine x_get C0 hP (lay_X12 B ct S) rfl inG12 64 (by decide) wd_1205 (fun _ h => h) rfl dX12_copy_145 ?_
    refine lv_iload hx hb dX12_copy_148 (lv_at hl 6 rfl) ?_
    refine lv_aload_n hx hb dX12_copy_150 rfl (lv_at hl 0 rfl) ?_
    refine x_get C0 hP (lay_X12 B ct S) rfl inG12 27 (by decide) wd_1168 (fun _ h => h) rfl dX12_copy_151 ?_
    refine lv_bipush (v := 100) hx hb dX12_copy_154 (by decide) ?_
    refine lv_iload_n hx hb dX12_copy_156 rfl (lv_at hl 1 rfl) ?_
    refine lv_imul hx hb dX12_copy_157 ?_
    refine lv_iload_n hx hb dX12_copy_158 rfl (lv_at hl 2 rfl) ?_
    refine lv_iadd hx hb dX12_copy_159 ?_
    refine lv_iload hx hb dX12_copy_160 (lv_at hl 6 rfl) ?_
    refine lv_iadd hx hb dX12_copy_162 ?_
    obtain ⟨g2, h⟩ := ob_gd h
    refine x_lald C0 hP ((fun S => lay_158 B ct S) S) g2 dX12_copy_163 ?_
    obtain ⟨g3, h⟩ := ob_gd h
    obtain ⟨S4, eS4, h⟩ := ob_nm h
    refine x_last C0 hP hS (fun S => lay_181 B ct S) g3 dX12_copy_164 (fun H locs hP hS => ?_)
    rw [← eS4] at hP
    refine lv_iinc (v := v6 + 1) (lv' := [(6, .int (v6 + 1)), (0, .ref (B + 136)), (1, .int v1), (2, .int v2), (3, .int v3), (4, .int v4), (5, .int v5)]) hx hb dX12_copy_165 hl (k := 6) rfl rfl (by decide) rfl (fun ls hl => ?_)
    refine lv_goto (tgt := 137) hx hb dX12_copy_168 (by decide) ?_
    exact ih0 v1 v2 v3 v4 v5 (v6 + 1) S4 _ _ _ h hP hS (lv_sub hl [1, 2, 3, 4, 5, 6, 0] rfl)
set_option maxRecDepth 100000 in
set_option maxHeartbeats 4000000 in
theorem wl_X12_copy_137 (l : Launch) {V : Int32 × St} (C0 : XC D ct p s m args meth c cX12_copy 7 (some .int) RX12)  : ∀ (n0 : Nat) (v1 : Int32) (v2 : Int32) (v3 : Int32) (v4 : Int32) (v5 : Int32) (v6 : Int32) (S : St) {H : Heap} {locs : List Loc} {ls : Array Slot}, (lp n0 (l_X12_copy_137) (v1, v2, v3, v4, v5, v6, S)).bind some = some V → MP D ct B Hb S H → va_S (AB B) s.heap H locs → lv_has ls 7 [(0, .ref (B + 136)), (1, .int v1), (2, .int v2), (3, .int v3), (4, .int v4), (5, .int v5), (6, .int v6)] → W p l e { frames := 1, cells := 0, slots := 0, locals := 25 } s m args below meth c H locs 0 0 (MQ below (qIw D ct B Hb V) args s 0 0 (AB B)) (F0 m 137 ls []) := by
  intro n0
  induction n0 with
  | zero =>
    intro v1 v2 v3 v4 v5 v6 S H locs ls h hP hS hl
    exact (lp_0 h).elim
  | succ n0 ih0 =>
    intro v1 v2 v3 v4 v5 v6 S H locs ls h hP hS hl
    have h := lp_s h
    exact w_X12_copy_137 l C0 n0 (fun v1 v2 v3 v4 v5 v6 S H locs ls h hP hS hl => ih0 v1 v2 v3 v4 v5 v6 S h hP hS hl) v1 v2 v3 v4 v5 v6 S h hP hS hl
set_option maxRecDepth 100000 in
set_option maxHeartbeats 4000000 in
theorem w_X12_copy_0 (l : Launch) {V : Int32 × St} (C0 : XC D ct p s m args meth c cX12_copy 7 (some .int) RX12) (v1 : Int32) (v2 : Int32) (v3 : Int32) (v4 : Int32) (v5 : Int32) (S : St) {H : Heap} {locs : List Loc} {ls : Array Slot} (h : (b_X12_copy_0 v1 v2 v3 v4 v5 S).bind some = some V) (hP : MP D ct B Hb S H) (hS : va_S (AB B) s.heap H locs) (hl : lv_has ls 7 [(0, .ref (B + 136)), (1, .int v1), (2, .int v2), (3, .int v3), (4, .int v4), (5, .int v5)]) : W p l e { frames := 1, cells := 0, slots := 0, locals := 25 } s m args below meth c H locs 0 0 (MQ below (qIw D ct B Hb V) args s 0 0 (AB B)) (F0 m 0 ls []) := by
  obtain ⟨hx, hb, hr, hml, hown, hts, hK, hlocks, hN⟩ := id C0
  unfold b_X12_copy_0 at h
  refine lv_aload_n hx hb dX12_copy_0 rfl (lv_at hl 0 rfl) ?_
  refine lv_iconst (v := 0) hx hb dX12_copy_1 (by decide) ?_
  obtain ⟨S1, eS1, h⟩ := ob_nm h
  refine x_put (S' := si S 136 28 0) (FS := (fs12 B)) C0 hP hS (fun S => lay_X12 B ct S) rfl inG12 tyX12 tyX12_ok nmX12 28 (by decide) wd_1169 rfl rfl (fun a ha => lay_local (gi_si_n _ _ _ ha) rfl rfl rfl) (put_12_28 B _ _) rfl rfl (Nat.le_of_ble_eq_true rfl) dX12_copy_2 (fun H locs hP hS => ?_)
  rw [← eS1] at hP
  refine lv_iload_n hx hb dX12_copy_5 rfl (lv_at hl 1 rfl) ?_
  refine lv_i2l hx hb dX12_copy_6 rfl ?_
  refine lv_lconst (v := 0) hx hb dX12_copy_7 (by decide) ?_
  refine lv_ldc2 (v := 7) hx hb hown (hts _ wd_1367) dX12_copy_8 ?_
  obtain ⟨r2, hr2, h⟩ := ob_bd h
  refine n_I (kS (As := [.long v1.toInt64, .long 0, .long 7]) C0 (c_X12_in l v1.toInt64 0 7 hr2) ⟨wd_1370, wd_1368, wd_1369, wd_6⟩ kd_X12_in ⟨Nat.le_of_ble_eq_true rfl, Nat.le_of_ble_eq_true rfl⟩ hP rfl hl.1 rfl (Nat.le_of_ble_eq_true rfl) dX12_copy_11 ⟨Nat.le_of_ble_eq_true rfl, Nat.le_of_ble_eq_true rfl⟩) hS (fun H locs hP hS => ?_)
  refine lv_if_eq (tgt := 29) hx hb dX12_copy_14 (by decide) (fun z3 => ?_) (fun z3 => ?_)
  · have h := ob_t h z3
    refine lv_iconst (v := (-1)) hx hb dX12_copy_29 (by decide) ?_
    exact r_Iw C0 hP hS h dX12_copy_30
  · have h := ob_f h z3
    refine lv_iload_n hx hb dX12_copy_17 rfl (lv_at hl 3 rfl) ?_
    refine lv_i2l hx hb dX12_copy_18 rfl ?_
    refine lv_lconst (v := 0) hx hb dX12_copy_19 (by decide) ?_
    refine lv_ldc2 (v := 7) hx hb hown (hts _ wd_1367) dX12_copy_20 ?_
    obtain ⟨r4, hr4, h⟩ := ob_bd h
    refine n_I (kS (As := [.long v3.toInt64, .long 0, .long 7]) C0 (c_X12_in l v3.toInt64 0 7 hr4) ⟨wd_1370, wd_1368, wd_1369, wd_6⟩ kd_X12_in ⟨Nat.le_of_ble_eq_true rfl, Nat.le_of_ble_eq_true rfl⟩ hP rfl hl.1 rfl (Nat.le_of_ble_eq_true rfl) dX12_copy_23 ⟨Nat.le_of_ble_eq_true rfl, Nat.le_of_ble_eq_true rfl⟩) hS (fun H locs hP hS => ?_)
    refine lv_if_ne (tgt := 31) hx hb dX12_copy_26 (by decide) (fun z5 => ?_) (fun z5 => ?_)
    · have h := ob_f h z5
      refine lv_aload_n hx hb dX12_copy_31 rfl (lv_at hl 0 rfl) ?_
      refine x_get C0 hP (lay_X12 B ct S1) rfl inG12 22 (by decide) wd_1163 (fun _ h => h) rfl dX12_copy_32 ?_
      refine lv_iload_n hx hb dX12_copy_35 rfl (lv_at hl 1 rfl) ?_
      obtain ⟨g6, h⟩ := ob_gd h
      refine x_iald C0 hP ((fun S => lay_153 B ct S) S1) g6 dX12_copy_36 ?_
      refine lv_if_eq (tgt := 49) hx hb dX12_copy_37 (by decide) (fun z7 => ?_) (fun z7 => ?_)
      · have h := ob_t h z7
        refine lv_bipush (v := (-11)) hx hb dX12_copy_49 (by decide) ?_
        exact r_Iw C0 hP hS h dX12_copy_51
      · have h := ob_f h z7
        refine lv_aload_n hx hb dX12_copy_40 rfl (lv_at hl 0 rfl) ?_
        refine x_get C0 hP (lay_X12 B ct S1) rfl inG12 22 (by decide) wd_1163 (fun _ h => h) rfl dX12_copy_41 ?_
        refine lv_iload_n hx hb dX12_copy_44 rfl (lv_at hl 3 rfl) ?_
        obtain ⟨g8, h⟩ := ob_gd h
        refine x_iald C0 hP ((fun S => lay_153 B ct S) S1) g8 dX12_copy_45 ?_
        refine lv_if_ne (tgt := 52) hx hb dX12_copy_46 (by decide) (fun z9 => ?_) (fun z9 => ?_)
        · have h := ob_f h z9
          refine lv_aload_n hx hb dX12_copy_52 rfl (lv_at hl 0 rfl) ?_
          refine x_get C0 hP (lay_X12 B ct S1) rfl inG12 22 (by decide) wd_1163 (fun _ h => h) rfl dX12_copy_53 ?_
          refine lv_iload_n hx hb dX12_copy_56 rfl (lv_at hl 1 rfl) ?_
          obtain ⟨g10, h⟩ := ob_gd h
          refine x_iald C0 hP ((fun S => lay_153 B ct S) S1) g10 dX12_copy_57 ?_
          refine lv_iconst (v := 2) hx hb dX12_copy_58 (by decide) ?_
          refine lv_icmp_ne (tgt := 87) hx hb dX12_copy_59 (by decide) (fun z11 => ?_) (fun z11 => ?_)
          · have h := ob_f h z11
            refine lv_bipush (v := (-12)) hx hb dX12_copy_87 (by decide) ?_
            exact r_Iw C0 hP hS h dX12_copy_89
          · have h := ob_t h z11
            refine lv_aload_n hx hb dX12_copy_62 rfl (lv_at hl 0 rfl) ?_
            refine x_get C0 hP (lay_X12 B ct S1) rfl inG12 22 (by decide) wd_1163 (fun _ h => h) rfl dX12_copy_63 ?_
            refine lv_iload_n hx hb dX12_copy_66 rfl (lv_at hl 3 rfl) ?_
            obtain ⟨g12, h⟩ := ob_gd h
            refine x_iald C0 hP ((fun S => lay_153 B ct S) S1) g12 dX12_copy_67 ?_
            refine lv_iconst (v := 2) hx hb dX12_copy_68 (by decide) ?_
            refine lv_icmp_ne (tgt := 87) hx hb dX12_copy_69 (by decide) (fun z13 => ?_) (fun z13 => ?_)
            · have h := ob_f h z13
              refine lv_bipush (v := (-12)) hx hb dX12_copy_87 (by decide) ?_
              exact r_Iw C0 hP hS h dX12_copy_89
            · have h := ob_t h z13
              refine lv_aload_n hx hb dX12_copy_72 rfl (lv_at hl 0 rfl) ?_
              refine x_get C0 hP (lay_X12 B ct S1) rfl inG12 25 (by decide) wd_1166 (fun _ h => h) rfl dX12_copy_73 ?_
              refine lv_iload_n hx hb dX12_copy_76 rfl (lv_at hl 1 rfl) ?_
              obtain ⟨g14, h⟩ := ob_gd h
              refine x_iald C0 hP ((fun S => lay_156 B ct S) S1) g14 dX12_copy_77 ?_
              refine lv_aload_n hx hb dX12_copy_78 rfl (lv_at hl 0 rfl) ?_
              refine x_get C0 hP (lay_X12 B ct S1) rfl inG12 25 (by decide) wd_1166 (fun _ h => h) rfl dX12_copy_79 ?_
              refine lv_iload_n hx hb dX12_copy_82 rfl (lv_at hl 3 rfl) ?_
              obtain ⟨g15, h⟩ := ob_gd h
              refine x_iald C0 hP ((fun S => lay_156 B ct S) S1) g15 dX12_copy_83 ?_
              refine lv_icmp_eq (tgt := 90) hx hb dX12_copy_84 (by decide) (fun z16 => ?_) (fun z16 => ?_)
              · have h := ob_t h z16
                refine lv_iload hx hb dX12_copy_90 (lv_at hl 5 rfl) ?_
                refine lv_if_lt (tgt := 131) hx hb dX12_copy_92 (by decide) (fun z17 => ?_) (fun z17 => ?_)
                · have h := ob_t h z17
                  refine lv_bipush (v := (-13)) hx hb dX12_copy_131 (by decide) ?_
                  exact r_Iw C0 hP hS h dX12_copy_133
                · have h := ob_f h z17
                  refine lv_iload_n hx hb dX12_copy_95 rfl (lv_at hl 2 rfl) ?_
                  refine lv_if_lt (tgt := 131) hx hb dX12_copy_96 (by decide) (fun z18 => ?_) (fun z18 => ?_)
                  · have h := ob_t h z18
                    refine lv_bipush (v := (-13)) hx hb dX12_copy_131 (by decide) ?_
                    exact r_Iw C0 hP hS h dX12_copy_133
                  · have h := ob_f h z18
                    refine lv_iload hx hb dX12_copy_99 (lv_at hl 4 rfl) ?_
                    refine lv_if_lt (tgt := 131) hx hb dX12_copy_101 (by decide) (fun z19 => ?_) (fun z19 => ?_)
                    · have h := ob_t h z19
                      refine lv_bipush (v := (-13)) hx hb dX12_copy_131 (by decide) ?_
                      exact r_Iw C0 hP hS h dX12_copy_133
                    · have h := ob_f h z19
                      refine lv_iload_n hx hb dX12_copy_104 rfl (lv_at hl 2 rfl) ?_
                      refine lv_aload_n hx hb dX12_copy_105 rfl (lv_at hl 0 rfl) ?_
                      refine x_get C0 hP (lay_X12 B ct S1) rfl inG12 26 (by decide) wd_1167 (fun _ h => h) rfl dX12_copy_106 ?_
                      refine lv_iload_n hx hb dX12_copy_109 rfl (lv_at hl 1 rfl) ?_
                      obtain ⟨g20, h⟩ := ob_gd h
                      refine x_iald C0 hP ((fun S => lay_157 B ct S) S1) g20 dX12_copy_110 ?_
                      refine lv_iload hx hb dX12_copy_111 (lv_at hl 5 rfl) ?_
                      refine lv_isub hx hb dX12_copy_113 ?_
                      refine lv_icmp_gt (tgt := 131) hx hb dX12_copy_114 (by decide) (fun z21 => ?_) (fun z21 => ?_)
                      · have h := ob_t h z21
                        refine lv_bipush (v := (-13)) hx hb dX12_copy_131 (by decide) ?_
                        exact r_Iw C0 hP hS h dX12_copy_133
                      · have h := ob_f h z21
                        refine lv_iload hx hb dX12_copy_117 (lv_at hl 4 rfl) ?_
                        refine lv_aload_n hx hb dX12_copy_119 rfl (lv_at hl 0 rfl) ?_
                        refine x_get C0 hP (lay_X12 B ct S1) rfl inG12 26 (by decide) wd_1167 (fun _ h => h) rfl dX12_copy_120 ?_
                        refine lv_iload_n hx hb dX12_copy_123 rfl (lv_at hl 3 rfl) ?_
                        obtain ⟨g22, h⟩ := ob_gd h
                        refine x_iald C0 hP ((fun S => lay_157 B ct S) S1) g22 dX12_copy_124 ?_
                        refine lv_iload hx hb dX12_copy_125 (lv_at hl 5 rfl) ?_
                        refine lv_isub hx hb dX12_copy_127 ?_
                        refine lv_icmp_le (tgt := 134) hx hb dX12_copy_128 (by decide) (fun z23 => ?_) (fun z23 => ?_)
                        · have h := ob_t h z23
                          refine lv_iconst (v := 0) hx hb dX12_copy_134 (by decide) ?_
                          refine lv_istore (lv' := [(6, .int 0), (0, .ref (B + 136)), (1, .int v1), (2, .int v2), (3, .int v3), (4, .int v4), (5, .int v5)]) hx hb dX12_copy_135 hl (by decide) rfl (fun ls hl => ?_)
                          exact wl_X12_copy_137 l C0 1000 v1 v2 v3 v4 v5 0 S1 h hP hS (lv_sub hl [1, 2, 3, 4, 5, 6, 0] rfl)
                        · have h := ob_f h z23
                          refine lv_bipush (v := (-13)) hx hb dX12_copy_131 (by decide) ?_
                          exact r_Iw C0 hP hS h dX12_copy_133
              · have h := ob_f h z16
                refine lv_bipush (v := (-12)) hx hb dX12_copy_87 (by decide) ?_
                exact r_Iw C0 hP hS h dX12_copy_89
        · have h := ob_t h z9
          refine lv_bipush (v := (-11)) hx hb dX12_copy_49 (by decide) ?_
          exact r_Iw C0 hP hS h dX12_copy_51
    · have h := ob_t h z5
      refine lv_iconst (v := (-1)) hx hb dX12_copy_29 (by decide) ?_
      exact r_Iw C0 hP hS h dX12_copy_30
set_option maxRecDepth 100000 in
set_option maxHeartbeats 4000000 in
theorem c_X12_copy (l : Launch) (a1 : Int32) (a2 : Int32) (a3 : Int32) (a4 : Int32) (a5 : Int32) {D : va_G} {ct : Nat → ClassId} {B : Nat} {Hb : Heap} {S : St} {V : Int32 × St} (h : L_X12_copy a1 a2 a3 a4 a5 S = some V) : Met l yX12_copy (Cond.code yX12_copy cX12_copy 7 (some .int) :: tG) { frames := 1, cells := 0, slots := 0, locals := 25 } (va_Pc [.ref (B + 136), .int a1, .int a2, .int a3, .int a4, .int a5] (MPK D ct B Hb S)) (qIw D ct B Hb V) 0 0 (AB B) := by
  refine mk_met (by decide +kernel) (Nat.le_of_ble_eq_true rfl) (fun p e s m args below meth c ls C0 hP hl _ => ?_)
  have h := ob_of h
  exact w_X12_copy_0 l C0 a1 a2 a3 a4 a5 S h hP va_S.rf (lv_sub hl [0, 1, 2, 3, 4, 5] rfl)
set_option maxRecDepth 100000 in
set_option maxHeartbeats 4000000 in
theorem w_X12_costOf_0 (l : Launch) {V : Int32} (C0 : XC D ct p s m args meth c cX12_costOf 2 (some .int) RX12) (v0 : Int32) (v1 : Int32) (S : St) {H : Heap} {locs : List Loc} {ls : Array Slot} (h : (b_X12_costOf_0 v0 v1 S).bind some = some V) (hP : MP D ct B Hb S H) (hS : va_S (AB B) s.heap H locs) (hl : lv_has ls 2 [(0, .int v0), (1, .int v1)]) : W p l e { frames := 0, cells := 0, slots := 0, locals := 0 } s m args below meth c H locs 0 0 (MQ below (qI D ct B Hb S V) args s 0 0 (AB B)) (F0 m 0 ls []) := by
  obtain ⟨hx, hb, hr, hml, hown, hts, hK, hlocks, hN⟩ := id C0
  unfold b_X12_costOf_0 at h
  refine lv_iload_n hx hb dX12_costOf_0 rfl (lv_at hl 0 rfl) ?_
  rcases Decidable.em ((v0 : Int32) = 0) with z1 | z1
  · have h := ob_t h z1
    refine lv_tableIn (x := v0) (off := 43) (tgt := 44) hx hb dX12_costOf_1 (by rw [z1]; decide) (by rw [z1]; decide) (by rw [z1]; decide) (by decide) ?_
    refine lv_bipush (v := 6) hx hb dX12_costOf_44 (by decide) ?_
    exact r_I C0 hP hS h dX12_costOf_46
  · have h := ob_f h z1
    rcases Decidable.em ((v0 : Int32) = 1) with z2 | z2
    · have h := ob_t h z2
      refine lv_tableIn (x := v0) (off := 46) (tgt := 47) hx hb dX12_costOf_1 (by rw [z2]; decide) (by rw [z2]; decide) (by rw [z2]; decide) (by decide) ?_
      refine lv_bipush (v := 18) hx hb dX12_costOf_47 (by decide) ?_
      exact r_I C0 hP hS h dX12_costOf_49
    · have h := ob_f h z2
      rcases Decidable.em ((v0 : Int32) = 2) with z3 | z3
      · have h := ob_t h z3
        refine lv_tableIn (x := v0) (off := 49) (tgt := 50) hx hb dX12_costOf_1 (by rw [z3]; decide) (by rw [z3]; decide) (by rw [z3]; decide) (by decide) ?_
        refine lv_bipush (v := 6) hx hb dX12_costOf_50 (by decide) ?_
        refine lv_iload_n hx hb dX12_costOf_52 rfl (lv_at hl 1 rfl) ?_
        refine lv_iadd hx hb dX12_costOf_53 ?_
        exact r_I C0 hP hS h dX12_costOf_54
      · have h := ob_f h z3
        rcases Decidable.em ((v0 : Int32) = 3) with z4 | z4
        · have h := ob_t h z4
          refine lv_tableIn (x := v0) (off := 54) (tgt := 55) hx hb dX12_costOf_1 (by rw [z4]; decide) (by rw [z4]; decide) (by rw [z4]; decide) (by decide) ?_
          refine lv_iconst (v := 2) hx hb dX12_costOf_55 (by decide) ?_
          refine lv_bipush (v := 6) hx hb dX12_costOf_56 (by decide) ?_
          refine lv_iload_n hx hb dX12_costOf_58 rfl (lv_at hl 1 rfl) ?_
          refine lv_iadd hx hb dX12_costOf_59 ?_
          refine lv_imul hx hb dX12_costOf_60 ?_
          exact r_I C0 hP hS h dX12_costOf_61
        · have h := ob_f h z4
          rcases Decidable.em ((v0 : Int32) = 4) with z5 | z5
          · have h := ob_t h z5
            refine lv_tableIn (x := v0) (off := 61) (tgt := 62) hx hb dX12_costOf_1 (by rw [z5]; decide) (by rw [z5]; decide) (by rw [z5]; decide) (by decide) ?_
            refine lv_bipush (v := 15) hx hb dX12_costOf_62 (by decide) ?_
            exact r_I C0 hP hS h dX12_costOf_64
          · have h := ob_f h z5
            rcases Decidable.em ((v0 : Int32) = 5) with z6 | z6
            · have h := ob_t h z6
              refine lv_tableIn (x := v0) (off := 64) (tgt := 65) hx hb dX12_costOf_1 (by rw [z6]; decide) (by rw [z6]; decide) (by rw [z6]; decide) (by decide) ?_
              refine lv_bipush (v := 15) hx hb dX12_costOf_65 (by decide) ?_
              refine lv_iload_n hx hb dX12_costOf_67 rfl (lv_at hl 1 rfl) ?_
              refine lv_iadd hx hb dX12_costOf_68 ?_
              exact r_I C0 hP hS h dX12_costOf_69
            · have h := ob_f h z6
              rcases Decidable.em ((v0 : Int32) = 6) with z7 | z7
              · have h := ob_t h z7
                refine lv_tableIn (x := v0) (off := 69) (tgt := 70) hx hb dX12_costOf_1 (by rw [z7]; decide) (by rw [z7]; decide) (by rw [z7]; decide) (by decide) ?_
                refine lv_iconst (v := 3) hx hb dX12_costOf_70 (by decide) ?_
                exact r_I C0 hP hS h dX12_costOf_71
              · have h := ob_f h z7
                refine lv_tableOut (x := v0) (tgt := 72) hx hb dX12_costOf_1 (sw_0_7 z1 z2 z3 z4 z5 z6 z7) (by decide) ?_
                refine lv_iconst (v := 2) hx hb dX12_costOf_72 (by decide) ?_
                exact r_I C0 hP hS h dX12_costOf_73
set_option maxRecDepth 100000 in
set_option maxHeartbeats 4000000 in
theorem c_X12_costOf (l : Launch) (a0 : Int32) (a1 : Int32) {D : va_G} {ct : Nat → ClassId} {B : Nat} {Hb : Heap} {S : St} {V : Int32} (h : L_X12_costOf a0 a1 S = some V) : Met l yX12_costOf (Cond.code yX12_costOf cX12_costOf 2 (some .int) :: tG) { frames := 0, cells := 0, slots := 0, locals := 0 } (va_Pc [.int a0, .int a1] (MPK D ct B Hb S)) (qI D ct B Hb S V) 0 0 (AB B) := by
  refine mk_met (by decide +kernel) (Nat.le_of_ble_eq_true rfl) (fun p e s m args below meth c ls C0 hP hl _ => ?_)
  have h := ob_of h
  exact w_X12_costOf_0 l C0 a0 a1 S h hP va_S.rf (lv_sub hl [0, 1] rfl)
set_option maxRecDepth 100000 in
set_option maxHeartbeats 4000000 in
theorem w_X12_cost_0 (l : Launch) {V : Int32 × St} (C0 : XC D ct p s m args meth c cX12_cost 2 (some .int) RX12) (v1 : Int32) (S : St) {H : Heap} {locs : List Loc} {ls : Array Slot} (h : (b_X12_cost_0 v1 S).bind some = some V) (hP : MP D ct B Hb S H) (hS : va_S (AB B) s.heap H locs) (hl : lv_has ls 2 [(0, .ref (B + 136)), (1, .int v1)]) : W p l e { frames := 2, cells := 0, slots := 0, locals := 46 } s m args below meth c H locs 0 0 (MQ below (qIw D ct B Hb V) args s 0 0 (AB B)) (F0 m 0 ls []) := by
  obtain ⟨hx, hb, hr, hml, hown, hts, hK, hlocks, hN⟩ := id C0
  unfold b_X12_cost_0 at h
  refine lv_aload_n hx hb dX12_cost_0 rfl (lv_at hl 0 rfl) ?_
  refine lv_iconst (v := 0) hx hb dX12_cost_1 (by decide) ?_
  obtain ⟨S1, eS1, h⟩ := ob_nm h
  refine x_put (S' := si S 136 28 0) (FS := (fs12 B)) C0 hP hS (fun S => lay_X12 B ct S) rfl inG12 tyX12 tyX12_ok nmX12 28 (by decide) wd_1169 rfl rfl (fun a ha => lay_local (gi_si_n _ _ _ ha) rfl rfl rfl) (put_12_28 B _ _) rfl rfl (Nat.le_of_ble_eq_true rfl) dX12_cost_2 (fun H locs hP hS => ?_)
  rw [← eS1] at hP
  refine lv_aload_n hx hb dX12_cost_5 rfl (lv_at hl 0 rfl) ?_
  refine lv_iload_n hx hb dX12_cost_6 rfl (lv_at hl 1 rfl) ?_
  obtain ⟨r2, hr2, h⟩ := ob_bd h
  refine n_I (kV (As := [.int v1]) C0 (c_X12_wrongKept l v1 hr2) ⟨wd_1497, wd_1494, wd_1496, wp_42, wd_6⟩ kd_X12_wrongKept ⟨Nat.le_of_ble_eq_true rfl, Nat.le_of_ble_eq_true rfl⟩ hP (lay_X12 B ct S1) rfl rfl hl.1 rfl (Nat.le_of_ble_eq_true rfl) dX12_cost_7 ⟨Nat.le_of_ble_eq_true rfl, Nat.le_of_ble_eq_true rfl⟩) hS (fun H locs hP hS => ?_)
  refine lv_if_ge (tgt := 21) hx hb dX12_cost_10 (by decide) (fun z3 => ?_) (fun z3 => ?_)
  · have h := ob_t h z3
    refine lv_aload_n hx hb dX12_cost_21 rfl (lv_at hl 0 rfl) ?_
    refine x_get C0 hP (lay_X12 B ct S1) rfl inG12 23 (by decide) wd_1164 (fun _ h => h) rfl dX12_cost_22 ?_
    refine lv_iload_n hx hb dX12_cost_25 rfl (lv_at hl 1 rfl) ?_
    obtain ⟨g4, h⟩ := ob_gd h
    refine x_iald C0 hP ((fun S => lay_154 B ct S) S1) g4 dX12_cost_26 ?_
    refine lv_aload_n hx hb dX12_cost_27 rfl (lv_at hl 0 rfl) ?_
    refine x_get C0 hP (lay_X12 B ct S1) rfl inG12 24 (by decide) wd_1165 (fun _ h => h) rfl dX12_cost_28 ?_
    refine lv_iload_n hx hb dX12_cost_31 rfl (lv_at hl 1 rfl) ?_
    obtain ⟨g5, h⟩ := ob_gd h
    refine x_iald C0 hP ((fun S => lay_155 B ct S) S1) g5 dX12_cost_32 ?_
    obtain ⟨r6, hr6, h⟩ := ob_bd h
    refine n_I (kS (As := [.int (gi S1 154 v1.toNatClampNeg), .int (gi S1 155 v1.toNatClampNeg)]) C0 (c_X12_costOf l (gi S1 154 v1.toNatClampNeg) (gi S1 155 v1.toNatClampNeg) hr6) ⟨wd_1793, wd_1791, wd_1792, wd_6⟩ kd_X12_costOf ⟨Nat.le_of_ble_eq_true rfl, Nat.le_of_ble_eq_true rfl⟩ hP rfl hl.1 rfl (Nat.le_of_ble_eq_true rfl) dX12_cost_33 ⟨Nat.le_of_ble_eq_true rfl, Nat.le_of_ble_eq_true rfl⟩) hS (fun H locs hP hS => ?_)
    exact r_Iw C0 hP hS h dX12_cost_36
  · have h := ob_f h z3
    refine lv_aload_n hx hb dX12_cost_13 rfl (lv_at hl 0 rfl) ?_
    refine lv_iload_n hx hb dX12_cost_14 rfl (lv_at hl 1 rfl) ?_
    obtain ⟨r7, hr7, h⟩ := ob_bd h
    refine n_I (kV (As := [.int v1]) C0 (c_X12_wrongKept l v1 hr7) ⟨wd_1497, wd_1494, wd_1496, wp_42, wd_6⟩ kd_X12_wrongKept ⟨Nat.le_of_ble_eq_true rfl, Nat.le_of_ble_eq_true rfl⟩ hP (lay_X12 B ct S1) rfl rfl hl.1 rfl (Nat.le_of_ble_eq_true rfl) dX12_cost_15 ⟨Nat.le_of_ble_eq_true rfl, Nat.le_of_ble_eq_true rfl⟩) hS (fun H locs hP hS => ?_)
    refine lv_goto (tgt := 36) hx hb dX12_cost_18 (by decide) ?_
    exact r_Iw C0 hP hS h dX12_cost_36
set_option maxRecDepth 100000 in
set_option maxHeartbeats 4000000 in
theorem c_X12_cost (l : Launch) (a1 : Int32) {D : va_G} {ct : Nat → ClassId} {B : Nat} {Hb : Heap} {S : St} {V : Int32 × St} (h : L_X12_cost a1 S = some V) : Met l yX12_cost (Cond.code yX12_cost cX12_cost 2 (some .int) :: tG) { frames := 2, cells := 0, slots := 0, locals := 46 } (va_Pc [.ref (B + 136), .int a1] (MPK D ct B Hb S)) (qIw D ct B Hb V) 0 0 (AB B) := by
  refine mk_met (by decide +kernel) (Nat.le_of_ble_eq_true rfl) (fun p e s m args below meth c ls C0 hP hl _ => ?_)
  have h := ob_of h
  exact w_X12_cost_0 l C0 a1 S h hP va_S.rf (lv_sub hl [0, 1] rfl)
set_option maxRecDepth 100000 in
set_option maxHeartbeats 4000000 in
theorem w_X12_toss_55 (l : Launch) {V : Int32 × St} (C0 : XC D ct p s m args meth c cX12_toss 4 (some .int) RX12) (v3 : Int32) (S : St) {H : Heap} {locs : List Loc} {ls : Array Slot} (h : (b_X12_toss_55 v3 S).bind some = some V) (hP : MP D ct B Hb S H) (hS : va_S (AB B) s.heap H locs) (hl : lv_has ls 4 [(3, .int v3)]) : W p l e { frames := 2, cells := 0, slots := 0, locals := 46 } s m args below meth c H locs 0 0 (MQ below (qIw D ct B Hb V) args s 0 0 (AB B)) (F0 m 55 ls []) := by
  obtain ⟨hx, hb, hr, hml, hown, hts, hK, hlocks, hN⟩ := id C0
  unfold b_X12_toss_55 at h
  refine lv_bipush (v := 100) hx hb dX12_toss_55 (by decide) ?_
  refine lv_iload_n hx hb dX12_toss_57 rfl (lv_at hl 0 rfl) ?_
  refine lv_iadd hx hb dX12_toss_58 ?_
  refine lv_goto (tgt := 80) hx hb dX12_toss_59 (by decide) ?_
  exact r_Iw C0 hP hS h dX12_toss_80
set_option maxRecDepth 100000 in
set_option maxHeartbeats 4000000 in
theorem w_X12_toss_0 (l : Launch) {V : Int32 × St} (C0 : XC D ct p s m args meth c cX12_toss 4 (some .int) RX12) (v1 : Int32) (S : St) {H : Heap} {locs : List Loc} {ls : Array Slot} (h : (b_X12_toss_0 v1 S).bind some = some V) (hP : MP D ct B Hb S H) (hS : va_S (AB B) s.heap H locs) (hl : lv_has ls 4 [(0, .ref (B + 136)), (1, .int v1)]) : W p l e { frames := 2, cells := 0, slots := 0, locals := 46 } s m args below meth c H locs 0 0 (MQ below (qIw D ct B Hb V) args s 0 0 (AB B)) (F0 m 0 ls []) := by
  obtain ⟨hx, hb, hr, hml, hown, hts, hK, hlocks, hN⟩ := id C0
  unfold b_X12_toss_0 at h
  refine lv_aload_n hx hb dX12_toss_0 rfl (lv_at hl 0 rfl) ?_
  refine lv_iconst (v := 0) hx hb dX12_toss_1 (by decide) ?_
  obtain ⟨S1, eS1, h⟩ := ob_nm h
  refine x_put (S' := si S 136 28 0) (FS := (fs12 B)) C0 hP hS (fun S => lay_X12 B ct S) rfl inG12 tyX12 tyX12_ok nmX12 28 (by decide) wd_1169 rfl rfl (fun a ha => lay_local (gi_si_n _ _ _ ha) rfl rfl rfl) (put_12_28 B _ _) rfl rfl (Nat.le_of_ble_eq_true rfl) dX12_toss_2 (fun H locs hP hS => ?_)
  rw [← eS1] at hP
  refine lv_aload_n hx hb dX12_toss_5 rfl (lv_at hl 0 rfl) ?_
  refine lv_iload_n hx hb dX12_toss_6 rfl (lv_at hl 1 rfl) ?_
  obtain ⟨r2, hr2, h⟩ := ob_bd h
  refine n_I (kV (As := [.int v1]) C0 (c_X12_wrongKept l v1 hr2) ⟨wd_1497, wd_1494, wd_1496, wp_42, wd_6⟩ kd_X12_wrongKept ⟨Nat.le_of_ble_eq_true rfl, Nat.le_of_ble_eq_true rfl⟩ hP (lay_X12 B ct S1) rfl rfl hl.1 rfl (Nat.le_of_ble_eq_true rfl) dX12_toss_7 ⟨Nat.le_of_ble_eq_true rfl, Nat.le_of_ble_eq_true rfl⟩) hS (fun H locs hP hS => ?_)
  refine lv_if_ge (tgt := 19) hx hb dX12_toss_10 (by decide) (fun z3 => ?_) (fun z3 => ?_)
  · have h := ob_t h z3
    refine lv_aload_n hx hb dX12_toss_19 rfl (lv_at hl 0 rfl) ?_
    refine x_get C0 hP (lay_X12 B ct S1) rfl inG12 23 (by decide) wd_1164 (fun _ h => h) rfl dX12_toss_20 ?_
    refine lv_iload_n hx hb dX12_toss_23 rfl (lv_at hl 1 rfl) ?_
    obtain ⟨g4, h⟩ := ob_gd h
    refine x_iald C0 hP ((fun S => lay_154 B ct S) S1) g4 dX12_toss_24 ?_
    refine lv_istore_n (lv' := [(2, .int (gi S1 154 v1.toNatClampNeg)), (0, .ref (B + 136)), (1, .int v1)]) hx hb dX12_toss_25 rfl hl (by decide) rfl (fun ls hl => ?_)
    refine lv_aload_n hx hb dX12_toss_26 rfl (lv_at hl 1 rfl) ?_
    refine x_get C0 hP (lay_X12 B ct S1) rfl inG12 24 (by decide) wd_1165 (fun _ h => h) rfl dX12_toss_27 ?_
    refine lv_iload_n hx hb dX12_toss_30 rfl (lv_at hl 2 rfl) ?_
    obtain ⟨g5, h⟩ := ob_gd h
    refine x_iald C0 hP ((fun S => lay_155 B ct S) S1) g5 dX12_toss_31 ?_
    refine lv_istore_n (lv' := [(3, .int (gi S1 155 v1.toNatClampNeg)), (2, .int (gi S1 154 v1.toNatClampNeg)), (0, .ref (B + 136)), (1, .int v1)]) hx hb dX12_toss_32 rfl hl (by decide) rfl (fun ls hl => ?_)
    refine lv_iload_n hx hb dX12_toss_33 rfl (lv_at hl 1 rfl) ?_
    refine lv_iconst (v := 5) hx hb dX12_toss_34 (by decide) ?_
    refine lv_icmp_gt (tgt := 42) hx hb dX12_toss_35 (by decide) (fun z6 => ?_) (fun z6 => ?_)
    · have h := ob_t h z6
      refine lv_bipush (v := (-15)) hx hb dX12_toss_42 (by decide) ?_
      exact r_Iw C0 hP hS h dX12_toss_44
    · have h := ob_f h z6
      refine lv_iload_n hx hb dX12_toss_38 rfl (lv_at hl 0 rfl) ?_
      refine lv_if_ne (tgt := 45) hx hb dX12_toss_39 (by decide) (fun z7 => ?_) (fun z7 => ?_)
      · have h := ob_f h z7
        refine lv_iload_n hx hb dX12_toss_45 rfl (lv_at hl 1 rfl) ?_
        refine lv_iconst (v := 2) hx hb dX12_toss_46 (by decide) ?_
        refine lv_icmp_eq (tgt := 55) hx hb dX12_toss_47 (by decide) (fun z8 => ?_) (fun z8 => ?_)
        · have h := ob_t h z8
          exact w_X12_toss_55 l C0 (gi S1 155 v1.toNatClampNeg) S1 h hP hS (lv_sub hl [0] rfl)
        · have h := ob_f h z8
          refine lv_iload_n hx hb dX12_toss_50 rfl (lv_at hl 1 rfl) ?_
          refine lv_iconst (v := 3) hx hb dX12_toss_51 (by decide) ?_
          refine lv_icmp_ne (tgt := 62) hx hb dX12_toss_52 (by decide) (fun z9 => ?_) (fun z9 => ?_)
          · have h := ob_f h z9
            refine lv_iload_n hx hb dX12_toss_62 rfl (lv_at hl 1 rfl) ?_
            refine lv_iconst (v := 5) hx hb dX12_toss_63 (by decide) ?_
            refine lv_icmp_ne (tgt := 79) hx hb dX12_toss_64 (by decide) (fun z10 => ?_) (fun z10 => ?_)
            · have h := ob_f h z10
              refine lv_iload_n hx hb dX12_toss_79 rfl (lv_at hl 0 rfl) ?_
              exact r_Iw C0 hP hS h dX12_toss_80
            · have h := ob_t h z10
              refine lv_sipush (v := 200) hx hb dX12_toss_67 (by decide) ?_
              refine lv_iload_n hx hb dX12_toss_70 rfl (lv_at hl 1 rfl) ?_
              refine lv_iload_n hx hb dX12_toss_71 rfl (lv_at hl 0 rfl) ?_
              obtain ⟨r11, hr11, h⟩ := ob_bd h
              refine n_I (kS (As := [.int (gi S1 154 v1.toNatClampNeg), .int (gi S1 155 v1.toNatClampNeg)]) C0 (c_X12_costOf l (gi S1 154 v1.toNatClampNeg) (gi S1 155 v1.toNatClampNeg) hr11) ⟨wd_1793, wd_1791, wd_1792, wd_6⟩ kd_X12_costOf ⟨Nat.le_of_ble_eq_true rfl, Nat.le_of_ble_eq_true rfl⟩ hP rfl hl.1 rfl (Nat.le_of_ble_eq_true rfl) dX12_toss_72 ⟨Nat.le_of_ble_eq_true rfl, Nat.le_of_ble_eq_true rfl⟩) hS (fun H locs hP hS => ?_)
              refine lv_iadd hx hb dX12_toss_75 ?_
              refine lv_goto (tgt := 80) hx hb dX12_toss_76 (by decide) ?_
              exact r_Iw C0 hP hS h dX12_toss_80
          · have h := ob_t h z9
            exact w_X12_toss_55 l C0 (gi S1 155 v1.toNatClampNeg) S1 h hP hS (lv_sub hl [0] rfl)
      · have h := ob_t h z7
        refine lv_bipush (v := (-15)) hx hb dX12_toss_42 (by decide) ?_
        exact r_Iw C0 hP hS h dX12_toss_44
  · have h := ob_f h z3
    refine lv_aload_n hx hb dX12_toss_13 rfl (lv_at hl 0 rfl) ?_
    refine lv_iload_n hx hb dX12_toss_14 rfl (lv_at hl 1 rfl) ?_
    obtain ⟨r12, hr12, h⟩ := ob_bd h
    refine n_I (kV (As := [.int v1]) C0 (c_X12_wrongKept l v1 hr12) ⟨wd_1497, wd_1494, wd_1496, wp_42, wd_6⟩ kd_X12_wrongKept ⟨Nat.le_of_ble_eq_true rfl, Nat.le_of_ble_eq_true rfl⟩ hP (lay_X12 B ct S1) rfl rfl hl.1 rfl (Nat.le_of_ble_eq_true rfl) dX12_toss_15 ⟨Nat.le_of_ble_eq_true rfl, Nat.le_of_ble_eq_true rfl⟩) hS (fun H locs hP hS => ?_)
    exact r_Iw C0 hP hS h dX12_toss_18
set_option maxRecDepth 100000 in
set_option maxHeartbeats 4000000 in
theorem c_X12_toss (l : Launch) (a1 : Int32) {D : va_G} {ct : Nat → ClassId} {B : Nat} {Hb : Heap} {S : St} {V : Int32 × St} (h : L_X12_toss a1 S = some V) : Met l yX12_toss (Cond.code yX12_toss cX12_toss 4 (some .int) :: tG) { frames := 2, cells := 0, slots := 0, locals := 46 } (va_Pc [.ref (B + 136), .int a1] (MPK D ct B Hb S)) (qIw D ct B Hb V) 0 0 (AB B) := by
  refine mk_met (by decide +kernel) (Nat.le_of_ble_eq_true rfl) (fun p e s m args below meth c ls C0 hP hl _ => ?_)
  have h := ob_of h
  exact w_X12_toss_0 l C0 a1 S h hP va_S.rf (lv_sub hl [0, 1] rfl)
end WALKS
