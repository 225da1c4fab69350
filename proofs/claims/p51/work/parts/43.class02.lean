theorem dX2_chainOf_0 : decode cX2_chainOf 0 = .ok (.iconst 0, 1) := by decide +kernel
theorem dX2_chainOf_1 : decode cX2_chainOf 1 = .ok (.istore_n 2, 1) := by decide +kernel
theorem dX2_chainOf_2 : decode cX2_chainOf 2 = .ok (.aload_n 0, 1) := by decide +kernel
theorem dX2_chainOf_3 : decode cX2_chainOf 3 = .ok (.getfield 29, 3) := by decide +kernel
theorem dX2_chainOf_6 : decode cX2_chainOf 6 = .ok (.iload_n 1, 1) := by decide +kernel
theorem dX2_chainOf_7 : decode cX2_chainOf 7 = .ok (.iaload, 1) := by decide +kernel
theorem dX2_chainOf_8 : decode cX2_chainOf 8 = .ok (.istore_n 3, 1) := by decide +kernel
theorem dX2_chainOf_9 : decode cX2_chainOf 9 = .ok (.iconst 0, 1) := by decide +kernel
theorem dX2_chainOf_10 : decode cX2_chainOf 10 = .ok (.istore 4, 2) := by decide +kernel
theorem dX2_chainOf_12 : decode cX2_chainOf 12 = .ok (.iload 4, 2) := by decide +kernel
theorem dX2_chainOf_14 : decode cX2_chainOf 14 = .ok (.bipush 8, 2) := by decide +kernel
theorem dX2_chainOf_16 : decode cX2_chainOf 16 = .ok (.if_icmp .ge 34, 3) := by decide +kernel
theorem dX2_chainOf_19 : decode cX2_chainOf 19 = .ok (.iload_n 3, 1) := by decide +kernel
theorem dX2_chainOf_20 : decode cX2_chainOf 20 = .ok (.ifCond .lt 30, 3) := by decide +kernel
theorem dX2_chainOf_23 : decode cX2_chainOf 23 = .ok (.iinc 2 1, 3) := by decide +kernel
theorem dX2_chainOf_26 : decode cX2_chainOf 26 = .ok (.iload_n 3, 1) := by decide +kernel
theorem dX2_chainOf_27 : decode cX2_chainOf 27 = .ok (.bipush 8, 2) := by decide +kernel
theorem dX2_chainOf_29 : decode cX2_chainOf 29 = .ok (.if_icmp .ge 12, 3) := by decide +kernel
theorem dX2_chainOf_32 : decode cX2_chainOf 32 = .ok (.aload_n 0, 1) := by decide +kernel
theorem dX2_chainOf_33 : decode cX2_chainOf 33 = .ok (.getfield 29, 3) := by decide +kernel
theorem dX2_chainOf_36 : decode cX2_chainOf 36 = .ok (.iload_n 3, 1) := by decide +kernel
theorem dX2_chainOf_37 : decode cX2_chainOf 37 = .ok (.iaload, 1) := by decide +kernel
theorem dX2_chainOf_38 : decode cX2_chainOf 38 = .ok (.goto 5, 3) := by decide +kernel
theorem dX2_chainOf_41 : decode cX2_chainOf 41 = .ok (.bipush (-4), 2) := by decide +kernel
theorem dX2_chainOf_43 : decode cX2_chainOf 43 = .ok (.istore_n 3, 1) := by decide +kernel
theorem dX2_chainOf_44 : decode cX2_chainOf 44 = .ok (.iinc 4 1, 3) := by decide +kernel
theorem dX2_chainOf_47 : decode cX2_chainOf 47 = .ok (.goto (-35), 3) := by decide +kernel
theorem dX2_chainOf_50 : decode cX2_chainOf 50 = .ok (.iload_n 2, 1) := by decide +kernel
theorem dX2_chainOf_51 : decode cX2_chainOf 51 = .ok (.ireturn, 1) := by decide +kernel
theorem dX8_begin_0 : decode cX8_begin 0 = .ok (.aload_n 0, 1) := by decide +kernel
theorem dX8_begin_1 : decode cX8_begin 1 = .ok (.iload_n 1, 1) := by decide +kernel
theorem dX8_begin_2 : decode cX8_begin 2 = .ok (.putfield 9, 3) := by decide +kernel
theorem dX8_begin_5 : decode cX8_begin 5 = .ok (.aload_n 0, 1) := by decide +kernel
theorem dX8_begin_6 : decode cX8_begin 6 = .ok (.iload_n 2, 1) := by decide +kernel
theorem dX8_begin_7 : decode cX8_begin 7 = .ok (.putfield 15, 3) := by decide +kernel
theorem dX8_begin_10 : decode cX8_begin 10 = .ok (.iconst 0, 1) := by decide +kernel
theorem dX8_begin_11 : decode cX8_begin 11 = .ok (.istore_n 3, 1) := by decide +kernel
theorem dX8_begin_12 : decode cX8_begin 12 = .ok (.iload_n 3, 1) := by decide +kernel
theorem dX8_begin_13 : decode cX8_begin 13 = .ok (.bipush 100, 2) := by decide +kernel
theorem dX8_begin_15 : decode cX8_begin 15 = .ok (.if_icmp .ge 16, 3) := by decide +kernel
theorem dX8_begin_18 : decode cX8_begin 18 = .ok (.aload_n 0, 1) := by decide +kernel
theorem dX8_begin_19 : decode cX8_begin 19 = .ok (.getfield 18, 3) := by decide +kernel
theorem dX8_begin_22 : decode cX8_begin 22 = .ok (.iload_n 3, 1) := by decide +kernel
theorem dX8_begin_23 : decode cX8_begin 23 = .ok (.iconst 0, 1) := by decide +kernel
theorem dX8_begin_24 : decode cX8_begin 24 = .ok (.iastore, 1) := by decide +kernel
theorem dX8_begin_25 : decode cX8_begin 25 = .ok (.iinc 3 1, 3) := by decide +kernel
theorem dX8_begin_28 : decode cX8_begin 28 = .ok (.goto (-16), 3) := by decide +kernel
theorem dX8_begin_31 : decode cX8_begin 31 = .ok (.return_, 1) := by decide +kernel
theorem dX8_hasPlaces_0 : decode cX8_hasPlaces 0 = .ok (.iload_n 1, 1) := by decide +kernel
theorem dX8_hasPlaces_1 : decode cX8_hasPlaces 1 = .ok (.ifCond .lt 29, 3) := by decide +kernel
theorem dX8_hasPlaces_4 : decode cX8_hasPlaces 4 = .ok (.iload_n 2, 1) := by decide +kernel
theorem dX8_hasPlaces_5 : decode cX8_hasPlaces 5 = .ok (.ifCond .lt 25, 3) := by decide +kernel
theorem dX8_hasPlaces_8 : decode cX8_hasPlaces 8 = .ok (.iload_n 1, 1) := by decide +kernel
theorem dX8_hasPlaces_9 : decode cX8_hasPlaces 9 = .ok (.aload_n 0, 1) := by decide +kernel
theorem dX8_hasPlaces_10 : decode cX8_hasPlaces 10 = .ok (.getfield 15, 3) := by decide +kernel
theorem dX8_hasPlaces_13 : decode cX8_hasPlaces 13 = .ok (.if_icmp .gt 17, 3) := by decide +kernel
theorem dX8_hasPlaces_16 : decode cX8_hasPlaces 16 = .ok (.iload_n 2, 1) := by decide +kernel
theorem dX8_hasPlaces_17 : decode cX8_hasPlaces 17 = .ok (.aload_n 0, 1) := by decide +kernel
theorem dX8_hasPlaces_18 : decode cX8_hasPlaces 18 = .ok (.getfield 15, 3) := by decide +kernel
theorem dX8_hasPlaces_21 : decode cX8_hasPlaces 21 = .ok (.iload_n 1, 1) := by decide +kernel
theorem dX8_hasPlaces_22 : decode cX8_hasPlaces 22 = .ok (.isub, 1) := by decide +kernel
theorem dX8_hasPlaces_23 : decode cX8_hasPlaces 23 = .ok (.if_icmp .gt 7, 3) := by decide +kernel
theorem dX8_hasPlaces_26 : decode cX8_hasPlaces 26 = .ok (.iconst 1, 1) := by decide +kernel
theorem dX8_hasPlaces_27 : decode cX8_hasPlaces 27 = .ok (.goto 4, 3) := by decide +kernel
theorem dX8_hasPlaces_30 : decode cX8_hasPlaces 30 = .ok (.iconst 0, 1) := by decide +kernel
theorem dX8_hasPlaces_31 : decode cX8_hasPlaces 31 = .ok (.ireturn, 1) := by decide +kernel
theorem dX8_at_0 : decode cX8_at 0 = .ok (.aload_n 0, 1) := by decide +kernel
theorem dX8_at_1 : decode cX8_at 1 = .ok (.iload_n 1, 1) := by decide +kernel
theorem dX8_at_2 : decode cX8_at 2 = .ok (.iconst 1, 1) := by decide +kernel
theorem dX8_at_3 : decode cX8_at 3 = .ok (.invokevirtual 22, 3) := by decide +kernel
theorem dX8_at_6 : decode cX8_at 6 = .ok (.ifCond .eq 12, 3) := by decide +kernel
theorem dX8_at_9 : decode cX8_at 9 = .ok (.aload_n 0, 1) := by decide +kernel
theorem dX8_at_10 : decode cX8_at 10 = .ok (.getfield 18, 3) := by decide +kernel
theorem dX8_at_13 : decode cX8_at 13 = .ok (.iload_n 1, 1) := by decide +kernel
theorem dX8_at_14 : decode cX8_at 14 = .ok (.iaload, 1) := by decide +kernel
theorem dX8_at_15 : decode cX8_at 15 = .ok (.goto 4, 3) := by decide +kernel
theorem dX8_at_18 : decode cX8_at 18 = .ok (.iconst 0, 1) := by decide +kernel
theorem dX8_at_19 : decode cX8_at 19 = .ok (.ireturn, 1) := by decide +kernel
theorem dX8_write_0 : decode cX8_write 0 = .ok (.aload_n 0, 1) := by decide +kernel
theorem dX8_write_1 : decode cX8_write 1 = .ok (.iload_n 1, 1) := by decide +kernel
theorem dX8_write_2 : decode cX8_write 2 = .ok (.iconst 1, 1) := by decide +kernel
theorem dX8_write_3 : decode cX8_write 3 = .ok (.invokevirtual 22, 3) := by decide +kernel
theorem dX8_write_6 : decode cX8_write 6 = .ok (.ifCond .eq 35, 3) := by decide +kernel
theorem dX8_write_9 : decode cX8_write 9 = .ok (.aload_n 0, 1) := by decide +kernel
theorem dX8_write_10 : decode cX8_write 10 = .ok (.getfield 18, 3) := by decide +kernel
theorem dX8_write_13 : decode cX8_write 13 = .ok (.iload_n 1, 1) := by decide +kernel
theorem dX8_write_14 : decode cX8_write 14 = .ok (.aload_n 0, 1) := by decide +kernel
theorem dX8_write_15 : decode cX8_write 15 = .ok (.getfield 9, 3) := by decide +kernel
theorem dX8_write_18 : decode cX8_write 18 = .ok (.ifCond .ne 8, 3) := by decide +kernel
theorem dX8_write_21 : decode cX8_write 21 = .ok (.iload_n 2, 1) := by decide +kernel
theorem dX8_write_22 : decode cX8_write 22 = .ok (.i2b, 1) := by decide +kernel
theorem dX8_write_23 : decode cX8_write 23 = .ok (.goto 17, 3) := by decide +kernel
theorem dX8_write_26 : decode cX8_write 26 = .ok (.aload_n 0, 1) := by decide +kernel
theorem dX8_write_27 : decode cX8_write 27 = .ok (.getfield 9, 3) := by decide +kernel
theorem dX8_write_30 : decode cX8_write 30 = .ok (.iconst 1, 1) := by decide +kernel
theorem dX8_write_31 : decode cX8_write 31 = .ok (.if_icmp .ne 8, 3) := by decide +kernel
theorem dX8_write_34 : decode cX8_write 34 = .ok (.iload_n 2, 1) := by decide +kernel
theorem dX8_write_35 : decode cX8_write 35 = .ok (.i2s, 1) := by decide +kernel
theorem dX8_write_36 : decode cX8_write 36 = .ok (.goto 4, 3) := by decide +kernel
theorem dX8_write_39 : decode cX8_write 39 = .ok (.iload_n 2, 1) := by decide +kernel
theorem dX8_write_40 : decode cX8_write 40 = .ok (.iastore, 1) := by decide +kernel
theorem dX8_write_41 : decode cX8_write 41 = .ok (.return_, 1) := by decide +kernel
theorem dX8_digitAt_0 : decode cX8_digitAt 0 = .ok (.aload_n 0, 1) := by decide +kernel
theorem dX8_digitAt_1 : decode cX8_digitAt 1 = .ok (.iload_n 1, 1) := by decide +kernel
theorem dX8_digitAt_2 : decode cX8_digitAt 2 = .ok (.invokevirtual 27, 3) := by decide +kernel
theorem dX8_digitAt_5 : decode cX8_digitAt 5 = .ok (.bipush 48, 2) := by decide +kernel
theorem dX8_digitAt_7 : decode cX8_digitAt 7 = .ok (.isub, 1) := by decide +kernel
theorem dX8_digitAt_8 : decode cX8_digitAt 8 = .ok (.ireturn, 1) := by decide +kernel
theorem dX8_pairAt_0 : decode cX8_pairAt 0 = .ok (.bipush 10, 2) := by decide +kernel
theorem dX8_pairAt_2 : decode cX8_pairAt 2 = .ok (.aload_n 0, 1) := by decide +kernel
theorem dX8_pairAt_3 : decode cX8_pairAt 3 = .ok (.iload_n 1, 1) := by decide +kernel
theorem dX8_pairAt_4 : decode cX8_pairAt 4 = .ok (.invokevirtual 31, 3) := by decide +kernel
theorem dX8_pairAt_7 : decode cX8_pairAt 7 = .ok (.imul, 1) := by decide +kernel
theorem dX8_pairAt_8 : decode cX8_pairAt 8 = .ok (.aload_n 0, 1) := by decide +kernel
theorem dX8_pairAt_9 : decode cX8_pairAt 9 = .ok (.iload_n 1, 1) := by decide +kernel
theorem dX8_pairAt_10 : decode cX8_pairAt 10 = .ok (.iconst 1, 1) := by decide +kernel
theorem dX8_pairAt_11 : decode cX8_pairAt 11 = .ok (.iadd, 1) := by decide +kernel
theorem dX8_pairAt_12 : decode cX8_pairAt 12 = .ok (.invokevirtual 31, 3) := by decide +kernel
theorem dX8_pairAt_15 : decode cX8_pairAt 15 = .ok (.iadd, 1) := by decide +kernel
theorem dX8_pairAt_16 : decode cX8_pairAt 16 = .ok (.ireturn, 1) := by decide +kernel
theorem dX8_signAt_0 : decode cX8_signAt 0 = .ok (.aload_n 0, 1) := by decide +kernel
theorem dX8_signAt_1 : decode cX8_signAt 1 = .ok (.iload_n 1, 1) := by decide +kernel
theorem dX8_signAt_2 : decode cX8_signAt 2 = .ok (.invokevirtual 27, 3) := by decide +kernel
theorem dX8_signAt_5 : decode cX8_signAt 5 = .ok (.bipush 45, 2) := by decide +kernel
theorem dX8_signAt_7 : decode cX8_signAt 7 = .ok (.if_icmp .ne 7, 3) := by decide +kernel
theorem dX8_signAt_10 : decode cX8_signAt 10 = .ok (.iconst (-1), 1) := by decide +kernel
theorem dX8_signAt_11 : decode cX8_signAt 11 = .ok (.goto 4, 3) := by decide +kernel
theorem dX8_signAt_14 : decode cX8_signAt 14 = .ok (.iconst 1, 1) := by decide +kernel
theorem dX8_signAt_15 : decode cX8_signAt 15 = .ok (.ireturn, 1) := by decide +kernel
theorem dX8_signedAt_0 : decode cX8_signedAt 0 = .ok (.aload_n 0, 1) := by decide +kernel
theorem dX8_signedAt_1 : decode cX8_signedAt 1 = .ok (.iload_n 1, 1) := by decide +kernel
theorem dX8_signedAt_2 : decode cX8_signedAt 2 = .ok (.invokevirtual 34, 3) := by decide +kernel
theorem dX8_signedAt_5 : decode cX8_signedAt 5 = .ok (.aload_n 0, 1) := by decide +kernel
theorem dX8_signedAt_6 : decode cX8_signedAt 6 = .ok (.iload_n 1, 1) := by decide +kernel
theorem dX8_signedAt_7 : decode cX8_signedAt 7 = .ok (.iconst 1, 1) := by decide +kernel
theorem dX8_signedAt_8 : decode cX8_signedAt 8 = .ok (.iadd, 1) := by decide +kernel
theorem dX8_signedAt_9 : decode cX8_signedAt 9 = .ok (.invokevirtual 31, 3) := by decide +kernel
theorem dX8_signedAt_12 : decode cX8_signedAt 12 = .ok (.imul, 1) := by decide +kernel
theorem dX8_signedAt_13 : decode cX8_signedAt 13 = .ok (.ireturn, 1) := by decide +kernel
theorem dX10_become_0 : decode cX10_become 0 = .ok (.aload_n 0, 1) := by decide +kernel
theorem dX10_become_1 : decode cX10_become 1 = .ok (.aload_n 1, 1) := by decide +kernel
theorem dX10_become_2 : decode cX10_become 2 = .ok (.getfield 9, 3) := by decide +kernel
theorem dX10_become_5 : decode cX10_become 5 = .ok (.putfield 9, 3) := by decide +kernel
theorem dX10_become_8 : decode cX10_become 8 = .ok (.iconst 0, 1) := by decide +kernel
theorem dX10_become_9 : decode cX10_become 9 = .ok (.istore_n 2, 1) := by decide +kernel
theorem dX10_become_10 : decode cX10_become 10 = .ok (.iload_n 2, 1) := by decide +kernel
theorem dX10_become_11 : decode cX10_become 11 = .ok (.bipush 8, 2) := by decide +kernel
theorem dX10_become_13 : decode cX10_become 13 = .ok (.if_icmp .ge 69, 3) := by decide +kernel
theorem dX10_become_16 : decode cX10_become 16 = .ok (.aload_n 0, 1) := by decide +kernel
theorem dX10_become_17 : decode cX10_become 17 = .ok (.getfield 17, 3) := by decide +kernel
theorem dX10_become_20 : decode cX10_become 20 = .ok (.iload_n 2, 1) := by decide +kernel
theorem dX10_become_21 : decode cX10_become 21 = .ok (.aload_n 1, 1) := by decide +kernel
theorem dX10_become_22 : decode cX10_become 22 = .ok (.getfield 17, 3) := by decide +kernel
theorem dX10_become_25 : decode cX10_become 25 = .ok (.iload_n 2, 1) := by decide +kernel
theorem dX10_become_26 : decode cX10_become 26 = .ok (.aaload, 1) := by decide +kernel
theorem dX10_become_27 : decode cX10_become 27 = .ok (.aastore, 1) := by decide +kernel
theorem dX10_become_28 : decode cX10_become 28 = .ok (.aload_n 0, 1) := by decide +kernel
theorem dX10_become_29 : decode cX10_become 29 = .ok (.getfield 24, 3) := by decide +kernel
theorem dX10_become_32 : decode cX10_become 32 = .ok (.iload_n 2, 1) := by decide +kernel
theorem dX10_become_33 : decode cX10_become 33 = .ok (.aload_n 1, 1) := by decide +kernel
theorem dX10_become_34 : decode cX10_become 34 = .ok (.getfield 24, 3) := by decide +kernel
theorem dX10_become_37 : decode cX10_become 37 = .ok (.iload_n 2, 1) := by decide +kernel
theorem dX10_become_38 : decode cX10_become 38 = .ok (.iaload, 1) := by decide +kernel
theorem dX10_become_39 : decode cX10_become 39 = .ok (.iastore, 1) := by decide +kernel
theorem dX10_become_40 : decode cX10_become 40 = .ok (.aload_n 0, 1) := by decide +kernel
theorem dX10_become_41 : decode cX10_become 41 = .ok (.getfield 28, 3) := by decide +kernel
theorem dX10_become_44 : decode cX10_become 44 = .ok (.iload_n 2, 1) := by decide +kernel
theorem dX10_become_45 : decode cX10_become 45 = .ok (.aload_n 1, 1) := by decide +kernel
theorem dX10_become_46 : decode cX10_become 46 = .ok (.getfield 28, 3) := by decide +kernel
theorem dX10_become_49 : decode cX10_become 49 = .ok (.iload_n 2, 1) := by decide +kernel
theorem dX10_become_50 : decode cX10_become 50 = .ok (.iaload, 1) := by decide +kernel
theorem dX10_become_51 : decode cX10_become 51 = .ok (.iastore, 1) := by decide +kernel
theorem dX10_become_52 : decode cX10_become 52 = .ok (.aload_n 0, 1) := by decide +kernel
theorem dX10_become_53 : decode cX10_become 53 = .ok (.getfield 31, 3) := by decide +kernel
theorem dX10_become_56 : decode cX10_become 56 = .ok (.iload_n 2, 1) := by decide +kernel
theorem dX10_become_57 : decode cX10_become 57 = .ok (.aload_n 1, 1) := by decide +kernel
theorem dX10_become_58 : decode cX10_become 58 = .ok (.getfield 31, 3) := by decide +kernel
theorem dX10_become_61 : decode cX10_become 61 = .ok (.iload_n 2, 1) := by decide +kernel
theorem dX10_become_62 : decode cX10_become 62 = .ok (.iaload, 1) := by decide +kernel
theorem dX10_become_63 : decode cX10_become 63 = .ok (.iastore, 1) := by decide +kernel
theorem dX10_become_64 : decode cX10_become 64 = .ok (.aload_n 0, 1) := by decide +kernel
theorem dX10_become_65 : decode cX10_become 65 = .ok (.getfield 34, 3) := by decide +kernel
theorem dX10_become_68 : decode cX10_become 68 = .ok (.iload_n 2, 1) := by decide +kernel
theorem dX10_become_69 : decode cX10_become 69 = .ok (.aload_n 1, 1) := by decide +kernel
theorem dX10_become_70 : decode cX10_become 70 = .ok (.getfield 34, 3) := by decide +kernel
theorem dX10_become_73 : decode cX10_become 73 = .ok (.iload_n 2, 1) := by decide +kernel
theorem dX10_become_74 : decode cX10_become 74 = .ok (.iaload, 1) := by decide +kernel
theorem dX10_become_75 : decode cX10_become 75 = .ok (.iastore, 1) := by decide +kernel
theorem dX10_become_76 : decode cX10_become 76 = .ok (.iinc 2 1, 3) := by decide +kernel
theorem dX10_become_79 : decode cX10_become 79 = .ok (.goto (-69), 3) := by decide +kernel
theorem dX10_become_82 : decode cX10_become 82 = .ok (.aload_n 0, 1) := by decide +kernel
theorem dX10_become_83 : decode cX10_become 83 = .ok (.aload_n 1, 1) := by decide +kernel
theorem dX10_become_84 : decode cX10_become 84 = .ok (.getfield 37, 3) := by decide +kernel
theorem dX10_become_87 : decode cX10_become 87 = .ok (.putfield 37, 3) := by decide +kernel
theorem dX10_become_90 : decode cX10_become 90 = .ok (.iconst 0, 1) := by decide +kernel
theorem dX10_become_91 : decode cX10_become 91 = .ok (.istore_n 2, 1) := by decide +kernel
theorem dX10_become_92 : decode cX10_become 92 = .ok (.iload_n 2, 1) := by decide +kernel
theorem dX10_become_93 : decode cX10_become 93 = .ok (.bipush 6, 2) := by decide +kernel
theorem dX10_become_95 : decode cX10_become 95 = .ok (.if_icmp .ge 57, 3) := by decide +kernel
theorem dX10_become_98 : decode cX10_become 98 = .ok (.aload_n 0, 1) := by decide +kernel
theorem dX10_become_99 : decode cX10_become 99 = .ok (.getfield 40, 3) := by decide +kernel
theorem dX10_become_102 : decode cX10_become 102 = .ok (.iload_n 2, 1) := by decide +kernel
theorem dX10_become_103 : decode cX10_become 103 = .ok (.aload_n 1, 1) := by decide +kernel
theorem dX10_become_104 : decode cX10_become 104 = .ok (.getfield 40, 3) := by decide +kernel
theorem dX10_become_107 : decode cX10_become 107 = .ok (.iload_n 2, 1) := by decide +kernel
theorem dX10_become_108 : decode cX10_become 108 = .ok (.iaload, 1) := by decide +kernel
theorem dX10_become_109 : decode cX10_become 109 = .ok (.iastore, 1) := by decide +kernel
theorem dX10_become_110 : decode cX10_become 110 = .ok (.aload_n 0, 1) := by decide +kernel
theorem dX10_become_111 : decode cX10_become 111 = .ok (.getfield 43, 3) := by decide +kernel
theorem dX10_become_114 : decode cX10_become 114 = .ok (.iload_n 2, 1) := by decide +kernel
theorem dX10_become_115 : decode cX10_become 115 = .ok (.aload_n 1, 1) := by decide +kernel
theorem dX10_become_116 : decode cX10_become 116 = .ok (.getfield 43, 3) := by decide +kernel
theorem dX10_become_119 : decode cX10_become 119 = .ok (.iload_n 2, 1) := by decide +kernel
theorem dX10_become_120 : decode cX10_become 120 = .ok (.iaload, 1) := by decide +kernel
theorem dX10_become_121 : decode cX10_become 121 = .ok (.iastore, 1) := by decide +kernel
theorem dX10_become_122 : decode cX10_become 122 = .ok (.aload_n 0, 1) := by decide +kernel
theorem dX10_become_123 : decode cX10_become 123 = .ok (.getfield 46, 3) := by decide +kernel
theorem dX10_become_126 : decode cX10_become 126 = .ok (.iload_n 2, 1) := by decide +kernel
theorem dX10_become_127 : decode cX10_become 127 = .ok (.aload_n 1, 1) := by decide +kernel
theorem dX10_become_128 : decode cX10_become 128 = .ok (.getfield 46, 3) := by decide +kernel
theorem dX10_become_131 : decode cX10_become 131 = .ok (.iload_n 2, 1) := by decide +kernel
theorem dX10_become_132 : decode cX10_become 132 = .ok (.iaload, 1) := by decide +kernel
theorem dX10_become_133 : decode cX10_become 133 = .ok (.iastore, 1) := by decide +kernel
theorem dX10_become_134 : decode cX10_become 134 = .ok (.aload_n 0, 1) := by decide +kernel
theorem dX10_become_135 : decode cX10_become 135 = .ok (.getfield 49, 3) := by decide +kernel
theorem dX10_become_138 : decode cX10_become 138 = .ok (.iload_n 2, 1) := by decide +kernel
theorem dX10_become_139 : decode cX10_become 139 = .ok (.aload_n 1, 1) := by decide +kernel
theorem dX10_become_140 : decode cX10_become 140 = .ok (.getfield 49, 3) := by decide +kernel
theorem dX10_become_143 : decode cX10_become 143 = .ok (.iload_n 2, 1) := by decide +kernel
theorem dX10_become_144 : decode cX10_become 144 = .ok (.iaload, 1) := by decide +kernel
theorem dX10_become_145 : decode cX10_become 145 = .ok (.iastore, 1) := by decide +kernel
theorem dX10_become_146 : decode cX10_become 146 = .ok (.iinc 2 1, 3) := by decide +kernel
theorem dX10_become_149 : decode cX10_become 149 = .ok (.goto (-57), 3) := by decide +kernel
theorem dX10_become_152 : decode cX10_become 152 = .ok (.aload_n 0, 1) := by decide +kernel
theorem dX10_become_153 : decode cX10_become 153 = .ok (.aload_n 1, 1) := by decide +kernel
theorem dX10_become_154 : decode cX10_become 154 = .ok (.getfield 52, 3) := by decide +kernel
theorem dX10_become_157 : decode cX10_become 157 = .ok (.putfield 52, 3) := by decide +kernel
theorem dX10_become_160 : decode cX10_become 160 = .ok (.iconst 0, 1) := by decide +kernel
theorem dX10_become_161 : decode cX10_become 161 = .ok (.istore_n 2, 1) := by decide +kernel
theorem dX10_become_162 : decode cX10_become 162 = .ok (.iload_n 2, 1) := by decide +kernel
theorem dX10_become_163 : decode cX10_become 163 = .ok (.iconst 3, 1) := by decide +kernel
theorem dX10_become_164 : decode cX10_become 164 = .ok (.if_icmp .ge 69, 3) := by decide +kernel
theorem dX10_become_167 : decode cX10_become 167 = .ok (.aload_n 0, 1) := by decide +kernel
theorem dX10_become_168 : decode cX10_become 168 = .ok (.getfield 55, 3) := by decide +kernel
theorem dX10_become_171 : decode cX10_become 171 = .ok (.iload_n 2, 1) := by decide +kernel
theorem dX10_become_172 : decode cX10_become 172 = .ok (.aload_n 1, 1) := by decide +kernel
theorem dX10_become_173 : decode cX10_become 173 = .ok (.getfield 55, 3) := by decide +kernel
theorem dX10_become_176 : decode cX10_become 176 = .ok (.iload_n 2, 1) := by decide +kernel
theorem dX10_become_177 : decode cX10_become 177 = .ok (.iaload, 1) := by decide +kernel
theorem dX10_become_178 : decode cX10_become 178 = .ok (.iastore, 1) := by decide +kernel
theorem dX10_become_179 : decode cX10_become 179 = .ok (.aload_n 0, 1) := by decide +kernel
theorem dX10_become_180 : decode cX10_become 180 = .ok (.getfield 58, 3) := by decide +kernel
theorem dX10_become_183 : decode cX10_become 183 = .ok (.iload_n 2, 1) := by decide +kernel
theorem dX10_become_184 : decode cX10_become 184 = .ok (.aload_n 1, 1) := by decide +kernel
theorem dX10_become_185 : decode cX10_become 185 = .ok (.getfield 58, 3) := by decide +kernel
theorem dX10_become_188 : decode cX10_become 188 = .ok (.iload_n 2, 1) := by decide +kernel
theorem dX10_become_189 : decode cX10_become 189 = .ok (.iaload, 1) := by decide +kernel
theorem dX10_become_190 : decode cX10_become 190 = .ok (.iastore, 1) := by decide +kernel
theorem dX10_become_191 : decode cX10_become 191 = .ok (.aload_n 0, 1) := by decide +kernel
theorem dX10_become_192 : decode cX10_become 192 = .ok (.getfield 61, 3) := by decide +kernel
theorem dX10_become_195 : decode cX10_become 195 = .ok (.iload_n 2, 1) := by decide +kernel
theorem dX10_become_196 : decode cX10_become 196 = .ok (.aload_n 1, 1) := by decide +kernel
theorem dX10_become_197 : decode cX10_become 197 = .ok (.getfield 61, 3) := by decide +kernel
theorem dX10_become_200 : decode cX10_become 200 = .ok (.iload_n 2, 1) := by decide +kernel
theorem dX10_become_201 : decode cX10_become 201 = .ok (.iaload, 1) := by decide +kernel
theorem dX10_become_202 : decode cX10_become 202 = .ok (.iastore, 1) := by decide +kernel
theorem dX10_become_203 : decode cX10_become 203 = .ok (.aload_n 0, 1) := by decide +kernel
theorem dX10_become_204 : decode cX10_become 204 = .ok (.getfield 64, 3) := by decide +kernel
theorem dX10_become_207 : decode cX10_become 207 = .ok (.iload_n 2, 1) := by decide +kernel
theorem dX10_become_208 : decode cX10_become 208 = .ok (.aload_n 1, 1) := by decide +kernel
theorem dX10_become_209 : decode cX10_become 209 = .ok (.getfield 64, 3) := by decide +kernel
theorem dX10_become_212 : decode cX10_become 212 = .ok (.iload_n 2, 1) := by decide +kernel
theorem dX10_become_213 : decode cX10_become 213 = .ok (.iaload, 1) := by decide +kernel
theorem dX10_become_214 : decode cX10_become 214 = .ok (.iastore, 1) := by decide +kernel
theorem dX10_become_215 : decode cX10_become 215 = .ok (.aload_n 0, 1) := by decide +kernel
theorem dX10_become_216 : decode cX10_become 216 = .ok (.getfield 67, 3) := by decide +kernel
theorem dX10_become_219 : decode cX10_become 219 = .ok (.iload_n 2, 1) := by decide +kernel
theorem dX10_become_220 : decode cX10_become 220 = .ok (.aload_n 1, 1) := by decide +kernel
theorem dX10_become_221 : decode cX10_become 221 = .ok (.getfield 67, 3) := by decide +kernel
theorem dX10_become_224 : decode cX10_become 224 = .ok (.iload_n 2, 1) := by decide +kernel
theorem dX10_become_225 : decode cX10_become 225 = .ok (.iaload, 1) := by decide +kernel
theorem dX10_become_226 : decode cX10_become 226 = .ok (.iastore, 1) := by decide +kernel
theorem dX10_become_227 : decode cX10_become 227 = .ok (.iinc 2 1, 3) := by decide +kernel
theorem dX10_become_230 : decode cX10_become 230 = .ok (.goto (-68), 3) := by decide +kernel
theorem dX10_become_233 : decode cX10_become 233 = .ok (.aload_n 1, 1) := by decide +kernel
theorem dX10_become_234 : decode cX10_become 234 = .ok (.getfield 70, 3) := by decide +kernel
theorem dX10_become_237 : decode cX10_become 237 = .ok (.iconst 0, 1) := by decide +kernel
theorem dX10_become_238 : decode cX10_become 238 = .ok (.aload_n 0, 1) := by decide +kernel
theorem dX10_become_239 : decode cX10_become 239 = .ok (.getfield 70, 3) := by decide +kernel
theorem dX10_become_242 : decode cX10_become 242 = .ok (.iconst 0, 1) := by decide +kernel
theorem dX10_become_243 : decode cX10_become 243 = .ok (.iconst 4, 1) := by decide +kernel
theorem dX10_become_244 : decode cX10_become 244 = .ok (.invokestatic 76, 3) := by decide +kernel
theorem dX10_become_247 : decode cX10_become 247 = .ok (.aload_n 1, 1) := by decide +kernel
theorem dX10_become_248 : decode cX10_become 248 = .ok (.getfield 73, 3) := by decide +kernel
theorem dX10_become_251 : decode cX10_become 251 = .ok (.iconst 0, 1) := by decide +kernel
theorem dX10_become_252 : decode cX10_become 252 = .ok (.aload_n 0, 1) := by decide +kernel
theorem dX10_become_253 : decode cX10_become 253 = .ok (.getfield 73, 3) := by decide +kernel
theorem dX10_become_256 : decode cX10_become 256 = .ok (.iconst 0, 1) := by decide +kernel
theorem dX10_become_257 : decode cX10_become 257 = .ok (.iconst 3, 1) := by decide +kernel
theorem dX10_become_258 : decode cX10_become 258 = .ok (.invokestatic 76, 3) := by decide +kernel
theorem dX10_become_261 : decode cX10_become 261 = .ok (.return_, 1) := by decide +kernel
theorem dX11_isOut_0 : decode cX11_isOut 0 = .ok (.iload_n 0, 1) := by decide +kernel
theorem dX11_isOut_1 : decode cX11_isOut 1 = .ok (.iload_n 1, 1) := by decide +kernel
theorem dX11_isOut_2 : decode cX11_isOut 2 = .ok (.if_icmp .lt 8, 3) := by decide +kernel
theorem dX11_isOut_5 : decode cX11_isOut 5 = .ok (.iload_n 0, 1) := by decide +kernel
theorem dX11_isOut_6 : decode cX11_isOut 6 = .ok (.iload_n 2, 1) := by decide +kernel
theorem dX11_isOut_7 : decode cX11_isOut 7 = .ok (.if_icmp .le 7, 3) := by decide +kernel
theorem dX11_isOut_10 : decode cX11_isOut 10 = .ok (.iconst 1, 1) := by decide +kernel
theorem dX11_isOut_11 : decode cX11_isOut 11 = .ok (.goto 4, 3) := by decide +kernel
theorem dX11_isOut_14 : decode cX11_isOut 14 = .ok (.iconst 0, 1) := by decide +kernel
theorem dX11_isOut_15 : decode cX11_isOut 15 = .ok (.ireturn, 1) := by decide +kernel
theorem dX10_isNoOne_0 : decode cX10_isNoOne 0 = .ok (.iload_n 0, 1) := by decide +kernel
theorem dX10_isNoOne_1 : decode cX10_isNoOne 1 = .ok (.iconst 0, 1) := by decide +kernel
theorem dX10_isNoOne_2 : decode cX10_isNoOne 2 = .ok (.iconst 3, 1) := by decide +kernel
theorem dX10_isNoOne_3 : decode cX10_isNoOne 3 = .ok (.invokestatic 82, 3) := by decide +kernel
theorem dX10_isNoOne_6 : decode cX10_isNoOne 6 = .ok (.ifCond .ne 34, 3) := by decide +kernel
theorem dX10_isNoOne_9 : decode cX10_isNoOne 9 = .ok (.iload_n 1, 1) := by decide +kernel
theorem dX10_isNoOne_10 : decode cX10_isNoOne 10 = .ok (.iconst 0, 1) := by decide +kernel
theorem dX10_isNoOne_11 : decode cX10_isNoOne 11 = .ok (.bipush 23, 2) := by decide +kernel
theorem dX10_isNoOne_13 : decode cX10_isNoOne 13 = .ok (.invokestatic 82, 3) := by decide +kernel
theorem dX10_isNoOne_16 : decode cX10_isNoOne 16 = .ok (.ifCond .ne 24, 3) := by decide +kernel
theorem dX10_isNoOne_19 : decode cX10_isNoOne 19 = .ok (.iload_n 2, 1) := by decide +kernel
theorem dX10_isNoOne_20 : decode cX10_isNoOne 20 = .ok (.bipush (-9), 2) := by decide +kernel
theorem dX10_isNoOne_22 : decode cX10_isNoOne 22 = .ok (.bipush 9, 2) := by decide +kernel
theorem dX10_isNoOne_24 : decode cX10_isNoOne 24 = .ok (.invokestatic 82, 3) := by decide +kernel
theorem dX10_isNoOne_27 : decode cX10_isNoOne 27 = .ok (.ifCond .ne 13, 3) := by decide +kernel
theorem dX10_isNoOne_30 : decode cX10_isNoOne 30 = .ok (.iload_n 3, 1) := by decide +kernel
theorem dX10_isNoOne_31 : decode cX10_isNoOne 31 = .ok (.iconst 0, 1) := by decide +kernel
theorem dX10_isNoOne_32 : decode cX10_isNoOne 32 = .ok (.bipush 99, 2) := by decide +kernel
theorem dX10_isNoOne_34 : decode cX10_isNoOne 34 = .ok (.invokestatic 82, 3) := by decide +kernel
theorem dX10_isNoOne_37 : decode cX10_isNoOne 37 = .ok (.ifCond .eq 7, 3) := by decide +kernel
theorem dX10_isNoOne_40 : decode cX10_isNoOne 40 = .ok (.iconst 1, 1) := by decide +kernel
theorem dX10_isNoOne_41 : decode cX10_isNoOne 41 = .ok (.goto 4, 3) := by decide +kernel
theorem dX10_isNoOne_44 : decode cX10_isNoOne 44 = .ok (.iconst 0, 1) := by decide +kernel
theorem dX10_isNoOne_45 : decode cX10_isNoOne 45 = .ok (.ireturn, 1) := by decide +kernel
theorem dX10_addOne_0 : decode cX10_addOne 0 = .ok (.iload_n 2, 1) := by decide +kernel
theorem dX10_addOne_1 : decode cX10_addOne 1 = .ok (.iload_n 3, 1) := by decide +kernel
theorem dX10_addOne_2 : decode cX10_addOne 2 = .ok (.iload 4, 2) := by decide +kernel
theorem dX10_addOne_4 : decode cX10_addOne 4 = .ok (.iload 5, 2) := by decide +kernel
theorem dX10_addOne_6 : decode cX10_addOne 6 = .ok (.invokestatic 86, 3) := by decide +kernel
theorem dX10_addOne_9 : decode cX10_addOne 9 = .ok (.ifCond .eq 5, 3) := by decide +kernel
theorem dX10_addOne_12 : decode cX10_addOne 12 = .ok (.iconst (-1), 1) := by decide +kernel
theorem dX10_addOne_13 : decode cX10_addOne 13 = .ok (.ireturn, 1) := by decide +kernel
theorem dX10_addOne_14 : decode cX10_addOne 14 = .ok (.aload_n 0, 1) := by decide +kernel
theorem dX10_addOne_15 : decode cX10_addOne 15 = .ok (.getfield 9, 3) := by decide +kernel
theorem dX10_addOne_18 : decode cX10_addOne 18 = .ok (.bipush 8, 2) := by decide +kernel
theorem dX10_addOne_20 : decode cX10_addOne 20 = .ok (.if_icmp .lt 6, 3) := by decide +kernel
theorem dX10_addOne_23 : decode cX10_addOne 23 = .ok (.bipush (-2), 2) := by decide +kernel
theorem dX10_addOne_25 : decode cX10_addOne 25 = .ok (.ireturn, 1) := by decide +kernel
theorem dX10_addOne_26 : decode cX10_addOne 26 = .ok (.aload_n 0, 1) := by decide +kernel
theorem dX10_addOne_27 : decode cX10_addOne 27 = .ok (.getfield 17, 3) := by decide +kernel
theorem dX10_addOne_30 : decode cX10_addOne 30 = .ok (.aload_n 0, 1) := by decide +kernel
theorem dX10_addOne_31 : decode cX10_addOne 31 = .ok (.getfield 9, 3) := by decide +kernel
theorem dX10_addOne_34 : decode cX10_addOne 34 = .ok (.aload_n 1, 1) := by decide +kernel
theorem dX10_addOne_35 : decode cX10_addOne 35 = .ok (.aastore, 1) := by decide +kernel
theorem dX10_addOne_36 : decode cX10_addOne 36 = .ok (.aload_n 0, 1) := by decide +kernel
theorem dX10_addOne_37 : decode cX10_addOne 37 = .ok (.getfield 24, 3) := by decide +kernel
theorem dX10_addOne_40 : decode cX10_addOne 40 = .ok (.aload_n 0, 1) := by decide +kernel
theorem dX10_addOne_41 : decode cX10_addOne 41 = .ok (.getfield 9, 3) := by decide +kernel
theorem dX10_addOne_44 : decode cX10_addOne 44 = .ok (.iload_n 2, 1) := by decide +kernel
theorem dX10_addOne_45 : decode cX10_addOne 45 = .ok (.iastore, 1) := by decide +kernel
theorem dX10_addOne_46 : decode cX10_addOne 46 = .ok (.aload_n 0, 1) := by decide +kernel
theorem dX10_addOne_47 : decode cX10_addOne 47 = .ok (.getfield 28, 3) := by decide +kernel
theorem dX10_addOne_50 : decode cX10_addOne 50 = .ok (.aload_n 0, 1) := by decide +kernel
theorem dX10_addOne_51 : decode cX10_addOne 51 = .ok (.getfield 9, 3) := by decide +kernel
theorem dX10_addOne_54 : decode cX10_addOne 54 = .ok (.iload_n 3, 1) := by decide +kernel
theorem dX10_addOne_55 : decode cX10_addOne 55 = .ok (.iastore, 1) := by decide +kernel
theorem dX10_addOne_56 : decode cX10_addOne 56 = .ok (.aload_n 0, 1) := by decide +kernel
theorem dX10_addOne_57 : decode cX10_addOne 57 = .ok (.getfield 31, 3) := by decide +kernel
theorem dX10_addOne_60 : decode cX10_addOne 60 = .ok (.aload_n 0, 1) := by decide +kernel
theorem dX10_addOne_61 : decode cX10_addOne 61 = .ok (.getfield 9, 3) := by decide +kernel
theorem dX10_addOne_64 : decode cX10_addOne 64 = .ok (.iload 4, 2) := by decide +kernel
theorem dX10_addOne_66 : decode cX10_addOne 66 = .ok (.iastore, 1) := by decide +kernel
theorem dX10_addOne_67 : decode cX10_addOne 67 = .ok (.aload_n 0, 1) := by decide +kernel
theorem dX10_addOne_68 : decode cX10_addOne 68 = .ok (.getfield 34, 3) := by decide +kernel
theorem dX10_addOne_71 : decode cX10_addOne 71 = .ok (.aload_n 0, 1) := by decide +kernel
theorem dX10_addOne_72 : decode cX10_addOne 72 = .ok (.getfield 9, 3) := by decide +kernel
theorem dX10_addOne_75 : decode cX10_addOne 75 = .ok (.iload 5, 2) := by decide +kernel
theorem dX10_addOne_77 : decode cX10_addOne 77 = .ok (.iastore, 1) := by decide +kernel
theorem dX10_addOne_78 : decode cX10_addOne 78 = .ok (.aload_n 0, 1) := by decide +kernel
theorem dX10_addOne_79 : decode cX10_addOne 79 = .ok (.dup, 1) := by decide +kernel
theorem dX10_addOne_80 : decode cX10_addOne 80 = .ok (.getfield 9, 3) := by decide +kernel
theorem dX10_addOne_83 : decode cX10_addOne 83 = .ok (.iconst 1, 1) := by decide +kernel
theorem dX10_addOne_84 : decode cX10_addOne 84 = .ok (.iadd, 1) := by decide +kernel
theorem dX10_addOne_85 : decode cX10_addOne 85 = .ok (.putfield 9, 3) := by decide +kernel
theorem dX10_addOne_88 : decode cX10_addOne 88 = .ok (.aload_n 0, 1) := by decide +kernel
theorem dX10_addOne_89 : decode cX10_addOne 89 = .ok (.getfield 9, 3) := by decide +kernel
theorem dX10_addOne_92 : decode cX10_addOne 92 = .ok (.iconst 1, 1) := by decide +kernel
theorem dX10_addOne_93 : decode cX10_addOne 93 = .ok (.isub, 1) := by decide +kernel
theorem dX10_addOne_94 : decode cX10_addOne 94 = .ok (.ireturn, 1) := by decide +kernel
def b_X2_chainOf_43 (v2 : Int32) (v4 : Int32) (s0 : Int32) (S : St) : Option ((Int32 × Int32 × Int32) ⊕ Int32) := some (.inl (v2, s0, (v4 + 1)))
def b_X2_chainOf_12 (v2 : Int32) (v3 : Int32) (v4 : Int32) (S : St) : Option ((Int32 × Int32 × Int32) ⊕ Int32) := (if (8 : Int32) ≤ v4 then some (.inr v2) else (if (v3 : Int32) < 0 then some (.inr v2) else (if (8 : Int32) ≤ v3 then (b_X2_chainOf_43 (v2 + 1) v4 ((-4)) S) else gd (inb v3 8) ((b_X2_chainOf_43 (v2 + 1) v4 (gi S 59 v3.toNatClampNeg) S)))))
def l_X2_chainOf_12 (S : St) (x : (Int32 × Int32 × Int32)) : Option ((Int32 × Int32 × Int32) ⊕ Int32) := b_X2_chainOf_12 x.1 x.2.1 x.2.2 S
def b_X2_chainOf_0 (v1 : Int32) (S : St) : Option Int32 := gd (inb v1 8) ((lp 1000 (l_X2_chainOf_12 S) (0, (gi S 59 v1.toNatClampNeg), 0)))
def L_X2_chainOf (a1 : Int32) (S : St) : Option Int32 := b_X2_chainOf_0 a1 S
def b_X8_begin_12 (w : Nat) (v3 : Int32) (S : St) : Option ((Int32 × St) ⊕ St) := (if (100 : Int32) ≤ v3 then some (.inr S) else gd (inb v3 100) (nm (si S (w + 1) v3.toNatClampNeg 0) fun S3 => some (.inl ((v3 + 1), S3))))
def l_X8_begin_12 (w : Nat) (x : (Int32 × St)) : Option ((Int32 × St) ⊕ St) := b_X8_begin_12 w x.1 x.2
def b_X8_begin_0 (w : Nat) (v1 : Int32) (v2 : Int32) (S : St) : Option St := nm (si S w 0 v1) fun S1 => nm (si S1 w 1 v2) fun S2 => (lp 1000 (l_X8_begin_12 w) (0, S2))
def L_X8_begin (w : Nat) (a1 : Int32) (a2 : Int32) (S : St) : Option St := b_X8_begin_0 w a1 a2 S
def b_X8_hasPlaces_30 (w : Nat) (S : St) : Option Int32 := some 0
def b_X8_hasPlaces_0 (w : Nat) (v1 : Int32) (v2 : Int32) (S : St) : Option Int32 := (if (v1 : Int32) < 0 then (b_X8_hasPlaces_30 w S) else (if (v2 : Int32) < 0 then (b_X8_hasPlaces_30 w S) else (if (gi S w 1 : Int32) < v1 then (b_X8_hasPlaces_30 w S) else (if ((gi S w 1) - v1 : Int32) < v2 then (b_X8_hasPlaces_30 w S) else some 1))))
def L_X8_hasPlaces (w : Nat) (a1 : Int32) (a2 : Int32) (S : St) : Option Int32 := b_X8_hasPlaces_0 w a1 a2 S
def b_X8_at_0 (w : Nat) (v1 : Int32) (S : St) : Option Int32 := (L_X8_hasPlaces w v1 1 S).bind fun r1 => (if (r1 : Int32) = 0 then some 0 else gd (inb v1 100) (some (gi S (w + 1) v1.toNatClampNeg)))
def L_X8_at (w : Nat) (a1 : Int32) (S : St) : Option Int32 := b_X8_at_0 w a1 S
def b_X8_write_40 (w : Nat) (s0 : Int32) (s1 : Int32) (S : St) : Option St := gd (inb s1 100) (nm (si S (w + 1) s1.toNatClampNeg s0) fun S2 => some S2)
def b_X8_write_0 (w : Nat) (v1 : Int32) (v2 : Int32) (S : St) : Option St := (L_X8_hasPlaces w v1 1 S).bind fun r1 => (if (r1 : Int32) = 0 then some S else (if (gi S w 0 : Int32) = 0 then (b_X8_write_40 w v2.toInt8.toInt32 v1 S) else (if (gi S w 0 : Int32) = 1 then (b_X8_write_40 w v2.toInt16.toInt32 v1 S) else (b_X8_write_40 w v2 v1 S))))
def L_X8_write (w : Nat) (a1 : Int32) (a2 : Int32) (S : St) : Option St := b_X8_write_0 w a1 a2 S
def b_X8_digitAt_0 (w : Nat) (v1 : Int32) (S : St) : Option Int32 := (L_X8_at w v1 S).bind fun r1 => some (r1 - 48)
def L_X8_digitAt (w : Nat) (a1 : Int32) (S : St) : Option Int32 := b_X8_digitAt_0 w a1 S
def b_X8_pairAt_0 (w : Nat) (v1 : Int32) (S : St) : Option Int32 := (L_X8_digitAt w v1 S).bind fun r1 => (L_X8_digitAt w (v1 + 1) S).bind fun r2 => some ((10 * r1) + r2)
def L_X8_pairAt (w : Nat) (a1 : Int32) (S : St) : Option Int32 := b_X8_pairAt_0 w a1 S
def b_X8_signAt_0 (w : Nat) (v1 : Int32) (S : St) : Option Int32 := (L_X8_at w v1 S).bind fun r1 => (if (r1 : Int32) = 45 then some ((-1)) else some 1)
def L_X8_signAt (w : Nat) (a1 : Int32) (S : St) : Option Int32 := b_X8_signAt_0 w a1 S
def b_X8_signedAt_0 (w : Nat) (v1 : Int32) (S : St) : Option Int32 := (L_X8_signAt w v1 S).bind fun r1 => (L_X8_digitAt w (v1 + 1) S).bind fun r2 => some (r1 * r2)
def L_X8_signedAt (w : Nat) (a1 : Int32) (S : St) : Option Int32 := b_X8_signedAt_0 w a1 S
def b_X10_become_162 (t : Nat) (u1 : Nat) (v2 : Int32) (S : St) : Option ((Int32 × St) ⊕ St) := (if (3 : Int32) ≤ v2 then gd (cpb 0 0 4 4 4) (nm (sc S (u1 + 16) (0 : Int32).toNatClampNeg (t + 16) (0 : Int32).toNatClampNeg (4 : Int32).toNatClampNeg) fun S3 => gd (cpb 0 0 3 3 3) (nm (sc S3 (u1 + 17) (0 : Int32).toNatClampNeg (t + 17) (0 : Int32).toNatClampNeg (3 : Int32).toNatClampNeg) fun S5 => some (.inr S5))) else gd (inb v2 3) (gd (inb v2 3) (nm (si S (t + 11) v2.toNatClampNeg (gi S (u1 + 11) v2.toNatClampNeg)) fun S8 => gd (inb v2 3) (gd (inb v2 3) (nm (si S8 (t + 12) v2.toNatClampNeg (gi S8 (u1 + 12) v2.toNatClampNeg)) fun S11 => gd (inb v2 3) (gd (inb v2 3) (nm (si S11 (t + 13) v2.toNatClampNeg (gi S11 (u1 + 13) v2.toNatClampNeg)) fun S14 => gd (inb v2 3) (gd (inb v2 3) (nm (si S14 (t + 14) v2.toNatClampNeg (gi S14 (u1 + 14) v2.toNatClampNeg)) fun S17 => gd (inb v2 3) (gd (inb v2 3) (nm (si S17 (t + 15) v2.toNatClampNeg (gi S17 (u1 + 15) v2.toNatClampNeg)) fun S20 => some (.inl ((v2 + 1), S20)))))))))))))
def l_X10_become_162 (t : Nat) (u1 : Nat) (x : (Int32 × St)) : Option ((Int32 × St) ⊕ St) := b_X10_become_162 t u1 x.1 x.2
def b_X10_become_152 (t : Nat) (u1 : Nat) (S : St) : Option St := nm (si S t 11 (gi S u1 11)) fun S1 => (lp 1000 (l_X10_become_162 t u1) (0, S1))
def b_X10_become_92 (t : Nat) (u1 : Nat) (v2 : Int32) (S : St) : Option ((Int32 × St) ⊕ St) := (if (6 : Int32) ≤ v2 then ((b_X10_become_152 t u1 S).map Sum.inr) else gd (inb v2 6) (gd (inb v2 6) (nm (si S (t + 7) v2.toNatClampNeg (gi S (u1 + 7) v2.toNatClampNeg)) fun S4 => gd (inb v2 6) (gd (inb v2 6) (nm (si S4 (t + 8) v2.toNatClampNeg (gi S4 (u1 + 8) v2.toNatClampNeg)) fun S7 => gd (inb v2 6) (gd (inb v2 6) (nm (si S7 (t + 9) v2.toNatClampNeg (gi S7 (u1 + 9) v2.toNatClampNeg)) fun S10 => gd (inb v2 6) (gd (inb v2 6) (nm (si S10 (t + 10) v2.toNatClampNeg (gi S10 (u1 + 10) v2.toNatClampNeg)) fun S13 => some (.inl ((v2 + 1), S13)))))))))))
def l_X10_become_92 (t : Nat) (u1 : Nat) (x : (Int32 × St)) : Option ((Int32 × St) ⊕ St) := b_X10_become_92 t u1 x.1 x.2
def b_X10_become_82 (t : Nat) (u1 : Nat) (S : St) : Option St := nm (si S t 6 (gi S u1 6)) fun S1 => (lp 1000 (l_X10_become_92 t u1) (0, S1))
def b_X10_become_10 (t : Nat) (u1 : Nat) (v2 : Int32) (S : St) : Option ((Int32 × St) ⊕ St) := (if (8 : Int32) ≤ v2 then ((b_X10_become_82 t u1 S).map Sum.inr) else gd (inb v2 8) ((gr S (u1 + 1) v2.toNatClampNeg).bind fun q3 => gd (inb v2 8) ((gq S q3).bind fun k6 => nm (sr S (t + 1) v2.toNatClampNeg (some q3)) fun S5 => gd (inb v2 8) (gd (inb v2 8) (nm (si S5 (t + 3) v2.toNatClampNeg (gi S5 (u1 + 3) v2.toNatClampNeg)) fun S9 => gd (inb v2 8) (gd (inb v2 8) (nm (si S9 (t + 4) v2.toNatClampNeg (gi S9 (u1 + 4) v2.toNatClampNeg)) fun S12 => gd (inb v2 8) (gd (inb v2 8) (nm (si S12 (t + 5) v2.toNatClampNeg (gi S12 (u1 + 5) v2.toNatClampNeg)) fun S15 => gd (inb v2 8) (gd (inb v2 8) (nm (si S15 (t + 6) v2.toNatClampNeg (gi S15 (u1 + 6) v2.toNatClampNeg)) fun S18 => some (.inl ((v2 + 1), S18)))))))))))))
def l_X10_become_10 (t : Nat) (u1 : Nat) (x : (Int32 × St)) : Option ((Int32 × St) ⊕ St) := b_X10_become_10 t u1 x.1 x.2
def b_X10_become_0 (t : Nat) (u1 : Nat) (S : St) : Option St := nm (si S t 0 (gi S u1 0)) fun S1 => (lp 1000 (l_X10_become_10 t u1) (0, S1))
def L_X10_become (t : Nat) (u1 : Nat) (S : St) : Option St := b_X10_become_0 t u1 S
def b_X11_isOut_10 (S : St) : Option Int32 := some 1
def b_X11_isOut_0 (v0 : Int32) (v1 : Int32) (v2 : Int32) (S : St) : Option Int32 := (if (v0 : Int32) < v1 then (b_X11_isOut_10 S) else (if (v0 : Int32) ≤ v2 then some 0 else (b_X11_isOut_10 S)))
def L_X11_isOut (a0 : Int32) (a1 : Int32) (a2 : Int32) (S : St) : Option Int32 := b_X11_isOut_0 a0 a1 a2 S
def b_X10_isNoOne_40 (S : St) : Option Int32 := some 1
def b_X10_isNoOne_0 (v0 : Int32) (v1 : Int32) (v2 : Int32) (v3 : Int32) (S : St) : Option Int32 := (L_X11_isOut v0 0 3 S).bind fun r1 => (if (r1 : Int32) = 0 then (L_X11_isOut v1 0 23 S).bind fun r3 => (if (r3 : Int32) = 0 then (L_X11_isOut v2 ((-9)) 9 S).bind fun r5 => (if (r5 : Int32) = 0 then (L_X11_isOut v3 0 99 S).bind fun r7 => (if (r7 : Int32) = 0 then some 0 else (b_X10_isNoOne_40 S)) else (b_X10_isNoOne_40 S)) else (b_X10_isNoOne_40 S)) else (b_X10_isNoOne_40 S))
def L_X10_isNoOne (a0 : Int32) (a1 : Int32) (a2 : Int32) (a3 : Int32) (S : St) : Option Int32 := b_X10_isNoOne_0 a0 a1 a2 a3 S
def b_X10_addOne_0 (t : Nat) (u1 : Nat) (v2 : Int32) (v3 : Int32) (v4 : Int32) (v5 : Int32) (S : St) : Option (Int32 × St) := (L_X10_isNoOne v2 v3 v4 v5 S).bind fun r1 => (if (r1 : Int32) = 0 then (if (gi S t 0 : Int32) < 8 then gd (inb (gi S t 0) 8) ((gq S u1).bind fun k6 => nm (sr S (t + 1) (gi S t 0).toNatClampNeg (some u1)) fun S5 => gd (inb (gi S5 t 0) 8) (nm (si S5 (t + 3) (gi S5 t 0).toNatClampNeg v2) fun S8 => gd (inb (gi S8 t 0) 8) (nm (si S8 (t + 4) (gi S8 t 0).toNatClampNeg v3) fun S10 => gd (inb (gi S10 t 0) 8) (nm (si S10 (t + 5) (gi S10 t 0).toNatClampNeg v4) fun S12 => gd (inb (gi S12 t 0) 8) (nm (si S12 (t + 6) (gi S12 t 0).toNatClampNeg v5) fun S14 => nm (si S14 t 0 ((gi S14 t 0) + 1)) fun S15 => some ((gi S15 t 0) - 1, S15)))))) else some ((-2), S)) else some ((-1), S))
def L_X10_addOne (t : Nat) (u1 : Nat) (a2 : Int32) (a3 : Int32) (a4 : Int32) (a5 : Int32) (S : St) : Option (Int32 × St) := b_X10_addOne_0 t u1 a2 a3 a4 a5 S
section WALKS
variable {p : Program} {e : Env} {s : State} {m : MethodId} {args : Array Value} {below : List Frame} {meth : Method} {c : Code} {D : va_G} {ct : Nat → ClassId} {B : Nat} {Hb : Heap}
set_option maxRecDepth 100000 in
set_option maxHeartbeats 4000000 in
theorem w_X2_chainOf_43 (l : Launch) {V : Int32} (C0 : XC D ct p s m args meth c cX2_chainOf 5 (some .int) RX2) (v2 : Int32) (v4 : Int32) (s0 : Int32) (S : St) (n0 : Nat) (ih0 : ∀ (v2 : Int32) (v3 : Int32) (v4 : Int32) (H : Heap) (locs : List Loc) (ls : Array Slot), (lp n0 (l_X2_chainOf_12 S) (v2, v3, v4)).bind some = some V → MP D ct B Hb S H → va_S (AB B) s.heap H locs → lv_has ls 5 [(0, .ref (B + 55)), (2, .int v2), (3, .int v3), (4, .int v4)] → W p l e { frames := 0, cells := 0, slots := 0, locals := 0 } s m args below meth c H locs 0 0 (MQ below (qI D ct B Hb S V) args s 0 0 (AB B)) (F0 m 12 ls [])) {H : Heap} {locs : List Loc} {ls : Array Slot} (h : (b_X2_chainOf_43 v2 v4 s0 S).bind (lpF n0 (l_X2_chainOf_12 S) some) = some V) (hP : MP D ct B Hb S H) (hS : va_S (AB B) s.heap H locs) (hl : lv_has ls 5 [(0, .ref (B + 55)), (2, .int v2), (4, .int v4)]) : W p l e { frames := 0, cells := 0, slots := 0, locals := 0 } s m args below meth c H locs 0 0 (MQ below (qI D ct B Hb S V) args s 0 0 (AB B)) (F0 m 43 ls [.int s0]) := by
  obtain ⟨hx, hb, hr, hml, hown, hts, hK, hlocks, hN⟩ := id C0
  unfold b_X2_chainOf_43 at h
  refine lv_istore_n (lv' := [(3, .int s0), (0, .ref (B + 55)), (2, .int v2), (4, .int v4)]) hx hb dX2_chainOf_43 rfl hl (by decide) rfl (fun ls hl => ?_)
  refine lv_iinc (v := v4 + 1) (lv' := [(4, .int (v4 + 1)), (3, .int s0), (0, .ref (B + 55)), (2, .int v2)]) hx hb dX2_chainOf_44 hl (k := 3) rfl rfl (by decide) rfl (fun ls hl => ?_)
  refine lv_goto (tgt := 12) hx hb dX2_chainOf_47 (by decide) ?_
  exact ih0 v2 s0 (v4 + 1) _ _ _ h hP hS (lv_sub hl [2, 3, 1, 0] rfl)
set_option maxRecDepth 100000 in
set_option maxHeartbeats 4000000 in
theorem w_X2_chainOf_12 (l : Launch) {V : Int32} (C0 : XC D ct p s m args meth c cX2_chainOf 5 (some .int) RX2) (v2 : Int32) (v3 : Int32) (v4 : Int32) (S : St) (n0 : Nat) (ih0 : ∀ (v2 : Int32) (v3 : Int32) (v4 : Int32) (H : Heap) (locs : List Loc) (ls : Array Slot), (lp n0 (l_X2_chainOf_12 S) (v2, v3, v4)).bind some = some V → MP D ct B Hb S H → va_S (AB B) s.heap H locs → lv_has ls 5 [(0, .ref (B + 55)), (2, .int v2), (3, .int v3), (4, .int v4)] → W p l e { frames := 0, cells := 0, slots := 0, locals := 0 } s m args below meth c H locs 0 0 (MQ below (qI D ct B Hb S V) args s 0 0 (AB B)) (F0 m 12 ls [])) {H : Heap} {locs : List Loc} {ls : Array Slot} (h : (b_X2_chainOf_12 v2 v3 v4 S).bind (lpF n0 (l_X2_chainOf_12 S) some) = some V) (hP : MP D ct B Hb S H) (hS : va_S (AB B) s.heap H locs) (hl : lv_has ls 5 [(0, .ref (B + 55)), (2, .int v2), (3, .int v3), (4, .int v4)]) : W p l e { frames := 0, cells := 0, slots := 0, locals := 0 } s m args below meth c H locs 0 0 (MQ below (qI D ct B Hb S V) args s 0 0 (AB B)) (F0 m 12 ls []) := by
  obtain ⟨hx, hb, hr, hml, hown, hts, hK, hlocks, hN⟩ := id C0
  unfold b_X2_chainOf_12 at h
  refine lv_iload hx hb dX2_chainOf_12 (lv_at hl 3 rfl) ?_
  refine lv_bipush (v := 8) hx hb dX2_chainOf_14 (by decide) ?_
  refine lv_icmp_ge (tgt := 50) hx hb dX2_chainOf_16 (by decide) (fun z1 => ?_) (fun z1 => ?_)
  · have h := ob_t h z1
    refine lv_iload_n hx hb dX2_chainOf_50 rfl (lv_at hl 1 rfl) ?_
    exact r_I C0 hP hS h dX2_chainOf_51
  · have h := ob_f h z1
    refine lv_iload_n hx hb dX2_chainOf_19 rfl (lv_at hl 2 rfl) ?_
    refine lv_if_lt (tgt := 50) hx hb dX2_chainOf_20 (by decide) (fun z2 => ?_) (fun z2 => ?_)
    · have h := ob_t h z2
      refine lv_iload_n hx hb dX2_chainOf_50 rfl (lv_at hl 1 rfl) ?_
      exact r_I C0 hP hS h dX2_chainOf_51
    · have h := ob_f h z2
      refine lv_iinc (v := v2 + 1) (lv' := [(2, .int (v2 + 1)), (0, .ref (B + 55)), (3, .int v3), (4, .int v4)]) hx hb dX2_chainOf_23 hl (k := 1) rfl rfl (by decide) rfl (fun ls hl => ?_)
      refine lv_iload_n hx hb dX2_chainOf_26 rfl (lv_at hl 2 rfl) ?_
      refine lv_bipush (v := 8) hx hb dX2_chainOf_27 (by decide) ?_
      refine lv_icmp_ge (tgt := 41) hx hb dX2_chainOf_29 (by decide) (fun z3 => ?_) (fun z3 => ?_)
      · have h := ob_t h z3
        refine lv_bipush (v := (-4)) hx hb dX2_chainOf_41 (by decide) ?_
        exact w_X2_chainOf_43 l C0 (v2 + 1) v4 ((-4)) S n0 ih0 h hP hS (lv_sub hl [1, 0, 3] rfl)
      · have h := ob_f h z3
        refine lv_aload_n hx hb dX2_chainOf_32 rfl (lv_at hl 1 rfl) ?_
        refine x_get C0 hP (lay_X2 B ct S) rfl inG2 5 (by decide) wd_156 (fun _ h => h) rfl dX2_chainOf_33 ?_
        refine lv_iload_n hx hb dX2_chainOf_36 rfl (lv_at hl 2 rfl) ?_
        obtain ⟨g4, h⟩ := ob_gd h
        refine x_iald C0 hP ((fun S => lay_59 B ct S) S) g4 dX2_chainOf_37 ?_
        refine lv_goto (tgt := 43) hx hb dX2_chainOf_38 (by decide) ?_
        exact w_X2_chainOf_43 l C0 (v2 + 1) v4 (gi S 59 v3.toNatClampNeg) S n0 ih0 h hP hS (lv_sub hl [1, 0, 3] rfl)
set_option maxRecDepth 100000 in
set_option maxHeartbeats 4000000 in
theorem wl_X2_chainOf_12 (l : Launch) {V : Int32} (C0 : XC D ct p s m args meth c cX2_chainOf 5 (some .int) RX2) (S : St)  : ∀ (n0 : Nat) (v2 : Int32) (v3 : Int32) (v4 : Int32) {H : Heap} {locs : List Loc} {ls : Array Slot}, (lp n0 (l_X2_chainOf_12 S) (v2, v3, v4)).bind some = some V → MP D ct B Hb S H → va_S (AB B) s.heap H locs → lv_has ls 5 [(0, .ref (B + 55)), (2, .int v2), (3, .int v3), (4, .int v4)] → W p l e { frames := 0, cells := 0, slots := 0, locals := 0 } s m args below meth c H locs 0 0 (MQ below (qI D ct B Hb S V) args s 0 0 (AB B)) (F0 m 12 ls []) := by
  intro n0
  induction n0 with
  | zero =>
    intro v2 v3 v4 H locs ls h hP hS hl
    exact (lp_0 h).elim
  | succ n0 ih0 =>
    intro v2 v3 v4 H locs ls h hP hS hl
    have h := lp_s h
    exact w_X2_chainOf_12 l C0 v2 v3 v4 S n0 (fun v2 v3 v4 H locs ls h hP hS hl => ih0 v2 v3 v4 h hP hS hl) h hP hS hl
set_option maxRecDepth 100000 in
set_option maxHeartbeats 4000000 in
theorem w_X2_chainOf_0 (l : Launch) {V : Int32} (C0 : XC D ct p s m args meth c cX2_chainOf 5 (some .int) RX2) (v1 : Int32) (S : St) {H : Heap} {locs : List Loc} {ls : Array Slot} (h : (b_X2_chainOf_0 v1 S).bind some = some V) (hP : MP D ct B Hb S H) (hS : va_S (AB B) s.heap H locs) (hl : lv_has ls 5 [(0, .ref (B + 55)), (1, .int v1)]) : W p l e { frames := 0, cells := 0, slots := 0, locals := 0 } s m args below meth c H locs 0 0 (MQ below (qI D ct B Hb S V) args s 0 0 (AB B)) (F0 m 0 ls []) := by
  obtain ⟨hx, hb, hr, hml, hown, hts, hK, hlocks, hN⟩ := id C0
  unfold b_X2_chainOf_0 at h
  refine lv_iconst (v := 0) hx hb dX2_chainOf_0 (by decide) ?_
  refine lv_istore_n (lv' := [(2, .int 0), (0, .ref (B + 55)), (1, .int v1)]) hx hb dX2_chainOf_1 rfl hl (by decide) rfl (fun ls hl => ?_)
  refine lv_aload_n hx hb dX2_chainOf_2 rfl (lv_at hl 1 rfl) ?_
  refine x_get C0 hP (lay_X2 B ct S) rfl inG2 5 (by decide) wd_156 (fun _ h => h) rfl dX2_chainOf_3 ?_
  refine lv_iload_n hx hb dX2_chainOf_6 rfl (lv_at hl 2 rfl) ?_
  obtain ⟨g1, h⟩ := ob_gd h
  refine x_iald C0 hP ((fun S => lay_59 B ct S) S) g1 dX2_chainOf_7 ?_
  refine lv_istore_n (lv' := [(3, .int (gi S 59 v1.toNatClampNeg)), (2, .int 0), (0, .ref (B + 55)), (1, .int v1)]) hx hb dX2_chainOf_8 rfl hl (by decide) rfl (fun ls hl => ?_)
  refine lv_iconst (v := 0) hx hb dX2_chainOf_9 (by decide) ?_
  refine lv_istore (lv' := [(4, .int 0), (3, .int (gi S 59 v1.toNatClampNeg)), (2, .int 0), (0, .ref (B + 55)), (1, .int v1)]) hx hb dX2_chainOf_10 hl (by decide) rfl (fun ls hl => ?_)
  exact wl_X2_chainOf_12 l C0 S 1000 0 (gi S 59 v1.toNatClampNeg) 0 h hP hS (lv_sub hl [3, 2, 1, 0] rfl)
set_option maxRecDepth 100000 in
set_option maxHeartbeats 4000000 in
theorem c_X2_chainOf (l : Launch) (a1 : Int32) {D : va_G} {ct : Nat → ClassId} {B : Nat} {Hb : Heap} {S : St} {V : Int32} (h : L_X2_chainOf a1 S = some V) : Met l yX2_chainOf (Cond.code yX2_chainOf cX2_chainOf 5 (some .int) :: tG) { frames := 0, cells := 0, slots := 0, locals := 0 } (va_Pc [.ref (B + 55), .int a1] (MPK D ct B Hb S)) (qI D ct B Hb S V) 0 0 (AB B) := by
  refine mk_met (by decide +kernel) (Nat.le_of_ble_eq_true rfl) (fun p e s m args below meth c ls C0 hP hl _ => ?_)
  have h := ob_of h
  exact w_X2_chainOf_0 l C0 a1 S h hP va_S.rf (lv_sub hl [0, 1] rfl)
set_option maxRecDepth 100000 in
set_option maxHeartbeats 4000000 in
theorem w_X8_begin_12 (l : Launch) {V : St} (C0 : XC D ct p s m args meth c cX8_begin 4 none RX8) (w : Nat) (hw : isRow w) (n0 : Nat) (ih0 : ∀ (v3 : Int32) (S : St) (H : Heap) (locs : List Loc) (ls : Array Slot), (lp n0 (l_X8_begin_12 w) (v3, S)).bind some = some V → MP D ct B Hb S H → va_S (AB B) s.heap H locs → lv_has ls 4 [(0, .ref (B + w)), (3, .int v3)] → W p l e { frames := 0, cells := 0, slots := 0, locals := 0 } s m args below meth c H locs 0 0 (MQ below (qVw D ct B Hb V) args s 0 0 (AB B)) (F0 m 12 ls [])) (v3 : Int32) (S : St) {H : Heap} {locs : List Loc} {ls : Array Slot} (h : (b_X8_begin_12 w v3 S).bind (lpF n0 (l_X8_begin_12 w) some) = some V) (hP : MP D ct B Hb S H) (hS : va_S (AB B) s.heap H locs) (hl : lv_has ls 4 [(0, .ref (B + w)), (3, .int v3)]) : W p l e { frames := 0, cells := 0, slots := 0, locals := 0 } s m args below meth c H locs 0 0 (MQ below (qVw D ct B Hb V) args s 0 0 (AB B)) (F0 m 12 ls []) := by
  obtain ⟨hx, hb, hr, hml, hown, hts, hK, hlocks, hN⟩ := id C0
  unfold b_X8_begin_12 at h
  refine lv_iload_n hx hb dX8_begin_12 rfl (lv_at hl 1 rfl) ?_
  refine lv_bipush (v := 100) hx hb dX8_begin_13 (by decide) ?_
  refine lv_icmp_ge (tgt := 31) hx hb dX8_begin_15 (by decide) (fun z1 => ?_) (fun z1 => ?_)
  · have h := ob_t h z1
    exact r_Vw C0 hP hS h dX8_begin_31
  · have h := ob_f h z1
    refine lv_aload_n hx hb dX8_begin_18 rfl (lv_at hl 0 rfl) ?_
    refine x_get C0 hP (lay_X8 B ct S hw) rfl inG8 2 (by decide) wd_202 (fun _ h => h) rfl dX8_begin_19 ?_
    refine lv_iload_n hx hb dX8_begin_22 rfl (lv_at hl 1 rfl) ?_
    refine lv_iconst (v := 0) hx hb dX8_begin_23 (by decide) ?_
    obtain ⟨g2, h⟩ := ob_gd h
    obtain ⟨S3, eS3, h⟩ := ob_nm h
    refine x_iast C0 hP hS (fun S => lay_w1 B ct S hw) g2 dX8_begin_24 (fun H locs hP hS => ?_)
    rw [← eS3] at hP
    refine lv_iinc (v := v3 + 1) (lv' := [(3, .int (v3 + 1)), (0, .ref (B + w))]) hx hb dX8_begin_25 hl (k := 1) rfl rfl (by decide) rfl (fun ls hl => ?_)
    refine lv_goto (tgt := 12) hx hb dX8_begin_28 (by decide) ?_
    exact ih0 (v3 + 1) S3 _ _ _ h hP hS (lv_sub hl [1, 0] rfl)
set_option maxRecDepth 100000 in
set_option maxHeartbeats 4000000 in
theorem wl_X8_begin_12 (l : Launch) {V : St} (C0 : XC D ct p s m args meth c cX8_begin 4 none RX8) (w : Nat) (hw : isRow w)  : ∀ (n0 : Nat) (v3 : Int32) (S : St) {H : Heap} {locs : List Loc} {ls : Array Slot}, (lp n0 (l_X8_begin_12 w) (v3, S)).bind some = some V → MP D ct B Hb S H → va_S (AB B) s.heap H locs → lv_has ls 4 [(0, .ref (B + w)), (3, .int v3)] → W p l e { frames := 0, cells := 0, slots := 0, locals := 0 } s m args below meth c H locs 0 0 (MQ below (qVw D ct B Hb V) args s 0 0 (AB B)) (F0 m 12 ls []) := by
  intro n0
  induction n0 with
  | zero =>
    intro v3 S H locs ls h hP hS hl
    exact (lp_0 h).elim
  | succ n0 ih0 =>
    intro v3 S H locs ls h hP hS hl
    have h := lp_s h
    exact w_X8_begin_12 l C0 w hw n0 (fun v3 S H locs ls h hP hS hl => ih0 v3 S h hP hS hl) v3 S h hP hS hl
set_option maxRecDepth 100000 in
set_option maxHeartbeats 4000000 in
theorem w_X8_begin_0 (l : Launch) {V : St} (C0 : XC D ct p s m args meth c cX8_begin 4 none RX8) (w : Nat) (hw : isRow w) (v1 : Int32) (v2 : Int32) (S : St) {H : Heap} {locs : List Loc} {ls : Array Slot} (h : (b_X8_begin_0 w v1 v2 S).bind some = some V) (hP : MP D ct B Hb S H) (hS : va_S (AB B) s.heap H locs) (hl : lv_has ls 4 [(0, .ref (B + w)), (1, .int v1), (2, .int v2)]) : W p l e { frames := 0, cells := 0, slots := 0, locals := 0 } s m args below meth c H locs 0 0 (MQ below (qVw D ct B Hb V) args s 0 0 (AB B)) (F0 m 0 ls []) := by
  obtain ⟨hx, hb, hr, hml, hown, hts, hK, hlocks, hN⟩ := id C0
  unfold b_X8_begin_0 at h
  refine lv_aload_n hx hb dX8_begin_0 rfl (lv_at hl 0 rfl) ?_
  refine lv_iload_n hx hb dX8_begin_1 rfl (lv_at hl 1 rfl) ?_
  obtain ⟨S1, eS1, h⟩ := ob_nm h
  refine x_put (S' := si S w 0 v1) (FS := (fs8 B w)) C0 hP hS (fun S => lay_X8 B ct S hw) rfl inG8 tyX8 tyX8_ok nmX8 0 (by decide) wd_198 rfl rfl (fun a ha => lay_local (gi_si_n _ _ _ ha) rfl rfl rfl) (put_8_0 B w _ _) rfl rfl (Nat.le_of_ble_eq_true rfl) dX8_begin_2 (fun H locs hP hS => ?_)
  rw [← eS1] at hP
  refine lv_aload_n hx hb dX8_begin_5 rfl (lv_at hl 0 rfl) ?_
  refine lv_iload_n hx hb dX8_begin_6 rfl (lv_at hl 2 rfl) ?_
  obtain ⟨S2, eS2, h⟩ := ob_nm h
  refine x_put (S' := si S1 w 1 v2) (FS := (fs8 B w)) C0 hP hS (fun S => lay_X8 B ct S hw) rfl inG8 tyX8 tyX8_ok nmX8 1 (by decide) wd_200 rfl rfl (fun a ha => lay_local (gi_si_n _ _ _ ha) rfl rfl rfl) (put_8_1 B w _ _) rfl rfl (Nat.le_of_ble_eq_true rfl) dX8_begin_7 (fun H locs hP hS => ?_)
  rw [← eS2] at hP
  refine lv_iconst (v := 0) hx hb dX8_begin_10 (by decide) ?_
  refine lv_istore_n (lv' := [(3, .int 0), (0, .ref (B + w)), (1, .int v1), (2, .int v2)]) hx hb dX8_begin_11 rfl hl (by decide) rfl (fun ls hl => ?_)
  exact wl_X8_begin_12 l C0 w hw 1000 0 S2 h hP hS (lv_sub hl [1, 0] rfl)
set_option maxRecDepth 100000 in
set_option maxHeartbeats 4000000 in
theorem c_X8_begin (l : Launch) (w : Nat) (hw : isRow w) (a1 : Int32) (a2 : Int32) {D : va_G} {ct : Nat → ClassId} {B : Nat} {Hb : Heap} {S : St} {V : St} (h : L_X8_begin w a1 a2 S = some V) : Met l yX8_begin (Cond.code yX8_begin cX8_begin 4 none :: tG) { frames := 0, cells := 0, slots := 0, locals := 0 } (va_Pc [.ref (B + w), .int a1, .int a2] (MPK D ct B Hb S)) (qVw D ct B Hb V) 0 0 (AB B) := by
  refine mk_met (by decide +kernel) (Nat.le_of_ble_eq_true rfl) (fun p e s m args below meth c ls C0 hP hl _ => ?_)
  have h := ob_of h
  exact w_X8_begin_0 l C0 w hw a1 a2 S h hP va_S.rf (lv_sub hl [0, 1, 2] rfl)
set_option maxRecDepth 100000 in
set_option maxHeartbeats 4000000 in
theorem w_X8_hasPlaces_30 (l : Launch) {V : Int32} (C0 : XC D ct p s m args meth c cX8_hasPlaces 3 (some .boolean) RX8) (w : Nat) (hw : isRow w) (S : St) {H : Heap} {locs : List Loc} {ls : Array Slot} (h : (b_X8_hasPlaces_30 w S).bind some = some V) (hP : MP D ct B Hb S H) (hS : va_S (AB B) s.heap H locs) (hl : lv_has ls 3 []) : W p l e { frames := 0, cells := 0, slots := 0, locals := 0 } s m args below meth c H locs 0 0 (MQ below (qI D ct B Hb S V) args s 0 0 (AB B)) (F0 m 30 ls []) := by
  obtain ⟨hx, hb, hr, hml, hown, hts, hK, hlocks, hN⟩ := id C0
  unfold b_X8_hasPlaces_30 at h
  refine lv_iconst (v := 0) hx hb dX8_hasPlaces_30 (by decide) ?_
  exact r_Z C0 hP hS bool_0 h dX8_hasPlaces_31
set_option maxRecDepth 100000 in
set_option maxHeartbeats 4000000 in
theorem w_X8_hasPlaces_0 (l : Launch) {V : Int32} (C0 : XC D ct p s m args meth c cX8_hasPlaces 3 (some .boolean) RX8) (w : Nat) (hw : isRow w) (v1 : Int32) (v2 : Int32) (S : St) {H : Heap} {locs : List Loc} {ls : Array Slot} (h : (b_X8_hasPlaces_0 w v1 v2 S).bind some = some V) (hP : MP D ct B Hb S H) (hS : va_S (AB B) s.heap H locs) (hl : lv_has ls 3 [(0, .ref (B + w)), (1, .int v1), (2, .int v2)]) : W p l e { frames := 0, cells := 0, slots := 0, locals := 0 } s m args below meth c H locs 0 0 (MQ below (qI D ct B Hb S V) args s 0 0 (AB B)) (F0 m 0 ls []) := by
  obtain ⟨hx, hb, hr, hml, hown, hts, hK, hlocks, hN⟩ := id C0
  unfold b_X8_hasPlaces_0 at h
  refine lv_iload_n hx hb dX8_hasPlaces_0 rfl (lv_at hl 1 rfl) ?_
  refine lv_if_lt (tgt := 30) hx hb dX8_hasPlaces_1 (by decide) (fun z1 => ?_) (fun z1 => ?_)
  · have h := ob_t h z1
    exact w_X8_hasPlaces_30 l C0 w hw S h hP hS (lv_sub hl [] rfl)
  · have h := ob_f h z1
    refine lv_iload_n hx hb dX8_hasPlaces_4 rfl (lv_at hl 2 rfl) ?_
    refine lv_if_lt (tgt := 30) hx hb dX8_hasPlaces_5 (by decide) (fun z2 => ?_) (fun z2 => ?_)
    · have h := ob_t h z2
      exact w_X8_hasPlaces_30 l C0 w hw S h hP hS (lv_sub hl [] rfl)
    · have h := ob_f h z2
      refine lv_iload_n hx hb dX8_hasPlaces_8 rfl (lv_at hl 1 rfl) ?_
      refine lv_aload_n hx hb dX8_hasPlaces_9 rfl (lv_at hl 0 rfl) ?_
      refine x_get C0 hP (lay_X8 B ct S hw) rfl inG8 1 (by decide) wd_200 (fun _ h => h) rfl dX8_hasPlaces_10 ?_
      refine lv_icmp_gt (tgt := 30) hx hb dX8_hasPlaces_13 (by decide) (fun z3 => ?_) (fun z3 => ?_)
      · have h := ob_t h z3
        exact w_X8_hasPlaces_30 l C0 w hw S h hP hS (lv_sub hl [] rfl)
      · have h := ob_f h z3
        refine lv_iload_n hx hb dX8_hasPlaces_16 rfl (lv_at hl 2 rfl) ?_
        refine lv_aload_n hx hb dX8_hasPlaces_17 rfl (lv_at hl 0 rfl) ?_
        refine x_get C0 hP (lay_X8 B ct S hw) rfl inG8 1 (by decide) wd_200 (fun _ h => h) rfl dX8_hasPlaces_18 ?_
        refine lv_iload_n hx hb dX8_hasPlaces_21 rfl (lv_at hl 1 rfl) ?_
        refine lv_isub hx hb dX8_hasPlaces_22 ?_
        refine lv_icmp_gt (tgt := 30) hx hb dX8_hasPlaces_23 (by decide) (fun z4 => ?_) (fun z4 => ?_)
        · have h := ob_t h z4
          exact w_X8_hasPlaces_30 l C0 w hw S h hP hS (lv_sub hl [] rfl)
        · have h := ob_f h z4
          refine lv_iconst (v := 1) hx hb dX8_hasPlaces_26 (by decide) ?_
          refine lv_goto (tgt := 31) hx hb dX8_hasPlaces_27 (by decide) ?_
          exact r_Z C0 hP hS bool_1 h dX8_hasPlaces_31
set_option maxRecDepth 100000 in
set_option maxHeartbeats 4000000 in
theorem c_X8_hasPlaces (l : Launch) (w : Nat) (hw : isRow w) (a1 : Int32) (a2 : Int32) {D : va_G} {ct : Nat → ClassId} {B : Nat} {Hb : Heap} {S : St} {V : Int32} (h : L_X8_hasPlaces w a1 a2 S = some V) : Met l yX8_hasPlaces (Cond.code yX8_hasPlaces cX8_hasPlaces 3 (some .boolean) :: tG) { frames := 0, cells := 0, slots := 0, locals := 0 } (va_Pc [.ref (B + w), .int a1, .int a2] (MPK D ct B Hb S)) (qI D ct B Hb S V) 0 0 (AB B) := by
  refine mk_met (by decide +kernel) (Nat.le_of_ble_eq_true rfl) (fun p e s m args below meth c ls C0 hP hl _ => ?_)
  have h := ob_of h
  exact w_X8_hasPlaces_0 l C0 w hw a1 a2 S h hP va_S.rf (lv_sub hl [0, 1, 2] rfl)
set_option maxRecDepth 100000 in
set_option maxHeartbeats 4000000 in
theorem w_X8_at_0 (l : Launch) {V : Int32} (C0 : XC D ct p s m args meth c cX8_at 2 (some .int) RX8) (w : Nat) (hw : isRow w) (v1 : Int32) (S : St) {H : Heap} {locs : List Loc} {ls : Array Slot} (h : (b_X8_at_0 w v1 S).bind some = some V) (hP : MP D ct B Hb S H) (hS : va_S (AB B) s.heap H locs) (hl : lv_has ls 2 [(0, .ref (B + w)), (1, .int v1)]) : W p l e { frames := 1, cells := 0, slots := 0, locals := 22 } s m args below meth c H locs 0 0 (MQ below (qI D ct B Hb S V) args s 0 0 (AB B)) (F0 m 0 ls []) := by
  obtain ⟨hx, hb, hr, hml, hown, hts, hK, hlocks, hN⟩ := id C0
  unfold b_X8_at_0 at h
  refine lv_aload_n hx hb dX8_at_0 rfl (lv_at hl 0 rfl) ?_
  refine lv_iload_n hx hb dX8_at_1 rfl (lv_at hl 1 rfl) ?_
  refine lv_iconst (v := 1) hx hb dX8_at_2 (by decide) ?_
  obtain ⟨r1, hr1, h⟩ := ob_bd h
  refine n_I (kV (As := [.int v1, .int 1]) C0 (c_X8_hasPlaces l w hw v1 1 hr1) ⟨wd_477, wd_482, wd_475, wd_476, wd_5⟩ kd_X8_hasPlaces ⟨Nat.le_of_ble_eq_true rfl, Nat.le_of_ble_eq_true rfl⟩ hP (lay_X8 B ct S hw) rfl rfl hl.1 rfl (Nat.le_of_ble_eq_true rfl) dX8_at_3 ⟨Nat.le_of_ble_eq_true rfl, Nat.le_of_ble_eq_true rfl⟩) hS (fun H locs hP hS => ?_)
  refine lv_if_eq (tgt := 18) hx hb dX8_at_6 (by decide) (fun z2 => ?_) (fun z2 => ?_)
  · have h := ob_t h z2
    refine lv_iconst (v := 0) hx hb dX8_at_18 (by decide) ?_
    exact r_I C0 hP hS h dX8_at_19
  · have h := ob_f h z2
    refine lv_aload_n hx hb dX8_at_9 rfl (lv_at hl 0 rfl) ?_
    refine x_get C0 hP (lay_X8 B ct S hw) rfl inG8 2 (by decide) wd_202 (fun _ h => h) rfl dX8_at_10 ?_
    refine lv_iload_n hx hb dX8_at_13 rfl (lv_at hl 1 rfl) ?_
    obtain ⟨g3, h⟩ := ob_gd h
    refine x_iald C0 hP ((fun S => lay_w1 B ct S hw) S) g3 dX8_at_14 ?_
    refine lv_goto (tgt := 19) hx hb dX8_at_15 (by decide) ?_
    exact r_I C0 hP hS h dX8_at_19
set_option maxRecDepth 100000 in
set_option maxHeartbeats 4000000 in
theorem c_X8_at (l : Launch) (w : Nat) (hw : isRow w) (a1 : Int32) {D : va_G} {ct : Nat → ClassId} {B : Nat} {Hb : Heap} {S : St} {V : Int32} (h : L_X8_at w a1 S = some V) : Met l yX8_at (Cond.code yX8_at cX8_at 2 (some .int) :: tG) { frames := 1, cells := 0, slots := 0, locals := 22 } (va_Pc [.ref (B + w), .int a1] (MPK D ct B Hb S)) (qI D ct B Hb S V) 0 0 (AB B) := by
  refine mk_met (by decide +kernel) (Nat.le_of_ble_eq_true rfl) (fun p e s m args below meth c ls C0 hP hl _ => ?_)
  have h := ob_of h
  exact w_X8_at_0 l C0 w hw a1 S h hP va_S.rf (lv_sub hl [0, 1] rfl)
set_option maxRecDepth 100000 in
set_option maxHeartbeats 4000000 in
theorem w_X8_write_40 (l : Launch) {V : St} (C0 : XC D ct p s m args meth c cX8_write 3 none RX8) (w : Nat) (hw : isRow w) (s0 : Int32) (s1 : Int32) (S : St) {H : Heap} {locs : List Loc} {ls : Array Slot} (h : (b_X8_write_40 w s0 s1 S).bind some = some V) (hP : MP D ct B Hb S H) (hS : va_S (AB B) s.heap H locs) (hl : lv_has ls 3 []) : W p l e { frames := 1, cells := 0, slots := 0, locals := 22 } s m args below meth c H locs 0 0 (MQ below (qVw D ct B Hb V) args s 0 0 (AB B)) (F0 m 40 ls [.int s0, .int s1, .ref (B + (w + 1))]) := by
  obtain ⟨hx, hb, hr, hml, hown, hts, hK, hlocks, hN⟩ := id C0
  unfold b_X8_write_40 at h
  obtain ⟨g1, h⟩ := ob_gd h
  obtain ⟨S2, eS2, h⟩ := ob_nm h
  refine x_iast C0 hP hS (fun S => lay_w1 B ct S hw) g1 dX8_write_40 (fun H locs hP hS => ?_)
  rw [← eS2] at hP
  exact r_Vw C0 hP hS h dX8_write_41
set_option maxRecDepth 100000 in
set_option maxHeartbeats 4000000 in
theorem w_X8_write_0 (l : Launch) {V : St} (C0 : XC D ct p s m args meth c cX8_write 3 none RX8) (w : Nat) (hw : isRow w) (v1 : Int32) (v2 : Int32) (S : St) {H : Heap} {locs : List Loc} {ls : Array Slot} (h : (b_X8_write_0 w v1 v2 S).bind some = some V) (hP : MP D ct B Hb S H) (hS : va_S (AB B) s.heap H locs) (hl : lv_has ls 3 [(0, .ref (B + w)), (1, .int v1), (2, .int v2)]) : W p l e { frames := 1, cells := 0, slots := 0, locals := 22 } s m args below meth c H locs 0 0 (MQ below (qVw D ct B Hb V) args s 0 0 (AB B)) (F0 m 0 ls []) := by
  obtain ⟨hx, hb, hr, hml, hown, hts, hK, hlocks, hN⟩ := id C0
  unfold b_X8_write_0 at h
  refine lv_aload_n hx hb dX8_write_0 rfl (lv_at hl 0 rfl) ?_
  refine lv_iload_n hx hb dX8_write_1 rfl (lv_at hl 1 rfl) ?_
  refine lv_iconst (v := 1) hx hb dX8_write_2 (by decide) ?_
  obtain ⟨r1, hr1, h⟩ := ob_bd h
  refine n_I (kV (As := [.int v1, .int 1]) C0 (c_X8_hasPlaces l w hw v1 1 hr1) ⟨wd_477, wd_482, wd_475, wd_476, wd_5⟩ kd_X8_hasPlaces ⟨Nat.le_of_ble_eq_true rfl, Nat.le_of_ble_eq_true rfl⟩ hP (lay_X8 B ct S hw) rfl rfl hl.1 rfl (Nat.le_of_ble_eq_true rfl) dX8_write_3 ⟨Nat.le_of_ble_eq_true rfl, Nat.le_of_ble_eq_true rfl⟩) hS (fun H locs hP hS => ?_)
  refine lv_if_eq (tgt := 41) hx hb dX8_write_6 (by decide) (fun z2 => ?_) (fun z2 => ?_)
  · have h := ob_t h z2
    exact r_Vw C0 hP hS h dX8_write_41
  · have h := ob_f h z2
    refine lv_aload_n hx hb dX8_write_9 rfl (lv_at hl 0 rfl) ?_
    refine x_get C0 hP (lay_X8 B ct S hw) rfl inG8 2 (by decide) wd_202 (fun _ h => h) rfl dX8_write_10 ?_
    refine lv_iload_n hx hb dX8_write_13 rfl (lv_at hl 1 rfl) ?_
    refine lv_aload_n hx hb dX8_write_14 rfl (lv_at hl 0 rfl) ?_
    refine x_get C0 hP (lay_X8 B ct S hw) rfl inG8 0 (by decide) wd_198 (fun _ h => h) rfl dX8_write_15 ?_
    refine lv_if_ne (tgt := 26) hx hb dX8_write_18 (by decide) (fun z3 => ?_) (fun z3 => ?_)
    · have h := ob_f h z3
      refine lv_aload_n hx hb dX8_write_26 rfl (lv_at hl 0 rfl) ?_
      refine x_get C0 hP (lay_X8 B ct S hw) rfl inG8 0 (by decide) wd_198 (fun _ h => h) rfl dX8_write_27 ?_
      refine lv_iconst (v := 1) hx hb dX8_write_30 (by decide) ?_
      refine lv_icmp_ne (tgt := 39) hx hb dX8_write_31 (by decide) (fun z4 => ?_) (fun z4 => ?_)
      · have h := ob_f h z4
        refine lv_iload_n hx hb dX8_write_39 rfl (lv_at hl 2 rfl) ?_
        exact w_X8_write_40 l C0 w hw v2 v1 S h hP hS (lv_sub hl [] rfl)
      · have h := ob_t h z4
        refine lv_iload_n hx hb dX8_write_34 rfl (lv_at hl 2 rfl) ?_
        refine lv_i2s hx hb dX8_write_35 rfl ?_
        refine lv_goto (tgt := 40) hx hb dX8_write_36 (by decide) ?_
        exact w_X8_write_40 l C0 w hw v2.toInt16.toInt32 v1 S h hP hS (lv_sub hl [] rfl)
    · have h := ob_t h z3
      refine lv_iload_n hx hb dX8_write_21 rfl (lv_at hl 2 rfl) ?_
      refine lv_i2b hx hb dX8_write_22 rfl ?_
      refine lv_goto (tgt := 40) hx hb dX8_write_23 (by decide) ?_
      exact w_X8_write_40 l C0 w hw v2.toInt8.toInt32 v1 S h hP hS (lv_sub hl [] rfl)
set_option maxRecDepth 100000 in
set_option maxHeartbeats 4000000 in
theorem c_X8_write (l : Launch) (w : Nat) (hw : isRow w) (a1 : Int32) (a2 : Int32) {D : va_G} {ct : Nat → ClassId} {B : Nat} {Hb : Heap} {S : St} {V : St} (h : L_X8_write w a1 a2 S = some V) : Met l yX8_write (Cond.code yX8_write cX8_write 3 none :: tG) { frames := 1, cells := 0, slots := 0, locals := 22 } (va_Pc [.ref (B + w), .int a1, .int a2] (MPK D ct B Hb S)) (qVw D ct B Hb V) 0 0 (AB B) := by
  refine mk_met (by decide +kernel) (Nat.le_of_ble_eq_true rfl) (fun p e s m args below meth c ls C0 hP hl _ => ?_)
  have h := ob_of h
  exact w_X8_write_0 l C0 w hw a1 a2 S h hP va_S.rf (lv_sub hl [0, 1, 2] rfl)
set_option maxRecDepth 100000 in
set_option maxHeartbeats 4000000 in
theorem w_X8_digitAt_0 (l : Launch) {V : Int32} (C0 : XC D ct p s m args meth c cX8_digitAt 2 (some .int) RX8) (w : Nat) (hw : isRow w) (v1 : Int32) (S : St) {H : Heap} {locs : List Loc} {ls : Array Slot} (h : (b_X8_digitAt_0 w v1 S).bind some = some V) (hP : MP D ct B Hb S H) (hS : va_S (AB B) s.heap H locs) (hl : lv_has ls 2 [(0, .ref (B + w)), (1, .int v1)]) : W p l e { frames := 2, cells := 0, slots := 0, locals := 43 } s m args below meth c H locs 0 0 (MQ below (qI D ct B Hb S V) args s 0 0 (AB B)) (F0 m 0 ls []) := by
  obtain ⟨hx, hb, hr, hml, hown, hts, hK, hlocks, hN⟩ := id C0
  unfold b_X8_digitAt_0 at h
  refine lv_aload_n hx hb dX8_digitAt_0 rfl (lv_at hl 0 rfl) ?_
  refine lv_iload_n hx hb dX8_digitAt_1 rfl (lv_at hl 1 rfl) ?_
  obtain ⟨r1, hr1, h⟩ := ob_bd h
  refine n_I (kV (As := [.int v1]) C0 (c_X8_at l w hw v1 hr1) ⟨wd_504, wd_577, wd_502, wd_503, wd_5⟩ kd_X8_at ⟨Nat.le_of_ble_eq_true rfl, Nat.le_of_ble_eq_true rfl⟩ hP (lay_X8 B ct S hw) rfl rfl hl.1 rfl (Nat.le_of_ble_eq_true rfl) dX8_digitAt_2 ⟨Nat.le_of_ble_eq_true rfl, Nat.le_of_ble_eq_true rfl⟩) hS (fun H locs hP hS => ?_)
  refine lv_bipush (v := 48) hx hb dX8_digitAt_5 (by decide) ?_
  refine lv_isub hx hb dX8_digitAt_7 ?_
  exact r_I C0 hP hS h dX8_digitAt_8
set_option maxRecDepth 100000 in
set_option maxHeartbeats 4000000 in
theorem c_X8_digitAt (l : Launch) (w : Nat) (hw : isRow w) (a1 : Int32) {D : va_G} {ct : Nat → ClassId} {B : Nat} {Hb : Heap} {S : St} {V : Int32} (h : L_X8_digitAt w a1 S = some V) : Met l yX8_digitAt (Cond.code yX8_digitAt cX8_digitAt 2 (some .int) :: tG) { frames := 2, cells := 0, slots := 0, locals := 43 } (va_Pc [.ref (B + w), .int a1] (MPK D ct B Hb S)) (qI D ct B Hb S V) 0 0 (AB B) := by
  refine mk_met (by decide +kernel) (Nat.le_of_ble_eq_true rfl) (fun p e s m args below meth c ls C0 hP hl _ => ?_)
  have h := ob_of h
  exact w_X8_digitAt_0 l C0 w hw a1 S h hP va_S.rf (lv_sub hl [0, 1] rfl)
set_option maxRecDepth 100000 in
set_option maxHeartbeats 4000000 in
theorem w_X8_pairAt_0 (l : Launch) {V : Int32} (C0 : XC D ct p s m args meth c cX8_pairAt 2 (some .int) RX8) (w : Nat) (hw : isRow w) (v1 : Int32) (S : St) {H : Heap} {locs : List Loc} {ls : Array Slot} (h : (b_X8_pairAt_0 w v1 S).bind some = some V) (hP : MP D ct B Hb S H) (hS : va_S (AB B) s.heap H locs) (hl : lv_has ls 2 [(0, .ref (B + w)), (1, .int v1)]) : W p l e { frames := 3, cells := 0, slots := 0, locals := 64 } s m args below meth c H locs 0 0 (MQ below (qI D ct B Hb S V) args s 0 0 (AB B)) (F0 m 0 ls []) := by
  obtain ⟨hx, hb, hr, hml, hown, hts, hK, hlocks, hN⟩ := id C0
  unfold b_X8_pairAt_0 at h
  refine lv_bipush (v := 10) hx hb dX8_pairAt_0 (by decide) ?_
  refine lv_aload_n hx hb dX8_pairAt_2 rfl (lv_at hl 0 rfl) ?_
  refine lv_iload_n hx hb dX8_pairAt_3 rfl (lv_at hl 1 rfl) ?_
  obtain ⟨r1, hr1, h⟩ := ob_bd h
  refine n_I (kV (As := [.int v1]) C0 (c_X8_digitAt l w hw v1 hr1) ⟨wd_576, wd_586, wd_574, wd_575, wd_5⟩ kd_X8_digitAt ⟨Nat.le_of_ble_eq_true rfl, Nat.le_of_ble_eq_true rfl⟩ hP (lay_X8 B ct S hw) rfl rfl hl.1 rfl (Nat.le_of_ble_eq_true rfl) dX8_pairAt_4 ⟨Nat.le_of_ble_eq_true rfl, Nat.le_of_ble_eq_true rfl⟩) hS (fun H locs hP hS => ?_)
  refine lv_imul hx hb dX8_pairAt_7 ?_
  refine lv_aload_n hx hb dX8_pairAt_8 rfl (lv_at hl 0 rfl) ?_
  refine lv_iload_n hx hb dX8_pairAt_9 rfl (lv_at hl 1 rfl) ?_
  refine lv_iconst (v := 1) hx hb dX8_pairAt_10 (by decide) ?_
  refine lv_iadd hx hb dX8_pairAt_11 ?_
  obtain ⟨r2, hr2, h⟩ := ob_bd h
  refine n_I (kV (As := [.int (v1 + 1)]) C0 (c_X8_digitAt l w hw (v1 + 1) hr2) ⟨wd_576, wd_586, wd_574, wd_575, wd_5⟩ kd_X8_digitAt ⟨Nat.le_of_ble_eq_true rfl, Nat.le_of_ble_eq_true rfl⟩ hP (lay_X8 B ct S hw) rfl rfl hl.1 rfl (Nat.le_of_ble_eq_true rfl) dX8_pairAt_12 ⟨Nat.le_of_ble_eq_true rfl, Nat.le_of_ble_eq_true rfl⟩) hS (fun H locs hP hS => ?_)
  refine lv_iadd hx hb dX8_pairAt_15 ?_
  exact r_I C0 hP hS h dX8_pairAt_16
set_option maxRecDepth 100000 in
set_option maxHeartbeats 4000000 in
theorem c_X8_pairAt (l : Launch) (w : Nat) (hw : isRow w) (a1 : Int32) {D : va_G} {ct : Nat → ClassId} {B : Nat} {Hb : Heap} {S : St} {V : Int32} (h : L_X8_pairAt w a1 S = some V) : Met l yX8_pairAt (Cond.code yX8_pairAt cX8_pairAt 2 (some .int) :: tG) { frames := 3, cells := 0, slots := 0, locals := 64 } (va_Pc [.ref (B + w), .int a1] (MPK D ct B Hb S)) (qI D ct B Hb S V) 0 0 (AB B) := by
  refine mk_met (by decide +kernel) (Nat.le_of_ble_eq_true rfl) (fun p e s m args below meth c ls C0 hP hl _ => ?_)
  have h := ob_of h
  exact w_X8_pairAt_0 l C0 w hw a1 S h hP va_S.rf (lv_sub hl [0, 1] rfl)
set_option maxRecDepth 100000 in
set_option maxHeartbeats 4000000 in
theorem w_X8_signAt_0 (l : Launch) {V : Int32} (C0 : XC D ct p s m args meth c cX8_signAt 2 (some .int) RX8) (w : Nat) (hw : isRow w) (v1 : Int32) (S : St) {H : Heap} {locs : List Loc} {ls : Array Slot} (h : (b_X8_signAt_0 w v1 S).bind some = some V) (hP : MP D ct B Hb S H) (hS : va_S (AB B) s.heap H locs) (hl : lv_has ls 2 [(0, .ref (B + w)), (1, .int v1)]) : W p l e { frames := 2, cells := 0, slots := 0, locals := 43 } s m args below meth c H locs 0 0 (MQ below (qI D ct B Hb S V) args s 0 0 (AB B)) (F0 m 0 ls []) := by
  obtain ⟨hx, hb, hr, hml, hown, hts, hK, hlocks, hN⟩ := id C0
  unfold b_X8_signAt_0 at h
  refine lv_aload_n hx hb dX8_signAt_0 rfl (lv_at hl 0 rfl) ?_
  refine lv_iload_n hx hb dX8_signAt_1 rfl (lv_at hl 1 rfl) ?_
  obtain ⟨r1, hr1, h⟩ := ob_bd h
  refine n_I (kV (As := [.int v1]) C0 (c_X8_at l w hw v1 hr1) ⟨wd_504, wd_577, wd_502, wd_503, wd_5⟩ kd_X8_at ⟨Nat.le_of_ble_eq_true rfl, Nat.le_of_ble_eq_true rfl⟩ hP (lay_X8 B ct S hw) rfl rfl hl.1 rfl (Nat.le_of_ble_eq_true rfl) dX8_signAt_2 ⟨Nat.le_of_ble_eq_true rfl, Nat.le_of_ble_eq_true rfl⟩) hS (fun H locs hP hS => ?_)
  refine lv_bipush (v := 45) hx hb dX8_signAt_5 (by decide) ?_
  refine lv_icmp_ne (tgt := 14) hx hb dX8_signAt_7 (by decide) (fun z2 => ?_) (fun z2 => ?_)
  · have h := ob_f h z2
    refine lv_iconst (v := 1) hx hb dX8_signAt_14 (by decide) ?_
    exact r_I C0 hP hS h dX8_signAt_15
  · have h := ob_t h z2
    refine lv_iconst (v := (-1)) hx hb dX8_signAt_10 (by decide) ?_
    refine lv_goto (tgt := 15) hx hb dX8_signAt_11 (by decide) ?_
    exact r_I C0 hP hS h dX8_signAt_15
set_option maxRecDepth 100000 in
set_option maxHeartbeats 4000000 in
theorem c_X8_signAt (l : Launch) (w : Nat) (hw : isRow w) (a1 : Int32) {D : va_G} {ct : Nat → ClassId} {B : Nat} {Hb : Heap} {S : St} {V : Int32} (h : L_X8_signAt w a1 S = some V) : Met l yX8_signAt (Cond.code yX8_signAt cX8_signAt 2 (some .int) :: tG) { frames := 2, cells := 0, slots := 0, locals := 43 } (va_Pc [.ref (B + w), .int a1] (MPK D ct B Hb S)) (qI D ct B Hb S V) 0 0 (AB B) := by
  refine mk_met (by decide +kernel) (Nat.le_of_ble_eq_true rfl) (fun p e s m args below meth c ls C0 hP hl _ => ?_)
  have h := ob_of h
  exact w_X8_signAt_0 l C0 w hw a1 S h hP va_S.rf (lv_sub hl [0, 1] rfl)
set_option maxRecDepth 100000 in
set_option maxHeartbeats 4000000 in
theorem w_X8_signedAt_0 (l : Launch) {V : Int32} (C0 : XC D ct p s m args meth c cX8_signedAt 2 (some .int) RX8) (w : Nat) (hw : isRow w) (v1 : Int32) (S : St) {H : Heap} {locs : List Loc} {ls : Array Slot} (h : (b_X8_signedAt_0 w v1 S).bind some = some V) (hP : MP D ct B Hb S H) (hS : va_S (AB B) s.heap H locs) (hl : lv_has ls 2 [(0, .ref (B + w)), (1, .int v1)]) : W p l e { frames := 3, cells := 0, slots := 0, locals := 64 } s m args below meth c H locs 0 0 (MQ below (qI D ct B Hb S V) args s 0 0 (AB B)) (F0 m 0 ls []) := by
  obtain ⟨hx, hb, hr, hml, hown, hts, hK, hlocks, hN⟩ := id C0
  unfold b_X8_signedAt_0 at h
  refine lv_aload_n hx hb dX8_signedAt_0 rfl (lv_at hl 0 rfl) ?_
  refine lv_iload_n hx hb dX8_signedAt_1 rfl (lv_at hl 1 rfl) ?_
  obtain ⟨r1, hr1, h⟩ := ob_bd h
  refine n_I (kV (As := [.int v1]) C0 (c_X8_signAt l w hw v1 hr1) ⟨wd_585, wd_582, wd_583, wd_584, wd_5⟩ kd_X8_signAt ⟨Nat.le_of_ble_eq_true rfl, Nat.le_of_ble_eq_true rfl⟩ hP (lay_X8 B ct S hw) rfl rfl hl.1 rfl (Nat.le_of_ble_eq_true rfl) dX8_signedAt_2 ⟨Nat.le_of_ble_eq_true rfl, Nat.le_of_ble_eq_true rfl⟩) hS (fun H locs hP hS => ?_)
  refine lv_aload_n hx hb dX8_signedAt_5 rfl (lv_at hl 0 rfl) ?_
  refine lv_iload_n hx hb dX8_signedAt_6 rfl (lv_at hl 1 rfl) ?_
  refine lv_iconst (v := 1) hx hb dX8_signedAt_7 (by decide) ?_
  refine lv_iadd hx hb dX8_signedAt_8 ?_
  obtain ⟨r2, hr2, h⟩ := ob_bd h
  refine n_I (kV (As := [.int (v1 + 1)]) C0 (c_X8_digitAt l w hw (v1 + 1) hr2) ⟨wd_576, wd_586, wd_574, wd_575, wd_5⟩ kd_X8_digitAt ⟨Nat.le_of_ble_eq_true rfl, Nat.le_of_ble_eq_true rfl⟩ hP (lay_X8 B ct S hw) rfl rfl hl.1 rfl (Nat.le_of_ble_eq_true rfl) dX8_signedAt_9 ⟨Nat.le_of_ble_eq_true rfl, Nat.le_of_ble_eq_true rfl⟩) hS (fun H locs hP hS => ?_)
  refine lv_imul hx hb dX8_signedAt_12 ?_
  exact r_I C0 hP hS h dX8_signedAt_13
set_option maxRecDepth 100000 in
set_option maxHeartbeats 4000000 in
theorem c_X8_signedAt (l : Launch) (w : Nat) (hw : isRow w) (a1 : Int32) {D : va_G} {ct : Nat → ClassId} {B : Nat} {Hb : Heap} {S : St} {V : Int32} (h : L_X8_signedAt w a1 S = some V) : Met l yX8_signedAt (Cond.code yX8_signedAt cX8_signedAt 2 (some .int) :: tG) { frames := 3, cells := 0, slots := 0, locals := 64 } (va_Pc [.ref (B + w), .int a1] (MPK D ct B Hb S)) (qI D ct B Hb S V) 0 0 (AB B) := by
  refine mk_met (by decide +kernel) (Nat.le_of_ble_eq_true rfl) (fun p e s m args below meth c ls C0 hP hl _ => ?_)
  have h := ob_of h
  exact w_X8_signedAt_0 l C0 w hw a1 S h hP va_S.rf (lv_sub hl [0, 1] rfl)
set_option maxRecDepth 100000 in
set_option maxHeartbeats 4000000 in
theorem w_X10_become_162 (l : Launch) {V : St} (C0 : XC D ct p s m args meth c cX10_become 3 none RX10) (t : Nat) (u1 : Nat) (ht : isTown t) (hu1 : isTown u1) (n0 : Nat) (ih0 : ∀ (v2 : Int32) (S : St) (H : Heap) (locs : List Loc) (ls : Array Slot), (lp n0 (l_X10_become_162 t u1) (v2, S)).bind some = some V → MP D ct B Hb S H → va_S (AB B) s.heap H locs → lv_has ls 3 [(0, .ref (B + t)), (1, .ref (B + u1)), (2, .int v2)] → W p l e { frames := 1, cells := 0, slots := 0, locals := 54 } s m args below meth c H locs 0 0 (MQ below (qVw D ct B Hb V) args s 0 0 (AB B)) (F0 m 162 ls [])) (v2 : Int32) (S : St) {H : Heap} {locs : List Loc} {ls : Array Slot} (h : (b_X10_become_162 t u1 v2 S).bind (lpF n0 (l_X10_become_162 t u1) some) = some V) (hP : MP D ct B Hb S H) (hS : va_S (AB B) s.heap H locs) (hl : lv_has ls 3 [(0, .ref (B + t)), (1, .ref (B + u1)), (2, .int v2)]) : W p l e { frames := 1, cells := 0, slots := 0, locals := 54 } s m args below meth c H locs 0 0 (MQ below (qVw D ct B Hb V) args s 0 0 (AB B)) (F0 m 162 ls []) := by
  obtain ⟨hx, hb, hr, hml, hown, hts, hK, hlocks, hN⟩ := id C0
  unfold b_X10_become_162 at h
  refine lv_iload_n hx hb dX10_become_162 rfl (lv_at hl 2 rfl) ?_
  refine lv_iconst (v := 3) hx hb dX10_become_163 (by decide) ?_
  refine lv_icmp_ge (tgt := 233) hx hb dX10_become_164 (by decide) (fun z1 => ?_) (fun z1 => ?_)
  · have h := ob_t h z1
    refine lv_aload_n hx hb dX10_become_233 rfl (lv_at hl 1 rfl) ?_
    refine x_get C0 hP (lay_X10 B ct S hu1) rfl inG10 17 (by decide) wd_99 (fun _ h => h) rfl dX10_become_234 ?_
    refine lv_iconst (v := 0) hx hb dX10_become_237 (by decide) ?_
    refine lv_aload_n hx hb dX10_become_238 rfl (lv_at hl 0 rfl) ?_
    refine x_get C0 hP (lay_X10 B ct S ht) rfl inG10 17 (by decide) wd_99 (fun _ h => h) rfl dX10_become_239 ?_
    refine lv_iconst (v := 0) hx hb dX10_become_242 (by decide) ?_
    refine lv_iconst (v := 4) hx hb dX10_become_243 (by decide) ?_
    obtain ⟨g2, h⟩ := ob_gd h
    obtain ⟨S3, eS3, h⟩ := ob_nm h
    refine x_copyi C0 hP hS hl.1 ⟨wd_491, wd_493, wd_492, wd_13⟩ (fun S => lay_t16 B ct S hu1) (fun S => lay_t16 B ct S ht) g2 (Nat.le_of_ble_eq_true rfl) (Nat.le_trans (Nat.add_le_add_left cpy_room _) (Nat.le_of_ble_eq_true rfl)) dX10_become_244 (fun H locs hP hS => ?_)
    rw [← eS3] at hP
    refine lv_aload_n hx hb dX10_become_247 rfl (lv_at hl 1 rfl) ?_
    refine x_get C0 hP (lay_X10 B ct S3 hu1) rfl inG10 18 (by decide) wd_100 (fun _ h => h) rfl dX10_become_248 ?_
    refine lv_iconst (v := 0) hx hb dX10_become_251 (by decide) ?_
    refine lv_aload_n hx hb dX10_become_252 rfl (lv_at hl 0 rfl) ?_
    refine x_get C0 hP (lay_X10 B ct S3 ht) rfl inG10 18 (by decide) wd_100 (fun _ h => h) rfl dX10_become_253 ?_
    refine lv_iconst (v := 0) hx hb dX10_become_256 (by decide) ?_
    refine lv_iconst (v := 3) hx hb dX10_become_257 (by decide) ?_
    obtain ⟨g4, h⟩ := ob_gd h
    obtain ⟨S5, eS5, h⟩ := ob_nm h
    refine x_copyi C0 hP hS hl.1 ⟨wd_491, wd_493, wd_492, wd_13⟩ (fun S => lay_t17 B ct S hu1) (fun S => lay_t17 B ct S ht) g4 (Nat.le_of_ble_eq_true rfl) (Nat.le_trans (Nat.add_le_add_left cpy_room _) (Nat.le_of_ble_eq_true rfl)) dX10_become_258 (fun H locs hP hS => ?_)
    rw [← eS5] at hP
    exact r_Vw C0 hP hS h dX10_become_261
  · have h := ob_f h z1
    refine lv_aload_n hx hb dX10_become_167 rfl (lv_at hl 0 rfl) ?_
    refine x_get C0 hP (lay_X10 B ct S ht) rfl inG10 12 (by decide) wd_87 (fun _ h => h) rfl dX10_become_168 ?_
    refine lv_iload_n hx hb dX10_become_171 rfl (lv_at hl 2 rfl) ?_
    refine lv_aload_n hx hb dX10_become_172 rfl (lv_at hl 1 rfl) ?_
    refine x_get C0 hP (lay_X10 B ct S hu1) rfl inG10 12 (by decide) wd_87 (fun _ h => h) rfl dX10_become_173 ?_
    refine lv_iload_n hx hb dX10_become_176 rfl (lv_at hl 2 rfl) ?_
    obtain ⟨g6, h⟩ := ob_gd h
    refine x_iald C0 hP ((fun S => lay_t11 B ct S hu1) S) g6 dX10_become_177 ?_
    obtain ⟨g7, h⟩ := ob_gd h
    obtain ⟨S8, eS8, h⟩ := ob_nm h
    refine x_iast C0 hP hS (fun S => lay_t11 B ct S ht) g7 dX10_become_178 (fun H locs hP hS => ?_)
    rw [← eS8] at hP
    refine lv_aload_n hx hb dX10_become_179 rfl (lv_at hl 0 rfl) ?_
    refine x_get C0 hP (lay_X10 B ct S8 ht) rfl inG10 13 (by decide) wd_90 (fun _ h => h) rfl dX10_become_180 ?_
    refine lv_iload_n hx hb dX10_become_183 rfl (lv_at hl 2 rfl) ?_
    refine lv_aload_n hx hb dX10_become_184 rfl (lv_at hl 1 rfl) ?_
    refine x_get C0 hP (lay_X10 B ct S8 hu1) rfl inG10 13 (by decide) wd_90 (fun _ h => h) rfl dX10_become_185 ?_
    refine lv_iload_n hx hb dX10_become_188 rfl (lv_at hl 2 rfl) ?_
    obtain ⟨g9, h⟩ := ob_gd h
    refine x_iald C0 hP ((fun S => lay_t12 B ct S hu1) S8) g9 dX10_become_189 ?_
    obtain ⟨g10, h⟩ := ob_gd h
    obtain ⟨S11, eS11, h⟩ := ob_nm h
    refine x_iast C0 hP hS (fun S => lay_t12 B ct S ht) g10 dX10_become_190 (fun H locs hP hS => ?_)
    rw [← eS11] at hP
    refine lv_aload_n hx hb dX10_become_191 rfl (lv_at hl 0 rfl) ?_
    refine x_get C0 hP (lay_X10 B ct S11 ht) rfl inG10 14 (by decide) wd_92 (fun _ h => h) rfl dX10_become_192 ?_
    refine lv_iload_n hx hb dX10_become_195 rfl (lv_at hl 2 rfl) ?_
    refine lv_aload_n hx hb dX10_become_196 rfl (lv_at hl 1 rfl) ?_
    refine x_get C0 hP (lay_X10 B ct S11 hu1) rfl inG10 14 (by decide) wd_92 (fun _ h => h) rfl dX10_become_197 ?_
    refine lv_iload_n hx hb dX10_become_200 rfl (lv_at hl 2 rfl) ?_
    obtain ⟨g12, h⟩ := ob_gd h
    refine x_iald C0 hP ((fun S => lay_t13 B ct S hu1) S11) g12 dX10_become_201 ?_
    obtain ⟨g13, h⟩ := ob_gd h
    obtain ⟨S14, eS14, h⟩ := ob_nm h
    refine x_iast C0 hP hS (fun S => lay_t13 B ct S ht) g13 dX10_become_202 (fun H locs hP hS => ?_)
    rw [← eS14] at hP
    refine lv_aload_n hx hb dX10_become_203 rfl (lv_at hl 0 rfl) ?_
    refine x_get C0 hP (lay_X10 B ct S14 ht) rfl inG10 15 (by decide) wd_95 (fun _ h => h) rfl dX10_become_204 ?_
    refine lv_iload_n hx hb dX10_become_207 rfl (lv_at hl 2 rfl) ?_
    refine lv_aload_n hx hb dX10_become_208 rfl (lv_at hl 1 rfl) ?_
    refine x_get C0 hP (lay_X10 B ct S14 hu1) rfl inG10 15 (by decide) wd_95 (fun _ h => h) rfl dX10_become_209 ?_
    refine lv_iload_n hx hb dX10_become_212 rfl (lv_at hl 2 rfl) ?_
    obtain ⟨g15, h⟩ := ob_gd h
    refine x_iald C0 hP ((fun S => lay_t14 B ct S hu1) S14) g15 dX10_become_213 ?_
    obtain ⟨g16, h⟩ := ob_gd h
    obtain ⟨S17, eS17, h⟩ := ob_nm h
    refine x_iast C0 hP hS (fun S => lay_t14 B ct S ht) g16 dX10_become_214 (fun H locs hP hS => ?_)
    rw [← eS17] at hP
    refine lv_aload_n hx hb dX10_become_215 rfl (lv_at hl 0 rfl) ?_
    refine x_get C0 hP (lay_X10 B ct S17 ht) rfl inG10 16 (by decide) wd_97 (fun _ h => h) rfl dX10_become_216 ?_
    refine lv_iload_n hx hb dX10_become_219 rfl (lv_at hl 2 rfl) ?_
    refine lv_aload_n hx hb dX10_become_220 rfl (lv_at hl 1 rfl) ?_
    refine x_get C0 hP (lay_X10 B ct S17 hu1) rfl inG10 16 (by decide) wd_97 (fun _ h => h) rfl dX10_become_221 ?_
    refine lv_iload_n hx hb dX10_become_224 rfl (lv_at hl 2 rfl) ?_
    obtain ⟨g18, h⟩ := ob_gd h
    refine x_iald C0 hP ((fun S => lay_t15 B ct S hu1) S17) g18 dX10_become_225 ?_
    obtain ⟨g19, h⟩ := ob_gd h
    obtain ⟨S20, eS20, h⟩ := ob_nm h
    refine x_iast C0 hP hS (fun S => lay_t15 B ct S ht) g19 dX10_become_226 (fun H locs hP hS => ?_)
    rw [← eS20] at hP
    refine lv_iinc (v := v2 + 1) (lv' := [(2, .int (v2 + 1)), (0, .ref (B + t)), (1, .ref (B + u1))]) hx hb dX10_become_227 hl (k := 2) rfl rfl (by decide) rfl (fun ls hl => ?_)
    refine lv_goto (tgt := 162) hx hb dX10_become_230 (by decide) ?_
    exact ih0 (v2 + 1) S20 _ _ _ h hP hS (lv_sub hl [1, 2, 0] rfl)
set_option maxRecDepth 100000 in
set_option maxHeartbeats 4000000 in
theorem wl_X10_become_162 (l : Launch) {V : St} (C0 : XC D ct p s m args meth c cX10_become 3 none RX10) (t : Nat) (u1 : Nat) (ht : isTown t) (hu1 : isTown u1)  : ∀ (n0 : Nat) (v2 : Int32) (S : St) {H : Heap} {locs : List Loc} {ls : Array Slot}, (lp n0 (l_X10_become_162 t u1) (v2, S)).bind some = some V → MP D ct B Hb S H → va_S (AB B) s.heap H locs → lv_has ls 3 [(0, .ref (B + t)), (1, .ref (B + u1)), (2, .int v2)] → W p l e { frames := 1, cells := 0, slots := 0, locals := 54 } s m args below meth c H locs 0 0 (MQ below (qVw D ct B Hb V) args s 0 0 (AB B)) (F0 m 162 ls []) := by
  intro n0
  induction n0 with
  | zero =>
    intro v2 S H locs ls h hP hS hl
    exact (lp_0 h).elim
  | succ n0 ih0 =>
    intro v2 S H locs ls h hP hS hl
    have h := lp_s h
    exact w_X10_become_162 l C0 t u1 ht hu1 n0 (fun v2 S H locs ls h hP hS hl => ih0 v2 S h hP hS hl) v2 S h hP hS hl
set_option maxRecDepth 100000 in
set_option maxHeartbeats 4000000 in
theorem w_X10_become_152 (l : Launch) {V : St} (C0 : XC D ct p s m args meth c cX10_become 3 none RX10) (t : Nat) (u1 : Nat) (ht : isTown t) (hu1 : isTown u1) (S : St) {H : Heap} {locs : List Loc} {ls : Array Slot} (h : (b_X10_become_152 t u1 S).bind some = some V) (hP : MP D ct B Hb S H) (hS : va_S (AB B) s.heap H locs) (hl : lv_has ls 3 [(0, .ref (B + t)), (1, .ref (B + u1))]) : W p l e { frames := 1, cells := 0, slots := 0, locals := 54 } s m args below meth c H locs 0 0 (MQ below (qVw D ct B Hb V) args s 0 0 (AB B)) (F0 m 152 ls []) := by
  obtain ⟨hx, hb, hr, hml, hown, hts, hK, hlocks, hN⟩ := id C0
  unfold b_X10_become_152 at h
  refine lv_aload_n hx hb dX10_become_152 rfl (lv_at hl 0 rfl) ?_
  refine lv_aload_n hx hb dX10_become_153 rfl (lv_at hl 1 rfl) ?_
  refine x_get C0 hP (lay_X10 B ct S hu1) rfl inG10 11 (by decide) wd_84 (fun _ h => h) rfl dX10_become_154 ?_
  obtain ⟨S1, eS1, h⟩ := ob_nm h
  refine x_put (S' := si S t 11 (gi S u1 11)) (FS := (fs10 B t)) C0 hP hS (fun S => lay_X10 B ct S ht) rfl inG10 tyX10 tyX10_ok nmX10 11 (by decide) wd_84 rfl rfl (fun a ha => lay_local (gi_si_n _ _ _ ha) rfl rfl rfl) (put_10_11 B t _ _) rfl rfl (Nat.le_of_ble_eq_true rfl) dX10_become_157 (fun H locs hP hS => ?_)
  rw [← eS1] at hP
  refine lv_iconst (v := 0) hx hb dX10_become_160 (by decide) ?_
  refine lv_istore_n (lv' := [(2, .int 0), (0, .ref (B + t)), (1, .ref (B + u1))]) hx hb dX10_become_161 rfl hl (by decide) rfl (fun ls hl => ?_)
  exact wl_X10_become_162 l C0 t u1 ht hu1 1000 0 S1 h hP hS (lv_sub hl [1, 2, 0] rfl)
set_option maxRecDepth 100000 in
set_option maxHeartbeats 4000000 in
theorem w_X10_become_92 (l : Launch) {V : St} (C0 : XC D ct p s m args meth c cX10_become 3 none RX10) (t : Nat) (u1 : Nat) (ht : isTown t) (hu1 : isTown u1) (n0 : Nat) (ih0 : ∀ (v2 : Int32) (S : St) (H : Heap) (locs : List Loc) (ls : Array Slot), (lp n0 (l_X10_become_92 t u1) (v2, S)).bind some = some V → MP D ct B Hb S H → va_S (AB B) s.heap H locs → lv_has ls 3 [(0, .ref (B + t)), (1, .ref (B + u1)), (2, .int v2)] → W p l e { frames := 1, cells := 0, slots := 0, locals := 54 } s m args below meth c H locs 0 0 (MQ below (qVw D ct B Hb V) args s 0 0 (AB B)) (F0 m 92 ls [])) (v2 : Int32) (S : St) {H : Heap} {locs : List Loc} {ls : Array Slot} (h : (b_X10_become_92 t u1 v2 S).bind (lpF n0 (l_X10_become_92 t u1) some) = some V) (hP : MP D ct B Hb S H) (hS : va_S (AB B) s.heap H locs) (hl : lv_has ls 3 [(0, .ref (B + t)), (1, .ref (B + u1)), (2, .int v2)]) : W p l e { frames := 1, cells := 0, slots := 0, locals := 54 } s m args below meth c H locs 0 0 (MQ below (qVw D ct B Hb V) args s 0 0 (AB B)) (F0 m 92 ls []) := by
  obtain ⟨hx, hb, hr, hml, hown, hts, hK, hlocks, hN⟩ := id C0
  unfold b_X10_become_92 at h
  refine lv_iload_n hx hb dX10_become_92 rfl (lv_at hl 2 rfl) ?_
  refine lv_bipush (v := 6) hx hb dX10_become_93 (by decide) ?_
  refine lv_icmp_ge (tgt := 152) hx hb dX10_become_95 (by decide) (fun z1 => ?_) (fun z1 => ?_)
  · have h := ob_t h z1
    have h := ob_mp h
    exact w_X10_become_152 l C0 t u1 ht hu1 S h hP hS (lv_sub hl [0, 1] rfl)
  · have h := ob_f h z1
    refine lv_aload_n hx hb dX10_become_98 rfl (lv_at hl 0 rfl) ?_
    refine x_get C0 hP (lay_X10 B ct S ht) rfl inG10 7 (by decide) wd_79 (fun _ h => h) rfl dX10_become_99 ?_
    refine lv_iload_n hx hb dX10_become_102 rfl (lv_at hl 2 rfl) ?_
    refine lv_aload_n hx hb dX10_become_103 rfl (lv_at hl 1 rfl) ?_
    refine x_get C0 hP (lay_X10 B ct S hu1) rfl inG10 7 (by decide) wd_79 (fun _ h => h) rfl dX10_become_104 ?_
    refine lv_iload_n hx hb dX10_become_107 rfl (lv_at hl 2 rfl) ?_
    obtain ⟨g2, h⟩ := ob_gd h
    refine x_iald C0 hP ((fun S => lay_t7 B ct S hu1) S) g2 dX10_become_108 ?_
    obtain ⟨g3, h⟩ := ob_gd h
    obtain ⟨S4, eS4, h⟩ := ob_nm h
    refine x_iast C0 hP hS (fun S => lay_t7 B ct S ht) g3 dX10_become_109 (fun H locs hP hS => ?_)
    rw [← eS4] at hP
    refine lv_aload_n hx hb dX10_become_110 rfl (lv_at hl 0 rfl) ?_
    refine x_get C0 hP (lay_X10 B ct S4 ht) rfl inG10 8 (by decide) wd_80 (fun _ h => h) rfl dX10_become_111 ?_
    refine lv_iload_n hx hb dX10_become_114 rfl (lv_at hl 2 rfl) ?_
    refine lv_aload_n hx hb dX10_become_115 rfl (lv_at hl 1 rfl) ?_
    refine x_get C0 hP (lay_X10 B ct S4 hu1) rfl inG10 8 (by decide) wd_80 (fun _ h => h) rfl dX10_become_116 ?_
    refine lv_iload_n hx hb dX10_become_119 rfl (lv_at hl 2 rfl) ?_
    obtain ⟨g5, h⟩ := ob_gd h
    refine x_iald C0 hP ((fun S => lay_t8 B ct S hu1) S4) g5 dX10_become_120 ?_
    obtain ⟨g6, h⟩ := ob_gd h
    obtain ⟨S7, eS7, h⟩ := ob_nm h
    refine x_iast C0 hP hS (fun S => lay_t8 B ct S ht) g6 dX10_become_121 (fun H locs hP hS => ?_)
    rw [← eS7] at hP
    refine lv_aload_n hx hb dX10_become_122 rfl (lv_at hl 0 rfl) ?_
    refine x_get C0 hP (lay_X10 B ct S7 ht) rfl inG10 9 (by decide) wd_81 (fun _ h => h) rfl dX10_become_123 ?_
    refine lv_iload_n hx hb dX10_become_126 rfl (lv_at hl 2 rfl) ?_
    refine lv_aload_n hx hb dX10_become_127 rfl (lv_at hl 1 rfl) ?_
    refine x_get C0 hP (lay_X10 B ct S7 hu1) rfl inG10 9 (by decide) wd_81 (fun _ h => h) rfl dX10_become_128 ?_
    refine lv_iload_n hx hb dX10_become_131 rfl (lv_at hl 2 rfl) ?_
    obtain ⟨g8, h⟩ := ob_gd h
    refine x_iald C0 hP ((fun S => lay_t9 B ct S hu1) S7) g8 dX10_become_132 ?_
    obtain ⟨g9, h⟩ := ob_gd h
    obtain ⟨S10, eS10, h⟩ := ob_nm h
    refine x_iast C0 hP hS (fun S => lay_t9 B ct S ht) g9 dX10_become_133 (fun H locs hP hS => ?_)
    rw [← eS10] at hP
    refine lv_aload_n hx hb dX10_become_134 rfl (lv_at hl 0 rfl) ?_
    refine x_get C0 hP (lay_X10 B ct S10 ht) rfl inG10 10 (by decide) wd_82 (fun _ h => h) rfl dX10_become_135 ?_
    refine lv_iload_n hx hb dX10_become_138 rfl (lv_at hl 2 rfl) ?_
    refine lv_aload_n hx hb dX10_become_139 rfl (lv_at hl 1 rfl) ?_
    refine x_get C0 hP (lay_X10 B ct S10 hu1) rfl inG10 10 (by decide) wd_82 (fun _ h => h) rfl dX10_become_140 ?_
    refine lv_iload_n hx hb dX10_become_143 rfl (lv_at hl 2 rfl) ?_
    obtain ⟨g11, h⟩ := ob_gd h
    refine x_iald C0 hP ((fun S => lay_t10 B ct S hu1) S10) g11 dX10_become_144 ?_
    obtain ⟨g12, h⟩ := ob_gd h
    obtain ⟨S13, eS13, h⟩ := ob_nm h
    refine x_iast C0 hP hS (fun S => lay_t10 B ct S ht) g12 dX10_become_145 (fun H locs hP hS => ?_)
    rw [← eS13] at hP
    refine lv_iinc (v := v2 + 1) (lv' := [(2, .int (v2 + 1)), (0, .ref (B + t)), (1, .ref (B + u1))]) hx hb dX10_become_146 hl (k := 2) rfl rfl (by decide) rfl (fun ls hl => ?_)
    refine lv_goto (tgt := 92) hx hb dX10_become_149 (by decide) ?_
    exact ih0 (v2 + 1) S13 _ _ _ h hP hS (lv_sub hl [1, 2, 0] rfl)
set_option maxRecDepth 100000 in
set_option maxHeartbeats 4000000 in
theorem wl_X10_become_92 (l : Launch) {V : St} (C0 : XC D ct p s m args meth c cX10_become 3 none RX10) (t : Nat) (u1 : Nat) (ht : isTown t) (hu1 : isTown u1)  : ∀ (n0 : Nat) (v2 : Int32) (S : St) {H : Heap} {locs : List Loc} {ls : Array Slot}, (lp n0 (l_X10_become_92 t u1) (v2, S)).bind some = some V → MP D ct B Hb S H → va_S (AB B) s.heap H locs → lv_has ls 3 [(0, .ref (B + t)), (1, .ref (B + u1)), (2, .int v2)] → W p l e { frames := 1, cells := 0, slots := 0, locals := 54 } s m args below meth c H locs 0 0 (MQ below (qVw D ct B Hb V) args s 0 0 (AB B)) (F0 m 92 ls []) := by
  intro n0
  induction n0 with
  | zero =>
    intro v2 S H locs ls h hP hS hl
    exact (lp_0 h).elim
  | succ n0 ih0 =>
    intro v2 S H locs ls h hP hS hl
    have h := lp_s h
    exact w_X10_become_92 l C0 t u1 ht hu1 n0 (fun v2 S H locs ls h hP hS hl => ih0 v2 S h hP hS hl) v2 S h hP hS hl
set_option maxRecDepth 100000 in
set_option maxHeartbeats 4000000 in
theorem w_X10_become_82 (l : Launch) {V : St} (C0 : XC D ct p s m args meth c cX10_become 3 none RX10) (t : Nat) (u1 : Nat) (ht : isTown t) (hu1 : isTown u1) (S : St) {H : Heap} {locs : List Loc} {ls : Array Slot} (h : (b_X10_become_82 t u1 S).bind some = some V) (hP : MP D ct B Hb S H) (hS : va_S (AB B) s.heap H locs) (hl : lv_has ls 3 [(0, .ref (B + t)), (1, .ref (B + u1))]) : W p l e { frames := 1, cells := 0, slots := 0, locals := 54 } s m args below meth c H locs 0 0 (MQ below (qVw D ct B Hb V) args s 0 0 (AB B)) (F0 m 82 ls []) := by
  obtain ⟨hx, hb, hr, hml, hown, hts, hK, hlocks, hN⟩ := id C0
  unfold b_X10_become_82 at h
  refine lv_aload_n hx hb dX10_become_82 rfl (lv_at hl 0 rfl) ?_
  refine lv_aload_n hx hb dX10_become_83 rfl (lv_at hl 1 rfl) ?_
  refine x_get C0 hP (lay_X10 B ct S hu1) rfl inG10 6 (by decide) wd_77 (fun _ h => h) rfl dX10_become_84 ?_
  obtain ⟨S1, eS1, h⟩ := ob_nm h
  refine x_put (S' := si S t 6 (gi S u1 6)) (FS := (fs10 B t)) C0 hP hS (fun S => lay_X10 B ct S ht) rfl inG10 tyX10 tyX10_ok nmX10 6 (by decide) wd_77 rfl rfl (fun a ha => lay_local (gi_si_n _ _ _ ha) rfl rfl rfl) (put_10_6 B t _ _) rfl rfl (Nat.le_of_ble_eq_true rfl) dX10_become_87 (fun H locs hP hS => ?_)
  rw [← eS1] at hP
  refine lv_iconst (v := 0) hx hb dX10_become_90 (by decide) ?_
  refine lv_istore_n (lv' := [(2, .int 0), (0, .ref (B + t)), (1, .ref (B + u1))]) hx hb dX10_become_91 rfl hl (by decide) rfl (fun ls hl => ?_)
  exact wl_X10_become_92 l C0 t u1 ht hu1 1000 0 S1 h hP hS (lv_sub hl [1, 2, 0] rfl)
set_option maxRecDepth 100000 in
set_option maxHeartbeats 4000000 in
theorem w_X10_become_10 (l : Launch) {V : St} (C0 : XC D ct p s m args meth c cX10_become 3 none RX10) (t : Nat) (u1 : Nat) (ht : isTown t) (hu1 : isTown u1) (n0 : Nat) (ih0 : ∀ (v2 : Int32) (S : St) (H : Heap) (locs : List Loc) (ls : Array Slot), (lp n0 (l_X10_become_10 t u1) (v2, S)).bind some = some V → MP D ct B Hb S H → va_S (AB B) s.heap H locs → lv_has ls 3 [(0, .ref (B + t)), (1, .ref (B + u1)), (2, .int v2)] → W p l e { frames := 1, cells := 0, slots := 0, locals := 54 } s m args below meth c H locs 0 0 (MQ below (qVw D ct B Hb V) args s 0 0 (AB B)) (F0 m 10 ls [])) (v2 : Int32) (S : St) {H : Heap} {locs : List Loc} {ls : Array Slot} (h : (b_X10_become_10 t u1 v2 S).bind (lpF n0 (l_X10_become_10 t u1) some) = some V) (hP : MP D ct B Hb S H) (hS : va_S (AB B) s.heap H locs) (hl : lv_has ls 3 [(0, .ref (B + t)), (1, .ref (B + u1)), (2, .int v2)]) : W p l e { frames := 1, cells := 0, slots := 0, locals := 54 } s m args below meth c H locs 0 0 (MQ below (qVw D ct B Hb V) args s 0 0 (AB B)) (F0 m 10 ls []) := by
  obtain ⟨hx, hb, hr, hml, hown, hts, hK, hlocks, hN⟩ := id C0
  unfold b_X10_become_10 at h
  refine lv_iload_n hx hb dX10_become_10 rfl (lv_at hl 2 rfl) ?_
  refine lv_bipush (v := 8) hx hb dX10_become_11 (by decide) ?_
  refine lv_icmp_ge (tgt := 82) hx hb dX10_become_13 (by decide) (fun z1 => ?_) (fun z1 => ?_)
  · have h := ob_t h z1
    have h := ob_mp h
    exact w_X10_become_82 l C0 t u1 ht hu1 S h hP hS (lv_sub hl [0, 1] rfl)
  · have h := ob_f h z1
    refine lv_aload_n hx hb dX10_become_16 rfl (lv_at hl 0 rfl) ?_
    refine x_get C0 hP (lay_X10 B ct S ht) rfl inG10 1 (by decide) wd_62 (fun _ h => h) rfl dX10_become_17 ?_
    refine lv_iload_n hx hb dX10_become_20 rfl (lv_at hl 2 rfl) ?_
    refine lv_aload_n hx hb dX10_become_21 rfl (lv_at hl 1 rfl) ?_
    refine x_get C0 hP (lay_X10 B ct S hu1) rfl inG10 1 (by decide) wd_62 (fun _ h => h) rfl dX10_become_22 ?_
    refine lv_iload_n hx hb dX10_become_25 rfl (lv_at hl 2 rfl) ?_
    obtain ⟨g2, h⟩ := ob_gd h
    obtain ⟨q3, eq3, h⟩ := ob_bd h
    refine x_aald (v := .ref (B + q3)) C0 hP ((fun S => lay_t1 B ct S hu1) S) rfl rfl g2 (by show va_rf ((gr S (u1 + 1) v2.toNatClampNeg).map (B + ·)) = _; rw [eq3]; rfl) dX10_become_26 ?_
    obtain ⟨g4, h⟩ := ob_gd h
    obtain ⟨k6, ek6, h⟩ := ob_bd h
    obtain ⟨S5, eS5, h⟩ := ob_nm h
    refine x_astP C0 hP hS (fun S => lay_t1 B ct S ht) ek6 g4 dX10_become_27 (fun H locs hP hS => ?_)
    rw [← eS5] at hP
    refine lv_aload_n hx hb dX10_become_28 rfl (lv_at hl 0 rfl) ?_
    refine x_get C0 hP (lay_X10 B ct S5 ht) rfl inG10 2 (by decide) wd_65 (fun _ h => h) rfl dX10_become_29 ?_
    refine lv_iload_n hx hb dX10_become_32 rfl (lv_at hl 2 rfl) ?_
    refine lv_aload_n hx hb dX10_become_33 rfl (lv_at hl 1 rfl) ?_
    refine x_get C0 hP (lay_X10 B ct S5 hu1) rfl inG10 2 (by decide) wd_65 (fun _ h => h) rfl dX10_become_34 ?_
    refine lv_iload_n hx hb dX10_become_37 rfl (lv_at hl 2 rfl) ?_
    obtain ⟨g7, h⟩ := ob_gd h
    refine x_iald C0 hP ((fun S => lay_t3 B ct S hu1) S5) g7 dX10_become_38 ?_
    obtain ⟨g8, h⟩ := ob_gd h
    obtain ⟨S9, eS9, h⟩ := ob_nm h
    refine x_iast C0 hP hS (fun S => lay_t3 B ct S ht) g8 dX10_become_39 (fun H locs hP hS => ?_)
    rw [← eS9] at hP
    refine lv_aload_n hx hb dX10_become_40 rfl (lv_at hl 0 rfl) ?_
    refine x_get C0 hP (lay_X10 B ct S9 ht) rfl inG10 3 (by decide) wd_68 (fun _ h => h) rfl dX10_become_41 ?_
    refine lv_iload_n hx hb dX10_become_44 rfl (lv_at hl 2 rfl) ?_
    refine lv_aload_n hx hb dX10_become_45 rfl (lv_at hl 1 rfl) ?_
    refine x_get C0 hP (lay_X10 B ct S9 hu1) rfl inG10 3 (by decide) wd_68 (fun _ h => h) rfl dX10_become_46 ?_
    refine lv_iload_n hx hb dX10_become_49 rfl (lv_at hl 2 rfl) ?_
    obtain ⟨g10, h⟩ := ob_gd h
    refine x_iald C0 hP ((fun S => lay_t4 B ct S hu1) S9) g10 dX10_become_50 ?_
    obtain ⟨g11, h⟩ := ob_gd h
    obtain ⟨S12, eS12, h⟩ := ob_nm h
    refine x_iast C0 hP hS (fun S => lay_t4 B ct S ht) g11 dX10_become_51 (fun H locs hP hS => ?_)
    rw [← eS12] at hP
    refine lv_aload_n hx hb dX10_become_52 rfl (lv_at hl 0 rfl) ?_
    refine x_get C0 hP (lay_X10 B ct S12 ht) rfl inG10 4 (by decide) wd_71 (fun _ h => h) rfl dX10_become_53 ?_
    refine lv_iload_n hx hb dX10_become_56 rfl (lv_at hl 2 rfl) ?_
    refine lv_aload_n hx hb dX10_become_57 rfl (lv_at hl 1 rfl) ?_
    refine x_get C0 hP (lay_X10 B ct S12 hu1) rfl inG10 4 (by decide) wd_71 (fun _ h => h) rfl dX10_become_58 ?_
    refine lv_iload_n hx hb dX10_become_61 rfl (lv_at hl 2 rfl) ?_
    obtain ⟨g13, h⟩ := ob_gd h
    refine x_iald C0 hP ((fun S => lay_t5 B ct S hu1) S12) g13 dX10_become_62 ?_
    obtain ⟨g14, h⟩ := ob_gd h
    obtain ⟨S15, eS15, h⟩ := ob_nm h
    refine x_iast C0 hP hS (fun S => lay_t5 B ct S ht) g14 dX10_become_63 (fun H locs hP hS => ?_)
    rw [← eS15] at hP
    refine lv_aload_n hx hb dX10_become_64 rfl (lv_at hl 0 rfl) ?_
    refine x_get C0 hP (lay_X10 B ct S15 ht) rfl inG10 5 (by decide) wd_74 (fun _ h => h) rfl dX10_become_65 ?_
    refine lv_iload_n hx hb dX10_become_68 rfl (lv_at hl 2 rfl) ?_
    refine lv_aload_n hx hb dX10_become_69 rfl (lv_at hl 1 rfl) ?_
    refine x_get C0 hP (lay_X10 B ct S15 hu1) rfl inG10 5 (by decide) wd_74 (fun _ h => h) rfl dX10_become_70 ?_
    refine lv_iload_n hx hb dX10_become_73 rfl (lv_at hl 2 rfl) ?_
    obtain ⟨g16, h⟩ := ob_gd h
    refine x_iald C0 hP ((fun S => lay_t6 B ct S hu1) S15) g16 dX10_become_74 ?_
    obtain ⟨g17, h⟩ := ob_gd h
    obtain ⟨S18, eS18, h⟩ := ob_nm h
    refine x_iast C0 hP hS (fun S => lay_t6 B ct S ht) g17 dX10_become_75 (fun H locs hP hS => ?_)
    rw [← eS18] at hP
    refine lv_iinc (v := v2 + 1) (lv' := [(2, .int (v2 + 1)), (0, .ref (B + t)), (1, .ref (B + u1))]) hx hb dX10_become_76 hl (k := 2) rfl rfl (by decide) rfl (fun ls hl => ?_)
    refine lv_goto (tgt := 10) hx hb dX10_become_79 (by decide) ?_
    exact ih0 (v2 + 1) S18 _ _ _ h hP hS (lv_sub hl [1, 2, 0] rfl)
set_option maxRecDepth 100000 in
set_option maxHeartbeats 4000000 in
theorem wl_X10_become_10 (l : Launch) {V : St} (C0 : XC D ct p s m args meth c cX10_become 3 none RX10) (t : Nat) (u1 : Nat) (ht : isTown t) (hu1 : isTown u1)  : ∀ (n0 : Nat) (v2 : Int32) (S : St) {H : Heap} {locs : List Loc} {ls : Array Slot}, (lp n0 (l_X10_become_10 t u1) (v2, S)).bind some = some V → MP D ct B Hb S H → va_S (AB B) s.heap H locs → lv_has ls 3 [(0, .ref (B + t)), (1, .ref (B + u1)), (2, .int v2)] → W p l e { frames := 1, cells := 0, slots := 0, locals := 54 } s m args below meth c H locs 0 0 (MQ below (qVw D ct B Hb V) args s 0 0 (AB B)) (F0 m 10 ls []) := by
  intro n0
  induction n0 with
  | zero =>
    intro v2 S H locs ls h hP hS hl
    exact (lp_0 h).elim
  | succ n0 ih0 =>
    intro v2 S H locs ls h hP hS hl
    have h := lp_s h
    exact w_X10_become_10 l C0 t u1 ht hu1 n0 (fun v2 S H locs ls h hP hS hl => ih0 v2 S h hP hS hl) v2 S h hP hS hl
set_option maxRecDepth 100000 in
set_option maxHeartbeats 4000000 in
theorem w_X10_become_0 (l : Launch) {V : St} (C0 : XC D ct p s m args meth c cX10_become 3 none RX10) (t : Nat) (u1 : Nat) (ht : isTown t) (hu1 : isTown u1) (S : St) {H : Heap} {locs : List Loc} {ls : Array Slot} (h : (b_X10_become_0 t u1 S).bind some = some V) (hP : MP D ct B Hb S H) (hS : va_S (AB B) s.heap H locs) (hl : lv_has ls 3 [(0, .ref (B + t)), (1, .ref (B + u1))]) : W p l e { frames := 1, cells := 0, slots := 0, locals := 54 } s m args below meth c H locs 0 0 (MQ below (qVw D ct B Hb V) args s 0 0 (AB B)) (F0 m 0 ls []) := by
  obtain ⟨hx, hb, hr, hml, hown, hts, hK, hlocks, hN⟩ := id C0
  unfold b_X10_become_0 at h
  refine lv_aload_n hx hb dX10_become_0 rfl (lv_at hl 0 rfl) ?_
  refine lv_aload_n hx hb dX10_become_1 rfl (lv_at hl 1 rfl) ?_
  refine x_get C0 hP (lay_X10 B ct S hu1) rfl inG10 0 (by decide) wd_59 (fun _ h => h) rfl dX10_become_2 ?_
  obtain ⟨S1, eS1, h⟩ := ob_nm h
  refine x_put (S' := si S t 0 (gi S u1 0)) (FS := (fs10 B t)) C0 hP hS (fun S => lay_X10 B ct S ht) rfl inG10 tyX10 tyX10_ok nmX10 0 (by decide) wd_59 rfl rfl (fun a ha => lay_local (gi_si_n _ _ _ ha) rfl rfl rfl) (put_10_0 B t _ _) rfl rfl (Nat.le_of_ble_eq_true rfl) dX10_become_5 (fun H locs hP hS => ?_)
  rw [← eS1] at hP
  refine lv_iconst (v := 0) hx hb dX10_become_8 (by decide) ?_
  refine lv_istore_n (lv' := [(2, .int 0), (0, .ref (B + t)), (1, .ref (B + u1))]) hx hb dX10_become_9 rfl hl (by decide) rfl (fun ls hl => ?_)
  exact wl_X10_become_10 l C0 t u1 ht hu1 1000 0 S1 h hP hS (lv_sub hl [1, 2, 0] rfl)
set_option maxRecDepth 100000 in
set_option maxHeartbeats 4000000 in
theorem c_X10_become (l : Launch) (t : Nat) (u1 : Nat) (ht : isTown t) (hu1 : isTown u1) {D : va_G} {ct : Nat → ClassId} {B : Nat} {Hb : Heap} {S : St} {V : St} (h : L_X10_become t u1 S = some V) : Met l yX10_become (Cond.code yX10_become cX10_become 3 none :: tG) { frames := 1, cells := 0, slots := 0, locals := 54 } (va_Pc [.ref (B + t), .ref (B + u1)] (MPK D ct B Hb S)) (qVw D ct B Hb V) 0 0 (AB B) := by
  refine mk_met (by decide +kernel) (Nat.le_of_ble_eq_true rfl) (fun p e s m args below meth c ls C0 hP hl _ => ?_)
  have h := ob_of h
  exact w_X10_become_0 l C0 t u1 ht hu1 S h hP va_S.rf (lv_sub hl [0, 1] rfl)
set_option maxRecDepth 100000 in
set_option maxHeartbeats 4000000 in
theorem w_X11_isOut_10 (l : Launch) {V : Int32} (C0 : XC D ct p s m args meth c cX11_isOut 3 (some .boolean) RX11) (S : St) {H : Heap} {locs : List Loc} {ls : Array Slot} (h : (b_X11_isOut_10 S).bind some = some V) (hP : MP D ct B Hb S H) (hS : va_S (AB B) s.heap H locs) (hl : lv_has ls 3 []) : W p l e { frames := 0, cells := 0, slots := 0, locals := 0 } s m args below meth c H locs 0 0 (MQ below (qI D ct B Hb S V) args s 0 0 (AB B)) (F0 m 10 ls []) := by
  obtain ⟨hx, hb, hr, hml, hown, hts, hK, hlocks, hN⟩ := id C0
  unfold b_X11_isOut_10 at h
  refine lv_iconst (v := 1) hx hb dX11_isOut_10 (by decide) ?_
  refine lv_goto (tgt := 15) hx hb dX11_isOut_11 (by decide) ?_
  exact r_Z C0 hP hS bool_1 h dX11_isOut_15
set_option maxRecDepth 100000 in
set_option maxHeartbeats 4000000 in
theorem w_X11_isOut_0 (l : Launch) {V : Int32} (C0 : XC D ct p s m args meth c cX11_isOut 3 (some .boolean) RX11) (v0 : Int32) (v1 : Int32) (v2 : Int32) (S : St) {H : Heap} {locs : List Loc} {ls : Array Slot} (h : (b_X11_isOut_0 v0 v1 v2 S).bind some = some V) (hP : MP D ct B Hb S H) (hS : va_S (AB B) s.heap H locs) (hl : lv_has ls 3 [(0, .int v0), (1, .int v1), (2, .int v2)]) : W p l e { frames := 0, cells := 0, slots := 0, locals := 0 } s m args below meth c H locs 0 0 (MQ below (qI D ct B Hb S V) args s 0 0 (AB B)) (F0 m 0 ls []) := by
  obtain ⟨hx, hb, hr, hml, hown, hts, hK, hlocks, hN⟩ := id C0
  unfold b_X11_isOut_0 at h
  refine lv_iload_n hx hb dX11_isOut_0 rfl (lv_at hl 0 rfl) ?_
  refine lv_iload_n hx hb dX11_isOut_1 rfl (lv_at hl 1 rfl) ?_
  refine lv_icmp_lt (tgt := 10) hx hb dX11_isOut_2 (by decide) (fun z1 => ?_) (fun z1 => ?_)
  · have h := ob_t h z1
    exact w_X11_isOut_10 l C0 S h hP hS (lv_sub hl [] rfl)
  · have h := ob_f h z1
    refine lv_iload_n hx hb dX11_isOut_5 rfl (lv_at hl 0 rfl) ?_
    refine lv_iload_n hx hb dX11_isOut_6 rfl (lv_at hl 2 rfl) ?_
    refine lv_icmp_le (tgt := 14) hx hb dX11_isOut_7 (by decide) (fun z2 => ?_) (fun z2 => ?_)
    · have h := ob_t h z2
      refine lv_iconst (v := 0) hx hb dX11_isOut_14 (by decide) ?_
      exact r_Z C0 hP hS bool_0 h dX11_isOut_15
    · have h := ob_f h z2
      exact w_X11_isOut_10 l C0 S h hP hS (lv_sub hl [] rfl)
set_option maxRecDepth 100000 in
set_option maxHeartbeats 4000000 in
theorem c_X11_isOut (l : Launch) (a0 : Int32) (a1 : Int32) (a2 : Int32) {D : va_G} {ct : Nat → ClassId} {B : Nat} {Hb : Heap} {S : St} {V : Int32} (h : L_X11_isOut a0 a1 a2 S = some V) : Met l yX11_isOut (Cond.code yX11_isOut cX11_isOut 3 (some .boolean) :: tG) { frames := 0, cells := 0, slots := 0, locals := 0 } (va_Pc [.int a0, .int a1, .int a2] (MPK D ct B Hb S)) (qI D ct B Hb S V) 0 0 (AB B) := by
  refine mk_met (by decide +kernel) (Nat.le_of_ble_eq_true rfl) (fun p e s m args below meth c ls C0 hP hl _ => ?_)
  have h := ob_of h
  exact w_X11_isOut_0 l C0 a0 a1 a2 S h hP va_S.rf (lv_sub hl [0, 1, 2] rfl)
set_option maxRecDepth 100000 in
set_option maxHeartbeats 4000000 in
theorem w_X10_isNoOne_40 (l : Launch) {V : Int32} (C0 : XC D ct p s m args meth c cX10_isNoOne 4 (some .boolean) RX10) (S : St) {H : Heap} {locs : List Loc} {ls : Array Slot} (h : (b_X10_isNoOne_40 S).bind some = some V) (hP : MP D ct B Hb S H) (hS : va_S (AB B) s.heap H locs) (hl : lv_has ls 4 []) : W p l e { frames := 1, cells := 0, slots := 0, locals := 22 } s m args below meth c H locs 0 0 (MQ below (qI D ct B Hb S V) args s 0 0 (AB B)) (F0 m 40 ls []) := by
  obtain ⟨hx, hb, hr, hml, hown, hts, hK, hlocks, hN⟩ := id C0
  unfold b_X10_isNoOne_40 at h
  refine lv_iconst (v := 1) hx hb dX10_isNoOne_40 (by decide) ?_
  refine lv_goto (tgt := 45) hx hb dX10_isNoOne_41 (by decide) ?_
  exact r_Z C0 hP hS bool_1 h dX10_isNoOne_45
set_option maxRecDepth 100000 in
set_option maxHeartbeats 4000000 in
theorem w_X10_isNoOne_0 (l : Launch) {V : Int32} (C0 : XC D ct p s m args meth c cX10_isNoOne 4 (some .boolean) RX10) (v0 : Int32) (v1 : Int32) (v2 : Int32) (v3 : Int32) (S : St) {H : Heap} {locs : List Loc} {ls : Array Slot} (h : (b_X10_isNoOne_0 v0 v1 v2 v3 S).bind some = some V) (hP : MP D ct B Hb S H) (hS : va_S (AB B) s.heap H locs) (hl : lv_has ls 4 [(0, .int v0), (1, .int v1), (2, .int v2), (3, .int v3)]) : W p l e { frames := 1, cells := 0, slots := 0, locals := 22 } s m args below meth c H locs 0 0 (MQ below (qI D ct B Hb S V) args s 0 0 (AB B)) (F0 m 0 ls []) := by
  obtain ⟨hx, hb, hr, hml, hown, hts, hK, hlocks, hN⟩ := id C0
  unfold b_X10_isNoOne_0 at h
  refine lv_iload_n hx hb dX10_isNoOne_0 rfl (lv_at hl 0 rfl) ?_
  refine lv_iconst (v := 0) hx hb dX10_isNoOne_1 (by decide) ?_
  refine lv_iconst (v := 3) hx hb dX10_isNoOne_2 (by decide) ?_
  obtain ⟨r1, hr1, h⟩ := ob_bd h
  refine n_I (kN (host := "ThoughtBetterOf") (As := [.int v0, .int 0, .int 3]) C0 (c_X11_isOut l v0 0 3 hr1) ⟨wd_338, nw_isOut, wd_337, wd_1⟩ kd_X11_isOut ⟨Nat.le_of_ble_eq_true rfl, Nat.le_of_ble_eq_true rfl⟩ hP rfl hl.1 rfl (Nat.le_of_ble_eq_true rfl) dX10_isNoOne_3 ⟨Nat.le_of_ble_eq_true rfl, Nat.le_of_ble_eq_true rfl⟩) hS (fun H locs hP hS => ?_)
  refine lv_if_ne (tgt := 40) hx hb dX10_isNoOne_6 (by decide) (fun z2 => ?_) (fun z2 => ?_)
  · have h := ob_f h z2
    exact w_X10_isNoOne_40 l C0 S h hP hS (lv_sub hl [] rfl)
  · have h := ob_t h z2
    refine lv_iload_n hx hb dX10_isNoOne_9 rfl (lv_at hl 1 rfl) ?_
    refine lv_iconst (v := 0) hx hb dX10_isNoOne_10 (by decide) ?_
    refine lv_bipush (v := 23) hx hb dX10_isNoOne_11 (by decide) ?_
    obtain ⟨r3, hr3, h⟩ := ob_bd h
    refine n_I (kN (host := "ThoughtBetterOf") (As := [.int v1, .int 0, .int 23]) C0 (c_X11_isOut l v1 0 23 hr3) ⟨wd_338, nw_isOut, wd_337, wd_1⟩ kd_X11_isOut ⟨Nat.le_of_ble_eq_true rfl, Nat.le_of_ble_eq_true rfl⟩ hP rfl hl.1 rfl (Nat.le_of_ble_eq_true rfl) dX10_isNoOne_13 ⟨Nat.le_of_ble_eq_true rfl, Nat.le_of_ble_eq_true rfl⟩) hS (fun H locs hP hS => ?_)
    refine lv_if_ne (tgt := 40) hx hb dX10_isNoOne_16 (by decide) (fun z4 => ?_) (fun z4 => ?_)
    · have h := ob_f h z4
      exact w_X10_isNoOne_40 l C0 S h hP hS (lv_sub hl [] rfl)
    · have h := ob_t h z4
      refine lv_iload_n hx hb dX10_isNoOne_19 rfl (lv_at hl 2 rfl) ?_
      refine lv_bipush (v := (-9)) hx hb dX10_isNoOne_20 (by decide) ?_
      refine lv_bipush (v := 9) hx hb dX10_isNoOne_22 (by decide) ?_
      obtain ⟨r5, hr5, h⟩ := ob_bd h
      refine n_I (kN (host := "ThoughtBetterOf") (As := [.int v2, .int ((-9)), .int 9]) C0 (c_X11_isOut l v2 ((-9)) 9 hr5) ⟨wd_338, nw_isOut, wd_337, wd_1⟩ kd_X11_isOut ⟨Nat.le_of_ble_eq_true rfl, Nat.le_of_ble_eq_true rfl⟩ hP rfl hl.1 rfl (Nat.le_of_ble_eq_true rfl) dX10_isNoOne_24 ⟨Nat.le_of_ble_eq_true rfl, Nat.le_of_ble_eq_true rfl⟩) hS (fun H locs hP hS => ?_)
      refine lv_if_ne (tgt := 40) hx hb dX10_isNoOne_27 (by decide) (fun z6 => ?_) (fun z6 => ?_)
      · have h := ob_f h z6
        exact w_X10_isNoOne_40 l C0 S h hP hS (lv_sub hl [] rfl)
      · have h := ob_t h z6
        refine lv_iload_n hx hb dX10_isNoOne_30 rfl (lv_at hl 3 rfl) ?_
        refine lv_iconst (v := 0) hx hb dX10_isNoOne_31 (by decide) ?_
        refine lv_bipush (v := 99) hx hb dX10_isNoOne_32 (by decide) ?_
        obtain ⟨r7, hr7, h⟩ := ob_bd h
        refine n_I (kN (host := "ThoughtBetterOf") (As := [.int v3, .int 0, .int 99]) C0 (c_X11_isOut l v3 0 99 hr7) ⟨wd_338, nw_isOut, wd_337, wd_1⟩ kd_X11_isOut ⟨Nat.le_of_ble_eq_true rfl, Nat.le_of_ble_eq_true rfl⟩ hP rfl hl.1 rfl (Nat.le_of_ble_eq_true rfl) dX10_isNoOne_34 ⟨Nat.le_of_ble_eq_true rfl, Nat.le_of_ble_eq_true rfl⟩) hS (fun H locs hP hS => ?_)
        refine lv_if_eq (tgt := 44) hx hb dX10_isNoOne_37 (by decide) (fun z8 => ?_) (fun z8 => ?_)
        · have h := ob_t h z8
          refine lv_iconst (v := 0) hx hb dX10_isNoOne_44 (by decide) ?_
          exact r_Z C0 hP hS bool_0 h dX10_isNoOne_45
        · have h := ob_f h z8
          exact w_X10_isNoOne_40 l C0 S h hP hS (lv_sub hl [] rfl)
set_option maxRecDepth 100000 in
set_option maxHeartbeats 4000000 in
theorem c_X10_isNoOne (l : Launch) (a0 : Int32) (a1 : Int32) (a2 : Int32) (a3 : Int32) {D : va_G} {ct : Nat → ClassId} {B : Nat} {Hb : Heap} {S : St} {V : Int32} (h : L_X10_isNoOne a0 a1 a2 a3 S = some V) : Met l yX10_isNoOne (Cond.code yX10_isNoOne cX10_isNoOne 4 (some .boolean) :: tG) { frames := 1, cells := 0, slots := 0, locals := 22 } (va_Pc [.int a0, .int a1, .int a2, .int a3] (MPK D ct B Hb S)) (qI D ct B Hb S V) 0 0 (AB B) := by
  refine mk_met (by decide +kernel) (Nat.le_of_ble_eq_true rfl) (fun p e s m args below meth c ls C0 hP hl _ => ?_)
  have h := ob_of h
  exact w_X10_isNoOne_0 l C0 a0 a1 a2 a3 S h hP va_S.rf (lv_sub hl [0, 1, 2, 3] rfl)
set_option maxRecDepth 100000 in
set_option maxHeartbeats 4000000 in
theorem w_X10_addOne_0 (l : Launch) {V : Int32 × St} (C0 : XC D ct p s m args meth c cX10_addOne 6 (some .int) RX10) (t : Nat) (u1 : Nat) (ht : isTown t) (v2 : Int32) (v3 : Int32) (v4 : Int32) (v5 : Int32) (S : St) {H : Heap} {locs : List Loc} {ls : Array Slot} (h : (b_X10_addOne_0 t u1 v2 v3 v4 v5 S).bind some = some V) (hP : MP D ct B Hb S H) (hS : va_S (AB B) s.heap H locs) (hl : lv_has ls 6 [(0, .ref (B + t)), (1, .ref (B + u1)), (2, .int v2), (3, .int v3), (4, .int v4), (5, .int v5)]) : W p l e { frames := 2, cells := 0, slots := 0, locals := 45 } s m args below meth c H locs 0 0 (MQ below (qIw D ct B Hb V) args s 0 0 (AB B)) (F0 m 0 ls []) := by
  obtain ⟨hx, hb, hr, hml, hown, hts, hK, hlocks, hN⟩ := id C0
  unfold b_X10_addOne_0 at h
  refine lv_iload_n hx hb dX10_addOne_0 rfl (lv_at hl 2 rfl) ?_
  refine lv_iload_n hx hb dX10_addOne_1 rfl (lv_at hl 3 rfl) ?_
  refine lv_iload hx hb dX10_addOne_2 (lv_at hl 4 rfl) ?_
  refine lv_iload hx hb dX10_addOne_4 (lv_at hl 5 rfl) ?_
  obtain ⟨r1, hr1, h⟩ := ob_bd h
  refine n_I (kS (As := [.int v2, .int v3, .int v4, .int v5]) C0 (c_X10_isNoOne l v2 v3 v4 v5 hr1) ⟨wd_427, wd_436, wd_426, wd_2⟩ kd_X10_isNoOne ⟨Nat.le_of_ble_eq_true rfl, Nat.le_of_ble_eq_true rfl⟩ hP rfl hl.1 rfl (Nat.le_of_ble_eq_true rfl) dX10_addOne_6 ⟨Nat.le_of_ble_eq_true rfl, Nat.le_of_ble_eq_true rfl⟩) hS (fun H locs hP hS => ?_)
  refine lv_if_eq (tgt := 14) hx hb dX10_addOne_9 (by decide) (fun z2 => ?_) (fun z2 => ?_)
  · have h := ob_t h z2
    refine lv_aload_n hx hb dX10_addOne_14 rfl (lv_at hl 0 rfl) ?_
    refine x_get C0 hP (lay_X10 B ct S ht) rfl inG10 0 (by decide) wd_59 (fun _ h => h) rfl dX10_addOne_15 ?_
    refine lv_bipush (v := 8) hx hb dX10_addOne_18 (by decide) ?_
    refine lv_icmp_lt (tgt := 26) hx hb dX10_addOne_20 (by decide) (fun z3 => ?_) (fun z3 => ?_)
    · have h := ob_t h z3
      refine lv_aload_n hx hb dX10_addOne_26 rfl (lv_at hl 0 rfl) ?_
      refine x_get C0 hP (lay_X10 B ct S ht) rfl inG10 1 (by decide) wd_62 (fun _ h => h) rfl dX10_addOne_27 ?_
      refine lv_aload_n hx hb dX10_addOne_30 rfl (lv_at hl 0 rfl) ?_
      refine x_get C0 hP (lay_X10 B ct S ht) rfl inG10 0 (by decide) wd_59 (fun _ h => h) rfl dX10_addOne_31 ?_
      refine lv_aload_n hx hb dX10_addOne_34 rfl (lv_at hl 1 rfl) ?_
      obtain ⟨g4, h⟩ := ob_gd h
      obtain ⟨k6, ek6, h⟩ := ob_bd h
      obtain ⟨S5, eS5, h⟩ := ob_nm h
      refine x_astP C0 hP hS (fun S => lay_t1 B ct S ht) ek6 g4 dX10_addOne_35 (fun H locs hP hS => ?_)
      rw [← eS5] at hP
      refine lv_aload_n hx hb dX10_addOne_36 rfl (lv_at hl 0 rfl) ?_
      refine x_get C0 hP (lay_X10 B ct S5 ht) rfl inG10 2 (by decide) wd_65 (fun _ h => h) rfl dX10_addOne_37 ?_
      refine lv_aload_n hx hb dX10_addOne_40 rfl (lv_at hl 0 rfl) ?_
      refine x_get C0 hP (lay_X10 B ct S5 ht) rfl inG10 0 (by decide) wd_59 (fun _ h => h) rfl dX10_addOne_41 ?_
      refine lv_iload_n hx hb dX10_addOne_44 rfl (lv_at hl 2 rfl) ?_
      obtain ⟨g7, h⟩ := ob_gd h
      obtain ⟨S8, eS8, h⟩ := ob_nm h
      refine x_iast C0 hP hS (fun S => lay_t3 B ct S ht) g7 dX10_addOne_45 (fun H locs hP hS => ?_)
      rw [← eS8] at hP
      refine lv_aload_n hx hb dX10_addOne_46 rfl (lv_at hl 0 rfl) ?_
      refine x_get C0 hP (lay_X10 B ct S8 ht) rfl inG10 3 (by decide) wd_68 (fun _ h => h) rfl dX10_addOne_47 ?_
      refine lv_aload_n hx hb dX10_addOne_50 rfl (lv_at hl 0 rfl) ?_
      refine x_get C0 hP (lay_X10 B ct S8 ht) rfl inG10 0 (by decide) wd_59 (fun _ h => h) rfl dX10_addOne_51 ?_
      refine lv_iload_n hx hb dX10_addOne_54 rfl (lv_at hl 3 rfl) ?_
      obtain ⟨g9, h⟩ := ob_gd h
      obtain ⟨S10, eS10, h⟩ := ob_nm h
      refine x_iast C0 hP hS (fun S => lay_t4 B ct S ht) g9 dX10_addOne_55 (fun H locs hP hS => ?_)
      rw [← eS10] at hP
      refine lv_aload_n hx hb dX10_addOne_56 rfl (lv_at hl 0 rfl) ?_
      refine x_get C0 hP (lay_X10 B ct S10 ht) rfl inG10 4 (by decide) wd_71 (fun _ h => h) rfl dX10_addOne_57 ?_
      refine lv_aload_n hx hb dX10_addOne_60 rfl (lv_at hl 0 rfl) ?_
      refine x_get C0 hP (lay_X10 B ct S10 ht) rfl inG10 0 (by decide) wd_59 (fun _ h => h) rfl dX10_addOne_61 ?_
      refine lv_iload hx hb dX10_addOne_64 (lv_at hl 4 rfl) ?_
      obtain ⟨g11, h⟩ := ob_gd h
      obtain ⟨S12, eS12, h⟩ := ob_nm h
      refine x_iast C0 hP hS (fun S => lay_t5 B ct S ht) g11 dX10_addOne_66 (fun H locs hP hS => ?_)
      rw [← eS12] at hP
      refine lv_aload_n hx hb dX10_addOne_67 rfl (lv_at hl 0 rfl) ?_
      refine x_get C0 hP (lay_X10 B ct S12 ht) rfl inG10 5 (by decide) wd_74 (fun _ h => h) rfl dX10_addOne_68 ?_
      refine lv_aload_n hx hb dX10_addOne_71 rfl (lv_at hl 0 rfl) ?_
      refine x_get C0 hP (lay_X10 B ct S12 ht) rfl inG10 0 (by decide) wd_59 (fun _ h => h) rfl dX10_addOne_72 ?_
      refine lv_iload hx hb dX10_addOne_75 (lv_at hl 5 rfl) ?_
      obtain ⟨g13, h⟩ := ob_gd h
      obtain ⟨S14, eS14, h⟩ := ob_nm h
      refine x_iast C0 hP hS (fun S => lay_t6 B ct S ht) g13 dX10_addOne_77 (fun H locs hP hS => ?_)
      rw [← eS14] at hP
      refine lv_aload_n hx hb dX10_addOne_78 rfl (lv_at hl 0 rfl) ?_
      refine lv_dup hx hb dX10_addOne_79 rfl ?_
      refine x_get C0 hP (lay_X10 B ct S14 ht) rfl inG10 0 (by decide) wd_59 (fun _ h => h) rfl dX10_addOne_80 ?_
      refine lv_iconst (v := 1) hx hb dX10_addOne_83 (by decide) ?_
      refine lv_iadd hx hb dX10_addOne_84 ?_
      obtain ⟨S15, eS15, h⟩ := ob_nm h
      refine x_put (S' := si S14 t 0 ((gi S14 t 0) + 1)) (FS := (fs10 B t)) C0 hP hS (fun S => lay_X10 B ct S ht) rfl inG10 tyX10 tyX10_ok nmX10 0 (by decide) wd_59 rfl rfl (fun a ha => lay_local (gi_si_n _ _ _ ha) rfl rfl rfl) (put_10_0 B t _ _) rfl rfl (Nat.le_of_ble_eq_true rfl) dX10_addOne_85 (fun H locs hP hS => ?_)
      rw [← eS15] at hP
      refine lv_aload_n hx hb dX10_addOne_88 rfl (lv_at hl 0 rfl) ?_
      refine x_get C0 hP (lay_X10 B ct S15 ht) rfl inG10 0 (by decide) wd_59 (fun _ h => h) rfl dX10_addOne_89 ?_
      refine lv_iconst (v := 1) hx hb dX10_addOne_92 (by decide) ?_
      refine lv_isub hx hb dX10_addOne_93 ?_
      exact r_Iw C0 hP hS h dX10_addOne_94
    · have h := ob_f h z3
      refine lv_bipush (v := (-2)) hx hb dX10_addOne_23 (by decide) ?_
      exact r_Iw C0 hP hS h dX10_addOne_25
  · have h := ob_f h z2
    refine lv_iconst (v := (-1)) hx hb dX10_addOne_12 (by decide) ?_
    exact r_Iw C0 hP hS h dX10_addOne_13
set_option maxRecDepth 100000 in
set_option maxHeartbeats 4000000 in
theorem c_X10_addOne (l : Launch) (t : Nat) (u1 : Nat) (ht : isTown t) (a2 : Int32) (a3 : Int32) (a4 : Int32) (a5 : Int32) {D : va_G} {ct : Nat → ClassId} {B : Nat} {Hb : Heap} {S : St} {V : Int32 × St} (h : L_X10_addOne t u1 a2 a3 a4 a5 S = some V) : Met l yX10_addOne (Cond.code yX10_addOne cX10_addOne 6 (some .int) :: tG) { frames := 2, cells := 0, slots := 0, locals := 45 } (va_Pc [.ref (B + t), .ref (B + u1), .int a2, .int a3, .int a4, .int a5] (MPK D ct B Hb S)) (qIw D ct B Hb V) 0 0 (AB B) := by
  refine mk_met (by decide +kernel) (Nat.le_of_ble_eq_true rfl) (fun p e s m args below meth c ls C0 hP hl _ => ?_)
  have h := ob_of h
  exact w_X10_addOne_0 l C0 t u1 ht a2 a3 a4 a5 S h hP va_S.rf (lv_sub hl [0, 1, 2, 3, 4, 5] rfl)
end WALKS
