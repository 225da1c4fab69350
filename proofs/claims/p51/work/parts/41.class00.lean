theorem dX2_offer_0 : decode cX2_offer 0 = .ok (.aload_n 0, 1) := by decide +kernel
theorem dX2_offer_1 : decode cX2_offer 1 = .ok (.getfield 35, 3) := by decide +kernel
theorem dX2_offer_4 : decode cX2_offer 4 = .ok (.iload_n 1, 1) := by decide +kernel
theorem dX2_offer_5 : decode cX2_offer 5 = .ok (.iload_n 2, 1) := by decide +kernel
theorem dX2_offer_6 : decode cX2_offer 6 = .ok (.iastore, 1) := by decide +kernel
theorem dX2_offer_7 : decode cX2_offer 7 = .ok (.aload_n 0, 1) := by decide +kernel
theorem dX2_offer_8 : decode cX2_offer 8 = .ok (.getfield 38, 3) := by decide +kernel
theorem dX2_offer_11 : decode cX2_offer 11 = .ok (.iload_n 1, 1) := by decide +kernel
theorem dX2_offer_12 : decode cX2_offer 12 = .ok (.iload_n 3, 1) := by decide +kernel
theorem dX2_offer_13 : decode cX2_offer 13 = .ok (.iastore, 1) := by decide +kernel
theorem dX2_offer_14 : decode cX2_offer 14 = .ok (.aload_n 0, 1) := by decide +kernel
theorem dX2_offer_15 : decode cX2_offer 15 = .ok (.getfield 41, 3) := by decide +kernel
theorem dX2_offer_18 : decode cX2_offer 18 = .ok (.iload_n 1, 1) := by decide +kernel
theorem dX2_offer_19 : decode cX2_offer 19 = .ok (.iload 4, 2) := by decide +kernel
theorem dX2_offer_21 : decode cX2_offer 21 = .ok (.iastore, 1) := by decide +kernel
theorem dX2_offer_22 : decode cX2_offer 22 = .ok (.aload_n 0, 1) := by decide +kernel
theorem dX2_offer_23 : decode cX2_offer 23 = .ok (.getfield 44, 3) := by decide +kernel
theorem dX2_offer_26 : decode cX2_offer 26 = .ok (.iload_n 1, 1) := by decide +kernel
theorem dX2_offer_27 : decode cX2_offer 27 = .ok (.iload 5, 2) := by decide +kernel
theorem dX2_offer_29 : decode cX2_offer 29 = .ok (.iastore, 1) := by decide +kernel
theorem dX2_offer_30 : decode cX2_offer 30 = .ok (.return_, 1) := by decide +kernel
theorem dX10_weightOf_0 : decode cX10_weightOf 0 = .ok (.iconst 0, 1) := by decide +kernel
theorem dX10_weightOf_1 : decode cX10_weightOf 1 = .ok (.istore 4, 2) := by decide +kernel
theorem dX10_weightOf_3 : decode cX10_weightOf 3 = .ok (.iconst 0, 1) := by decide +kernel
theorem dX10_weightOf_4 : decode cX10_weightOf 4 = .ok (.istore 5, 2) := by decide +kernel
theorem dX10_weightOf_6 : decode cX10_weightOf 6 = .ok (.iload 5, 2) := by decide +kernel
theorem dX10_weightOf_8 : decode cX10_weightOf 8 = .ok (.aload_n 0, 1) := by decide +kernel
theorem dX10_weightOf_9 : decode cX10_weightOf 9 = .ok (.getfield 37, 3) := by decide +kernel
theorem dX10_weightOf_12 : decode cX10_weightOf 12 = .ok (.if_icmp .ge 52, 3) := by decide +kernel
theorem dX10_weightOf_15 : decode cX10_weightOf 15 = .ok (.aload_n 0, 1) := by decide +kernel
theorem dX10_weightOf_16 : decode cX10_weightOf 16 = .ok (.getfield 40, 3) := by decide +kernel
theorem dX10_weightOf_19 : decode cX10_weightOf 19 = .ok (.iload 5, 2) := by decide +kernel
theorem dX10_weightOf_21 : decode cX10_weightOf 21 = .ok (.iaload, 1) := by decide +kernel
theorem dX10_weightOf_22 : decode cX10_weightOf 22 = .ok (.iload_n 1, 1) := by decide +kernel
theorem dX10_weightOf_23 : decode cX10_weightOf 23 = .ok (.if_icmp .ne 35, 3) := by decide +kernel
theorem dX10_weightOf_26 : decode cX10_weightOf 26 = .ok (.aload_n 0, 1) := by decide +kernel
theorem dX10_weightOf_27 : decode cX10_weightOf 27 = .ok (.getfield 46, 3) := by decide +kernel
theorem dX10_weightOf_30 : decode cX10_weightOf 30 = .ok (.iload 5, 2) := by decide +kernel
theorem dX10_weightOf_32 : decode cX10_weightOf 32 = .ok (.iaload, 1) := by decide +kernel
theorem dX10_weightOf_33 : decode cX10_weightOf 33 = .ok (.iload_n 2, 1) := by decide +kernel
theorem dX10_weightOf_34 : decode cX10_weightOf 34 = .ok (.if_icmp .gt 24, 3) := by decide +kernel
theorem dX10_weightOf_37 : decode cX10_weightOf 37 = .ok (.iload_n 3, 1) := by decide +kernel
theorem dX10_weightOf_38 : decode cX10_weightOf 38 = .ok (.iload 5, 2) := by decide +kernel
theorem dX10_weightOf_40 : decode cX10_weightOf 40 = .ok (.ishr, 1) := by decide +kernel
theorem dX10_weightOf_41 : decode cX10_weightOf 41 = .ok (.iconst 1, 1) := by decide +kernel
theorem dX10_weightOf_42 : decode cX10_weightOf 42 = .ok (.iand, 1) := by decide +kernel
theorem dX10_weightOf_43 : decode cX10_weightOf 43 = .ok (.ifCond .eq 15, 3) := by decide +kernel
theorem dX10_weightOf_46 : decode cX10_weightOf 46 = .ok (.iload 4, 2) := by decide +kernel
theorem dX10_weightOf_48 : decode cX10_weightOf 48 = .ok (.aload_n 0, 1) := by decide +kernel
theorem dX10_weightOf_49 : decode cX10_weightOf 49 = .ok (.getfield 43, 3) := by decide +kernel
theorem dX10_weightOf_52 : decode cX10_weightOf 52 = .ok (.iload 5, 2) := by decide +kernel
theorem dX10_weightOf_54 : decode cX10_weightOf 54 = .ok (.iaload, 1) := by decide +kernel
theorem dX10_weightOf_55 : decode cX10_weightOf 55 = .ok (.iadd, 1) := by decide +kernel
theorem dX10_weightOf_56 : decode cX10_weightOf 56 = .ok (.istore 4, 2) := by decide +kernel
theorem dX10_weightOf_58 : decode cX10_weightOf 58 = .ok (.iinc 5 1, 3) := by decide +kernel
theorem dX10_weightOf_61 : decode cX10_weightOf 61 = .ok (.goto (-55), 3) := by decide +kernel
theorem dX10_weightOf_64 : decode cX10_weightOf 64 = .ok (.iload 4, 2) := by decide +kernel
theorem dX10_weightOf_66 : decode cX10_weightOf 66 = .ok (.ireturn, 1) := by decide +kernel
theorem dX2_thinkFirst_0 : decode cX2_thinkFirst 0 = .ok (.aload_n 0, 1) := by decide +kernel
theorem dX2_thinkFirst_1 : decode cX2_thinkFirst 1 = .ok (.getfield 23, 3) := by decide +kernel
theorem dX2_thinkFirst_4 : decode cX2_thinkFirst 4 = .ok (.iload_n 1, 1) := by decide +kernel
theorem dX2_thinkFirst_5 : decode cX2_thinkFirst 5 = .ok (.aload_n 0, 1) := by decide +kernel
theorem dX2_thinkFirst_6 : decode cX2_thinkFirst 6 = .ok (.getfield 9, 3) := by decide +kernel
theorem dX2_thinkFirst_9 : decode cX2_thinkFirst 9 = .ok (.getfield 55, 3) := by decide +kernel
theorem dX2_thinkFirst_12 : decode cX2_thinkFirst 12 = .ok (.iload_n 1, 1) := by decide +kernel
theorem dX2_thinkFirst_13 : decode cX2_thinkFirst 13 = .ok (.aaload, 1) := by decide +kernel
theorem dX2_thinkFirst_14 : decode cX2_thinkFirst 14 = .ok (.aload_n 0, 1) := by decide +kernel
theorem dX2_thinkFirst_15 : decode cX2_thinkFirst 15 = .ok (.getfield 9, 3) := by decide +kernel
theorem dX2_thinkFirst_18 : decode cX2_thinkFirst 18 = .ok (.getfield 100, 3) := by decide +kernel
theorem dX2_thinkFirst_21 : decode cX2_thinkFirst 21 = .ok (.iload_n 1, 1) := by decide +kernel
theorem dX2_thinkFirst_22 : decode cX2_thinkFirst 22 = .ok (.iaload, 1) := by decide +kernel
theorem dX2_thinkFirst_23 : decode cX2_thinkFirst 23 = .ok (.aload_n 0, 1) := by decide +kernel
theorem dX2_thinkFirst_24 : decode cX2_thinkFirst 24 = .ok (.getfield 9, 3) := by decide +kernel
theorem dX2_thinkFirst_27 : decode cX2_thinkFirst 27 = .ok (.aload_n 0, 1) := by decide +kernel
theorem dX2_thinkFirst_28 : decode cX2_thinkFirst 28 = .ok (.getfield 9, 3) := by decide +kernel
theorem dX2_thinkFirst_31 : decode cX2_thinkFirst 31 = .ok (.getfield 103, 3) := by decide +kernel
theorem dX2_thinkFirst_34 : decode cX2_thinkFirst 34 = .ok (.iload_n 1, 1) := by decide +kernel
theorem dX2_thinkFirst_35 : decode cX2_thinkFirst 35 = .ok (.iaload, 1) := by decide +kernel
theorem dX2_thinkFirst_36 : decode cX2_thinkFirst 36 = .ok (.aload_n 0, 1) := by decide +kernel
theorem dX2_thinkFirst_37 : decode cX2_thinkFirst 37 = .ok (.getfield 19, 3) := by decide +kernel
theorem dX2_thinkFirst_40 : decode cX2_thinkFirst 40 = .ok (.iload_n 1, 1) := by decide +kernel
theorem dX2_thinkFirst_41 : decode cX2_thinkFirst 41 = .ok (.iaload, 1) := by decide +kernel
theorem dX2_thinkFirst_42 : decode cX2_thinkFirst 42 = .ok (.aload_n 0, 1) := by decide +kernel
theorem dX2_thinkFirst_43 : decode cX2_thinkFirst 43 = .ok (.getfield 15, 3) := by decide +kernel
theorem dX2_thinkFirst_46 : decode cX2_thinkFirst 46 = .ok (.invokevirtual 106, 3) := by decide +kernel
theorem dX2_thinkFirst_49 : decode cX2_thinkFirst 49 = .ok (.invokevirtual 110, 3) := by decide +kernel
theorem dX2_thinkFirst_52 : decode cX2_thinkFirst 52 = .ok (.iastore, 1) := by decide +kernel
theorem dX2_thinkFirst_53 : decode cX2_thinkFirst 53 = .ok (.return_, 1) := by decide +kernel
theorem dX2_leftOf_0 : decode cX2_leftOf 0 = .ok (.iconst 0, 1) := by decide +kernel
theorem dX2_leftOf_1 : decode cX2_leftOf 1 = .ok (.aload_n 0, 1) := by decide +kernel
theorem dX2_leftOf_2 : decode cX2_leftOf 2 = .ok (.getfield 38, 3) := by decide +kernel
theorem dX2_leftOf_5 : decode cX2_leftOf 5 = .ok (.iload_n 1, 1) := by decide +kernel
theorem dX2_leftOf_6 : decode cX2_leftOf 6 = .ok (.iaload, 1) := by decide +kernel
theorem dX2_leftOf_7 : decode cX2_leftOf 7 = .ok (.aload_n 0, 1) := by decide +kernel
theorem dX2_leftOf_8 : decode cX2_leftOf 8 = .ok (.getfield 44, 3) := by decide +kernel
theorem dX2_leftOf_11 : decode cX2_leftOf 11 = .ok (.iload_n 1, 1) := by decide +kernel
theorem dX2_leftOf_12 : decode cX2_leftOf 12 = .ok (.iaload, 1) := by decide +kernel
theorem dX2_leftOf_13 : decode cX2_leftOf 13 = .ok (.iload_n 2, 1) := by decide +kernel
theorem dX2_leftOf_14 : decode cX2_leftOf 14 = .ok (.aload_n 0, 1) := by decide +kernel
theorem dX2_leftOf_15 : decode cX2_leftOf 15 = .ok (.getfield 41, 3) := by decide +kernel
theorem dX2_leftOf_18 : decode cX2_leftOf 18 = .ok (.iload_n 1, 1) := by decide +kernel
theorem dX2_leftOf_19 : decode cX2_leftOf 19 = .ok (.iaload, 1) := by decide +kernel
theorem dX2_leftOf_20 : decode cX2_leftOf 20 = .ok (.isub, 1) := by decide +kernel
theorem dX2_leftOf_21 : decode cX2_leftOf 21 = .ok (.imul, 1) := by decide +kernel
theorem dX2_leftOf_22 : decode cX2_leftOf 22 = .ok (.isub, 1) := by decide +kernel
theorem dX2_leftOf_23 : decode cX2_leftOf 23 = .ok (.invokestatic 117, 3) := by decide +kernel
theorem dX2_leftOf_26 : decode cX2_leftOf 26 = .ok (.ireturn, 1) := by decide +kernel
theorem dX2_isForSale_0 : decode cX2_isForSale 0 = .ok (.aload_n 0, 1) := by decide +kernel
theorem dX2_isForSale_1 : decode cX2_isForSale 1 = .ok (.getfield 35, 3) := by decide +kernel
theorem dX2_isForSale_4 : decode cX2_isForSale 4 = .ok (.iload_n 1, 1) := by decide +kernel
theorem dX2_isForSale_5 : decode cX2_isForSale 5 = .ok (.iaload, 1) := by decide +kernel
theorem dX2_isForSale_6 : decode cX2_isForSale 6 = .ok (.ifCond .eq 13, 3) := by decide +kernel
theorem dX2_isForSale_9 : decode cX2_isForSale 9 = .ok (.aload_n 0, 1) := by decide +kernel
theorem dX2_isForSale_10 : decode cX2_isForSale 10 = .ok (.getfield 41, 3) := by decide +kernel
theorem dX2_isForSale_13 : decode cX2_isForSale 13 = .ok (.iload_n 1, 1) := by decide +kernel
theorem dX2_isForSale_14 : decode cX2_isForSale 14 = .ok (.iaload, 1) := by decide +kernel
theorem dX2_isForSale_15 : decode cX2_isForSale 15 = .ok (.iload_n 2, 1) := by decide +kernel
theorem dX2_isForSale_16 : decode cX2_isForSale 16 = .ok (.if_icmp .le 5, 3) := by decide +kernel
theorem dX2_isForSale_19 : decode cX2_isForSale 19 = .ok (.iconst 0, 1) := by decide +kernel
theorem dX2_isForSale_20 : decode cX2_isForSale 20 = .ok (.ireturn, 1) := by decide +kernel
theorem dX2_isForSale_21 : decode cX2_isForSale 21 = .ok (.aload_n 0, 1) := by decide +kernel
theorem dX2_isForSale_22 : decode cX2_isForSale 22 = .ok (.getfield 47, 3) := by decide +kernel
theorem dX2_isForSale_25 : decode cX2_isForSale 25 = .ok (.iload_n 1, 1) := by decide +kernel
theorem dX2_isForSale_26 : decode cX2_isForSale 26 = .ok (.iaload, 1) := by decide +kernel
theorem dX2_isForSale_27 : decode cX2_isForSale 27 = .ok (.ifCond .lt 22, 3) := by decide +kernel
theorem dX2_isForSale_30 : decode cX2_isForSale 30 = .ok (.aload_n 0, 1) := by decide +kernel
theorem dX2_isForSale_31 : decode cX2_isForSale 31 = .ok (.getfield 19, 3) := by decide +kernel
theorem dX2_isForSale_34 : decode cX2_isForSale 34 = .ok (.aload_n 0, 1) := by decide +kernel
theorem dX2_isForSale_35 : decode cX2_isForSale 35 = .ok (.getfield 47, 3) := by decide +kernel
theorem dX2_isForSale_38 : decode cX2_isForSale 38 = .ok (.iload_n 1, 1) := by decide +kernel
theorem dX2_isForSale_39 : decode cX2_isForSale 39 = .ok (.iaload, 1) := by decide +kernel
theorem dX2_isForSale_40 : decode cX2_isForSale 40 = .ok (.iaload, 1) := by decide +kernel
theorem dX2_isForSale_41 : decode cX2_isForSale 41 = .ok (.iload_n 2, 1) := by decide +kernel
theorem dX2_isForSale_42 : decode cX2_isForSale 42 = .ok (.if_icmp .gt 7, 3) := by decide +kernel
theorem dX2_isForSale_45 : decode cX2_isForSale 45 = .ok (.iconst 1, 1) := by decide +kernel
theorem dX2_isForSale_46 : decode cX2_isForSale 46 = .ok (.goto 4, 3) := by decide +kernel
theorem dX2_isForSale_49 : decode cX2_isForSale 49 = .ok (.iconst 0, 1) := by decide +kernel
theorem dX2_isForSale_50 : decode cX2_isForSale 50 = .ok (.istore_n 3, 1) := by decide +kernel
theorem dX2_isForSale_51 : decode cX2_isForSale 51 = .ok (.iload_n 3, 1) := by decide +kernel
theorem dX2_isForSale_52 : decode cX2_isForSale 52 = .ok (.ifCond .ne 16, 3) := by decide +kernel
theorem dX2_isForSale_55 : decode cX2_isForSale 55 = .ok (.aload_n 0, 1) := by decide +kernel
theorem dX2_isForSale_56 : decode cX2_isForSale 56 = .ok (.iload_n 1, 1) := by decide +kernel
theorem dX2_isForSale_57 : decode cX2_isForSale 57 = .ok (.iload_n 2, 1) := by decide +kernel
theorem dX2_isForSale_58 : decode cX2_isForSale 58 = .ok (.invokevirtual 138, 3) := by decide +kernel
theorem dX2_isForSale_61 : decode cX2_isForSale 61 = .ok (.ifCond .le 7, 3) := by decide +kernel
theorem dX2_isForSale_64 : decode cX2_isForSale 64 = .ok (.iconst 1, 1) := by decide +kernel
theorem dX2_isForSale_65 : decode cX2_isForSale 65 = .ok (.goto 4, 3) := by decide +kernel
theorem dX2_isForSale_68 : decode cX2_isForSale 68 = .ok (.iconst 0, 1) := by decide +kernel
theorem dX2_isForSale_69 : decode cX2_isForSale 69 = .ok (.ireturn, 1) := by decide +kernel
theorem dX2_caseOf_0 : decode cX2_caseOf 0 = .ok (.iload_n 1, 1) := by decide +kernel
theorem dX2_caseOf_1 : decode cX2_caseOf 1 = .ok (.bipush 8, 2) := by decide +kernel
theorem dX2_caseOf_3 : decode cX2_caseOf 3 = .ok (.if_icmp .ge 15, 3) := by decide +kernel
theorem dX2_caseOf_6 : decode cX2_caseOf 6 = .ok (.aload_n 0, 1) := by decide +kernel
theorem dX2_caseOf_7 : decode cX2_caseOf 7 = .ok (.getfield 9, 3) := by decide +kernel
theorem dX2_caseOf_10 : decode cX2_caseOf 10 = .ok (.getfield 103, 3) := by decide +kernel
theorem dX2_caseOf_13 : decode cX2_caseOf 13 = .ok (.iload_n 1, 1) := by decide +kernel
theorem dX2_caseOf_14 : decode cX2_caseOf 14 = .ok (.iaload, 1) := by decide +kernel
theorem dX2_caseOf_15 : decode cX2_caseOf 15 = .ok (.goto 15, 3) := by decide +kernel
theorem dX2_caseOf_18 : decode cX2_caseOf 18 = .ok (.aload_n 0, 1) := by decide +kernel
theorem dX2_caseOf_19 : decode cX2_caseOf 19 = .ok (.getfield 9, 3) := by decide +kernel
theorem dX2_caseOf_22 : decode cX2_caseOf 22 = .ok (.getfield 153, 3) := by decide +kernel
theorem dX2_caseOf_25 : decode cX2_caseOf 25 = .ok (.iload_n 1, 1) := by decide +kernel
theorem dX2_caseOf_26 : decode cX2_caseOf 26 = .ok (.bipush 8, 2) := by decide +kernel
theorem dX2_caseOf_28 : decode cX2_caseOf 28 = .ok (.isub, 1) := by decide +kernel
theorem dX2_caseOf_29 : decode cX2_caseOf 29 = .ok (.iaload, 1) := by decide +kernel
theorem dX2_caseOf_30 : decode cX2_caseOf 30 = .ok (.ireturn, 1) := by decide +kernel
theorem dX10_areKin_0 : decode cX10_areKin 0 = .ok (.aload_n 0, 1) := by decide +kernel
theorem dX10_areKin_1 : decode cX10_areKin 1 = .ok (.getfield 70, 3) := by decide +kernel
theorem dX10_areKin_4 : decode cX10_areKin 4 = .ok (.iload_n 1, 1) := by decide +kernel
theorem dX10_areKin_5 : decode cX10_areKin 5 = .ok (.iaload, 1) := by decide +kernel
theorem dX10_areKin_6 : decode cX10_areKin 6 = .ok (.iload_n 2, 1) := by decide +kernel
theorem dX10_areKin_7 : decode cX10_areKin 7 = .ok (.ishr, 1) := by decide +kernel
theorem dX10_areKin_8 : decode cX10_areKin 8 = .ok (.iconst 1, 1) := by decide +kernel
theorem dX10_areKin_9 : decode cX10_areKin 9 = .ok (.iand, 1) := by decide +kernel
theorem dX10_areKin_10 : decode cX10_areKin 10 = .ok (.ifCond .eq 7, 3) := by decide +kernel
theorem dX10_areKin_13 : decode cX10_areKin 13 = .ok (.iconst 1, 1) := by decide +kernel
theorem dX10_areKin_14 : decode cX10_areKin 14 = .ok (.goto 4, 3) := by decide +kernel
theorem dX10_areKin_17 : decode cX10_areKin 17 = .ok (.iconst 0, 1) := by decide +kernel
theorem dX10_areKin_18 : decode cX10_areKin 18 = .ok (.ireturn, 1) := by decide +kernel
theorem dX2_buyBest_0 : decode cX2_buyBest 0 = .ok (.aload_n 0, 1) := by decide +kernel
theorem dX2_buyBest_1 : decode cX2_buyBest 1 = .ok (.getfield 9, 3) := by decide +kernel
theorem dX2_buyBest_4 : decode cX2_buyBest 4 = .ok (.getfield 55, 3) := by decide +kernel
theorem dX2_buyBest_7 : decode cX2_buyBest 7 = .ok (.iload_n 1, 1) := by decide +kernel
theorem dX2_buyBest_8 : decode cX2_buyBest 8 = .ok (.aaload, 1) := by decide +kernel
theorem dX2_buyBest_9 : decode cX2_buyBest 9 = .ok (.astore_n 2, 1) := by decide +kernel
theorem dX2_buyBest_10 : decode cX2_buyBest 10 = .ok (.aload_n 2, 1) := by decide +kernel
theorem dX2_buyBest_11 : decode cX2_buyBest 11 = .ok (.aload_n 0, 1) := by decide +kernel
theorem dX2_buyBest_12 : decode cX2_buyBest 12 = .ok (.getfield 23, 3) := by decide +kernel
theorem dX2_buyBest_15 : decode cX2_buyBest 15 = .ok (.iload_n 1, 1) := by decide +kernel
theorem dX2_buyBest_16 : decode cX2_buyBest 16 = .ok (.iaload, 1) := by decide +kernel
theorem dX2_buyBest_17 : decode cX2_buyBest 17 = .ok (.invokevirtual 122, 3) := by decide +kernel
theorem dX2_buyBest_20 : decode cX2_buyBest 20 = .ok (.istore_n 3, 1) := by decide +kernel
theorem dX2_buyBest_21 : decode cX2_buyBest 21 = .ok (.iconst 0, 1) := by decide +kernel
theorem dX2_buyBest_22 : decode cX2_buyBest 22 = .ok (.istore 4, 2) := by decide +kernel
theorem dX2_buyBest_24 : decode cX2_buyBest 24 = .ok (.aload_n 0, 1) := by decide +kernel
theorem dX2_buyBest_25 : decode cX2_buyBest 25 = .ok (.getfield 29, 3) := by decide +kernel
theorem dX2_buyBest_28 : decode cX2_buyBest 28 = .ok (.iload_n 1, 1) := by decide +kernel
theorem dX2_buyBest_29 : decode cX2_buyBest 29 = .ok (.bipush (-4), 2) := by decide +kernel
theorem dX2_buyBest_31 : decode cX2_buyBest 31 = .ok (.iastore, 1) := by decide +kernel
theorem dX2_buyBest_32 : decode cX2_buyBest 32 = .ok (.aload_n 0, 1) := by decide +kernel
theorem dX2_buyBest_33 : decode cX2_buyBest 33 = .ok (.getfield 32, 3) := by decide +kernel
theorem dX2_buyBest_36 : decode cX2_buyBest 36 = .ok (.iload_n 1, 1) := by decide +kernel
theorem dX2_buyBest_37 : decode cX2_buyBest 37 = .ok (.iconst 0, 1) := by decide +kernel
theorem dX2_buyBest_38 : decode cX2_buyBest 38 = .ok (.iastore, 1) := by decide +kernel
theorem dX2_buyBest_39 : decode cX2_buyBest 39 = .ok (.iconst 0, 1) := by decide +kernel
theorem dX2_buyBest_40 : decode cX2_buyBest 40 = .ok (.istore 5, 2) := by decide +kernel
theorem dX2_buyBest_42 : decode cX2_buyBest 42 = .ok (.iload 5, 2) := by decide +kernel
theorem dX2_buyBest_44 : decode cX2_buyBest 44 = .ok (.bipush 11, 2) := by decide +kernel
theorem dX2_buyBest_46 : decode cX2_buyBest 46 = .ok (.if_icmp .ge 196, 3) := by decide +kernel
theorem dX2_buyBest_49 : decode cX2_buyBest 49 = .ok (.aload_n 0, 1) := by decide +kernel
theorem dX2_buyBest_50 : decode cX2_buyBest 50 = .ok (.iload 5, 2) := by decide +kernel
theorem dX2_buyBest_52 : decode cX2_buyBest 52 = .ok (.aload_n 0, 1) := by decide +kernel
theorem dX2_buyBest_53 : decode cX2_buyBest 53 = .ok (.getfield 19, 3) := by decide +kernel
theorem dX2_buyBest_56 : decode cX2_buyBest 56 = .ok (.iload_n 1, 1) := by decide +kernel
theorem dX2_buyBest_57 : decode cX2_buyBest 57 = .ok (.iaload, 1) := by decide +kernel
theorem dX2_buyBest_58 : decode cX2_buyBest 58 = .ok (.invokevirtual 128, 3) := by decide +kernel
theorem dX2_buyBest_61 : decode cX2_buyBest 61 = .ok (.ifCond .eq 175, 3) := by decide +kernel
theorem dX2_buyBest_64 : decode cX2_buyBest 64 = .ok (.aload_n 0, 1) := by decide +kernel
theorem dX2_buyBest_65 : decode cX2_buyBest 65 = .ok (.getfield 9, 3) := by decide +kernel
theorem dX2_buyBest_68 : decode cX2_buyBest 68 = .ok (.aload_n 0, 1) := by decide +kernel
theorem dX2_buyBest_69 : decode cX2_buyBest 69 = .ok (.getfield 9, 3) := by decide +kernel
theorem dX2_buyBest_72 : decode cX2_buyBest 72 = .ok (.getfield 103, 3) := by decide +kernel
theorem dX2_buyBest_75 : decode cX2_buyBest 75 = .ok (.iload_n 1, 1) := by decide +kernel
theorem dX2_buyBest_76 : decode cX2_buyBest 76 = .ok (.iaload, 1) := by decide +kernel
theorem dX2_buyBest_77 : decode cX2_buyBest 77 = .ok (.aload_n 0, 1) := by decide +kernel
theorem dX2_buyBest_78 : decode cX2_buyBest 78 = .ok (.iload 5, 2) := by decide +kernel
theorem dX2_buyBest_80 : decode cX2_buyBest 80 = .ok (.invokevirtual 132, 3) := by decide +kernel
theorem dX2_buyBest_83 : decode cX2_buyBest 83 = .ok (.invokevirtual 135, 3) := by decide +kernel
theorem dX2_buyBest_86 : decode cX2_buyBest 86 = .ok (.ifCond .ne 6, 3) := by decide +kernel
theorem dX2_buyBest_89 : decode cX2_buyBest 89 = .ok (.goto 147, 3) := by decide +kernel
theorem dX2_buyBest_92 : decode cX2_buyBest 92 = .ok (.aload_n 0, 1) := by decide +kernel
theorem dX2_buyBest_93 : decode cX2_buyBest 93 = .ok (.iload 5, 2) := by decide +kernel
theorem dX2_buyBest_95 : decode cX2_buyBest 95 = .ok (.aload_n 0, 1) := by decide +kernel
theorem dX2_buyBest_96 : decode cX2_buyBest 96 = .ok (.getfield 19, 3) := by decide +kernel
theorem dX2_buyBest_99 : decode cX2_buyBest 99 = .ok (.iload_n 1, 1) := by decide +kernel
theorem dX2_buyBest_100 : decode cX2_buyBest 100 = .ok (.iaload, 1) := by decide +kernel
theorem dX2_buyBest_101 : decode cX2_buyBest 101 = .ok (.invokevirtual 138, 3) := by decide +kernel
theorem dX2_buyBest_104 : decode cX2_buyBest 104 = .ok (.istore 6, 2) := by decide +kernel
theorem dX2_buyBest_106 : decode cX2_buyBest 106 = .ok (.iload 5, 2) := by decide +kernel
theorem dX2_buyBest_108 : decode cX2_buyBest 108 = .ok (.bipush 8, 2) := by decide +kernel
theorem dX2_buyBest_110 : decode cX2_buyBest 110 = .ok (.if_icmp .ge 30, 3) := by decide +kernel
theorem dX2_buyBest_113 : decode cX2_buyBest 113 = .ok (.aload_n 0, 1) := by decide +kernel
theorem dX2_buyBest_114 : decode cX2_buyBest 114 = .ok (.getfield 9, 3) := by decide +kernel
theorem dX2_buyBest_117 : decode cX2_buyBest 117 = .ok (.getfield 55, 3) := by decide +kernel
theorem dX2_buyBest_120 : decode cX2_buyBest 120 = .ok (.iload 5, 2) := by decide +kernel
theorem dX2_buyBest_122 : decode cX2_buyBest 122 = .ok (.aaload, 1) := by decide +kernel
theorem dX2_buyBest_123 : decode cX2_buyBest 123 = .ok (.iload 6, 2) := by decide +kernel
theorem dX2_buyBest_125 : decode cX2_buyBest 125 = .ok (.aload_n 0, 1) := by decide +kernel
theorem dX2_buyBest_126 : decode cX2_buyBest 126 = .ok (.getfield 9, 3) := by decide +kernel
theorem dX2_buyBest_129 : decode cX2_buyBest 129 = .ok (.getfield 80, 3) := by decide +kernel
theorem dX2_buyBest_132 : decode cX2_buyBest 132 = .ok (.iconst 2, 1) := by decide +kernel
theorem dX2_buyBest_133 : decode cX2_buyBest 133 = .ok (.iaload, 1) := by decide +kernel
theorem dX2_buyBest_134 : decode cX2_buyBest 134 = .ok (.invokevirtual 141, 3) := by decide +kernel
theorem dX2_buyBest_137 : decode cX2_buyBest 137 = .ok (.goto 16, 3) := by decide +kernel
theorem dX2_buyBest_140 : decode cX2_buyBest 140 = .ok (.aload_n 0, 1) := by decide +kernel
theorem dX2_buyBest_141 : decode cX2_buyBest 141 = .ok (.getfield 9, 3) := by decide +kernel
theorem dX2_buyBest_144 : decode cX2_buyBest 144 = .ok (.getfield 144, 3) := by decide +kernel
theorem dX2_buyBest_147 : decode cX2_buyBest 147 = .ok (.iload 5, 2) := by decide +kernel
theorem dX2_buyBest_149 : decode cX2_buyBest 149 = .ok (.bipush 8, 2) := by decide +kernel
theorem dX2_buyBest_151 : decode cX2_buyBest 151 = .ok (.isub, 1) := by decide +kernel
theorem dX2_buyBest_152 : decode cX2_buyBest 152 = .ok (.iaload, 1) := by decide +kernel
theorem dX2_buyBest_153 : decode cX2_buyBest 153 = .ok (.istore 7, 2) := by decide +kernel
theorem dX2_buyBest_155 : decode cX2_buyBest 155 = .ok (.aload_n 2, 1) := by decide +kernel
theorem dX2_buyBest_156 : decode cX2_buyBest 156 = .ok (.iload 6, 2) := by decide +kernel
theorem dX2_buyBest_158 : decode cX2_buyBest 158 = .ok (.iload_n 3, 1) := by decide +kernel
theorem dX2_buyBest_159 : decode cX2_buyBest 159 = .ok (.invokevirtual 147, 3) := by decide +kernel
theorem dX2_buyBest_162 : decode cX2_buyBest 162 = .ok (.ifCond .eq 74, 3) := by decide +kernel
theorem dX2_buyBest_165 : decode cX2_buyBest 165 = .ok (.iload 7, 2) := by decide +kernel
theorem dX2_buyBest_167 : decode cX2_buyBest 167 = .ok (.aload_n 0, 1) := by decide +kernel
theorem dX2_buyBest_168 : decode cX2_buyBest 168 = .ok (.getfield 9, 3) := by decide +kernel
theorem dX2_buyBest_171 : decode cX2_buyBest 171 = .ok (.getfield 150, 3) := by decide +kernel
theorem dX2_buyBest_174 : decode cX2_buyBest 174 = .ok (.iload_n 1, 1) := by decide +kernel
theorem dX2_buyBest_175 : decode cX2_buyBest 175 = .ok (.iaload, 1) := by decide +kernel
theorem dX2_buyBest_176 : decode cX2_buyBest 176 = .ok (.if_icmp .le 6, 3) := by decide +kernel
theorem dX2_buyBest_179 : decode cX2_buyBest 179 = .ok (.goto 57, 3) := by decide +kernel
theorem dX2_buyBest_182 : decode cX2_buyBest 182 = .ok (.aload_n 0, 1) := by decide +kernel
theorem dX2_buyBest_183 : decode cX2_buyBest 183 = .ok (.getfield 29, 3) := by decide +kernel
theorem dX2_buyBest_186 : decode cX2_buyBest 186 = .ok (.iload_n 1, 1) := by decide +kernel
theorem dX2_buyBest_187 : decode cX2_buyBest 187 = .ok (.iaload, 1) := by decide +kernel
theorem dX2_buyBest_188 : decode cX2_buyBest 188 = .ok (.ifCond .lt 28, 3) := by decide +kernel
theorem dX2_buyBest_191 : decode cX2_buyBest 191 = .ok (.iload 6, 2) := by decide +kernel
theorem dX2_buyBest_193 : decode cX2_buyBest 193 = .ok (.iload 4, 2) := by decide +kernel
theorem dX2_buyBest_195 : decode cX2_buyBest 195 = .ok (.if_icmp .gt 21, 3) := by decide +kernel
theorem dX2_buyBest_198 : decode cX2_buyBest 198 = .ok (.iload 6, 2) := by decide +kernel
theorem dX2_buyBest_200 : decode cX2_buyBest 200 = .ok (.iload 4, 2) := by decide +kernel
theorem dX2_buyBest_202 : decode cX2_buyBest 202 = .ok (.if_icmp .ne 34, 3) := by decide +kernel
theorem dX2_buyBest_205 : decode cX2_buyBest 205 = .ok (.iload 7, 2) := by decide +kernel
theorem dX2_buyBest_207 : decode cX2_buyBest 207 = .ok (.aload_n 0, 1) := by decide +kernel
theorem dX2_buyBest_208 : decode cX2_buyBest 208 = .ok (.getfield 32, 3) := by decide +kernel
theorem dX2_buyBest_211 : decode cX2_buyBest 211 = .ok (.iload_n 1, 1) := by decide +kernel
theorem dX2_buyBest_212 : decode cX2_buyBest 212 = .ok (.iaload, 1) := by decide +kernel
theorem dX2_buyBest_213 : decode cX2_buyBest 213 = .ok (.if_icmp .ge 23, 3) := by decide +kernel
theorem dX2_buyBest_216 : decode cX2_buyBest 216 = .ok (.aload_n 0, 1) := by decide +kernel
theorem dX2_buyBest_217 : decode cX2_buyBest 217 = .ok (.getfield 29, 3) := by decide +kernel
theorem dX2_buyBest_220 : decode cX2_buyBest 220 = .ok (.iload_n 1, 1) := by decide +kernel
theorem dX2_buyBest_221 : decode cX2_buyBest 221 = .ok (.iload 5, 2) := by decide +kernel
theorem dX2_buyBest_223 : decode cX2_buyBest 223 = .ok (.iastore, 1) := by decide +kernel
theorem dX2_buyBest_224 : decode cX2_buyBest 224 = .ok (.iload 6, 2) := by decide +kernel
theorem dX2_buyBest_226 : decode cX2_buyBest 226 = .ok (.istore 4, 2) := by decide +kernel
theorem dX2_buyBest_228 : decode cX2_buyBest 228 = .ok (.aload_n 0, 1) := by decide +kernel
theorem dX2_buyBest_229 : decode cX2_buyBest 229 = .ok (.getfield 32, 3) := by decide +kernel
theorem dX2_buyBest_232 : decode cX2_buyBest 232 = .ok (.iload_n 1, 1) := by decide +kernel
theorem dX2_buyBest_233 : decode cX2_buyBest 233 = .ok (.iload 7, 2) := by decide +kernel
theorem dX2_buyBest_235 : decode cX2_buyBest 235 = .ok (.iastore, 1) := by decide +kernel
theorem dX2_buyBest_236 : decode cX2_buyBest 236 = .ok (.iinc 5 1, 3) := by decide +kernel
theorem dX2_buyBest_239 : decode cX2_buyBest 239 = .ok (.goto (-197), 3) := by decide +kernel
theorem dX2_buyBest_242 : decode cX2_buyBest 242 = .ok (.return_, 1) := by decide +kernel
theorem dX11_sideOf_0 : decode cX11_sideOf 0 = .ok (.iload_n 0, 1) := by decide +kernel
theorem dX11_sideOf_1 : decode cX11_sideOf 1 = .ok (.iconst 0, 1) := by decide +kernel
theorem dX11_sideOf_2 : decode cX11_sideOf 2 = .ok (.invokestatic 334, 3) := by decide +kernel
theorem dX11_sideOf_5 : decode cX11_sideOf 5 = .ok (.ireturn, 1) := by decide +kernel
theorem dX2_choose_0 : decode cX2_choose 0 = .ok (.aload_n 0, 1) := by decide +kernel
theorem dX2_choose_1 : decode cX2_choose 1 = .ok (.getfield 29, 3) := by decide +kernel
theorem dX2_choose_4 : decode cX2_choose 4 = .ok (.iload_n 1, 1) := by decide +kernel
theorem dX2_choose_5 : decode cX2_choose 5 = .ok (.iaload, 1) := by decide +kernel
theorem dX2_choose_6 : decode cX2_choose 6 = .ok (.istore_n 2, 1) := by decide +kernel
theorem dX2_choose_7 : decode cX2_choose 7 = .ok (.iload_n 2, 1) := by decide +kernel
theorem dX2_choose_8 : decode cX2_choose 8 = .ok (.ifCond .ge 19, 3) := by decide +kernel
theorem dX2_choose_11 : decode cX2_choose 11 = .ok (.aload_n 0, 1) := by decide +kernel
theorem dX2_choose_12 : decode cX2_choose 12 = .ok (.getfield 26, 3) := by decide +kernel
theorem dX2_choose_15 : decode cX2_choose 15 = .ok (.iload_n 1, 1) := by decide +kernel
theorem dX2_choose_16 : decode cX2_choose 16 = .ok (.aload_n 0, 1) := by decide +kernel
theorem dX2_choose_17 : decode cX2_choose 17 = .ok (.getfield 23, 3) := by decide +kernel
theorem dX2_choose_20 : decode cX2_choose 20 = .ok (.iload_n 1, 1) := by decide +kernel
theorem dX2_choose_21 : decode cX2_choose 21 = .ok (.iaload, 1) := by decide +kernel
theorem dX2_choose_22 : decode cX2_choose 22 = .ok (.invokestatic 114, 3) := by decide +kernel
theorem dX2_choose_25 : decode cX2_choose 25 = .ok (.iastore, 1) := by decide +kernel
theorem dX2_choose_26 : decode cX2_choose 26 = .ok (.return_, 1) := by decide +kernel
theorem dX2_choose_27 : decode cX2_choose 27 = .ok (.aload_n 0, 1) := by decide +kernel
theorem dX2_choose_28 : decode cX2_choose 28 = .ok (.getfield 26, 3) := by decide +kernel
theorem dX2_choose_31 : decode cX2_choose 31 = .ok (.iload_n 1, 1) := by decide +kernel
theorem dX2_choose_32 : decode cX2_choose 32 = .ok (.aload_n 0, 1) := by decide +kernel
theorem dX2_choose_33 : decode cX2_choose 33 = .ok (.getfield 35, 3) := by decide +kernel
theorem dX2_choose_36 : decode cX2_choose 36 = .ok (.iload_n 2, 1) := by decide +kernel
theorem dX2_choose_37 : decode cX2_choose 37 = .ok (.iaload, 1) := by decide +kernel
theorem dX2_choose_38 : decode cX2_choose 38 = .ok (.iastore, 1) := by decide +kernel
theorem dX2_choose_39 : decode cX2_choose 39 = .ok (.aload_n 0, 1) := by decide +kernel
theorem dX2_choose_40 : decode cX2_choose 40 = .ok (.getfield 47, 3) := by decide +kernel
theorem dX2_choose_43 : decode cX2_choose 43 = .ok (.iload_n 2, 1) := by decide +kernel
theorem dX2_choose_44 : decode cX2_choose 44 = .ok (.iload_n 1, 1) := by decide +kernel
theorem dX2_choose_45 : decode cX2_choose 45 = .ok (.iastore, 1) := by decide +kernel
theorem dX2_choose_46 : decode cX2_choose 46 = .ok (.return_, 1) := by decide +kernel
theorem dX2_thinkAgain_0 : decode cX2_thinkAgain 0 = .ok (.aload_n 0, 1) := by decide +kernel
theorem dX2_thinkAgain_1 : decode cX2_thinkAgain 1 = .ok (.getfield 9, 3) := by decide +kernel
theorem dX2_thinkAgain_4 : decode cX2_thinkAgain 4 = .ok (.getfield 80, 3) := by decide +kernel
theorem dX2_thinkAgain_7 : decode cX2_thinkAgain 7 = .ok (.iconst 0, 1) := by decide +kernel
theorem dX2_thinkAgain_8 : decode cX2_thinkAgain 8 = .ok (.iaload, 1) := by decide +kernel
theorem dX2_thinkAgain_9 : decode cX2_thinkAgain 9 = .ok (.aload_n 0, 1) := by decide +kernel
theorem dX2_thinkAgain_10 : decode cX2_thinkAgain 10 = .ok (.getfield 19, 3) := by decide +kernel
theorem dX2_thinkAgain_13 : decode cX2_thinkAgain 13 = .ok (.iload_n 1, 1) := by decide +kernel
theorem dX2_thinkAgain_14 : decode cX2_thinkAgain 14 = .ok (.iaload, 1) := by decide +kernel
theorem dX2_thinkAgain_15 : decode cX2_thinkAgain 15 = .ok (.iconst 1, 1) := by decide +kernel
theorem dX2_thinkAgain_16 : decode cX2_thinkAgain 16 = .ok (.iadd, 1) := by decide +kernel
theorem dX2_thinkAgain_17 : decode cX2_thinkAgain 17 = .ok (.invokestatic 117, 3) := by decide +kernel
theorem dX2_thinkAgain_20 : decode cX2_thinkAgain 20 = .ok (.istore_n 2, 1) := by decide +kernel
theorem dX2_thinkAgain_21 : decode cX2_thinkAgain 21 = .ok (.iload_n 2, 1) := by decide +kernel
theorem dX2_thinkAgain_22 : decode cX2_thinkAgain 22 = .ok (.bipush 23, 2) := by decide +kernel
theorem dX2_thinkAgain_24 : decode cX2_thinkAgain 24 = .ok (.if_icmp .le 4, 3) := by decide +kernel
theorem dX2_thinkAgain_27 : decode cX2_thinkAgain 27 = .ok (.return_, 1) := by decide +kernel
theorem dX2_thinkAgain_28 : decode cX2_thinkAgain 28 = .ok (.aload_n 0, 1) := by decide +kernel
theorem dX2_thinkAgain_29 : decode cX2_thinkAgain 29 = .ok (.getfield 9, 3) := by decide +kernel
theorem dX2_thinkAgain_32 : decode cX2_thinkAgain 32 = .ok (.getfield 55, 3) := by decide +kernel
theorem dX2_thinkAgain_35 : decode cX2_thinkAgain 35 = .ok (.iload_n 1, 1) := by decide +kernel
theorem dX2_thinkAgain_36 : decode cX2_thinkAgain 36 = .ok (.aaload, 1) := by decide +kernel
theorem dX2_thinkAgain_37 : decode cX2_thinkAgain 37 = .ok (.astore_n 3, 1) := by decide +kernel
theorem dX2_thinkAgain_38 : decode cX2_thinkAgain 38 = .ok (.aload_n 3, 1) := by decide +kernel
theorem dX2_thinkAgain_39 : decode cX2_thinkAgain 39 = .ok (.aload_n 0, 1) := by decide +kernel
theorem dX2_thinkAgain_40 : decode cX2_thinkAgain 40 = .ok (.getfield 9, 3) := by decide +kernel
theorem dX2_thinkAgain_43 : decode cX2_thinkAgain 43 = .ok (.getfield 100, 3) := by decide +kernel
theorem dX2_thinkAgain_46 : decode cX2_thinkAgain 46 = .ok (.iload_n 1, 1) := by decide +kernel
theorem dX2_thinkAgain_47 : decode cX2_thinkAgain 47 = .ok (.iaload, 1) := by decide +kernel
theorem dX2_thinkAgain_48 : decode cX2_thinkAgain 48 = .ok (.aload_n 0, 1) := by decide +kernel
theorem dX2_thinkAgain_49 : decode cX2_thinkAgain 49 = .ok (.getfield 9, 3) := by decide +kernel
theorem dX2_thinkAgain_52 : decode cX2_thinkAgain 52 = .ok (.aload_n 0, 1) := by decide +kernel
theorem dX2_thinkAgain_53 : decode cX2_thinkAgain 53 = .ok (.getfield 9, 3) := by decide +kernel
theorem dX2_thinkAgain_56 : decode cX2_thinkAgain 56 = .ok (.getfield 103, 3) := by decide +kernel
theorem dX2_thinkAgain_59 : decode cX2_thinkAgain 59 = .ok (.iload_n 1, 1) := by decide +kernel
theorem dX2_thinkAgain_60 : decode cX2_thinkAgain 60 = .ok (.iaload, 1) := by decide +kernel
theorem dX2_thinkAgain_61 : decode cX2_thinkAgain 61 = .ok (.iload_n 2, 1) := by decide +kernel
theorem dX2_thinkAgain_62 : decode cX2_thinkAgain 62 = .ok (.aload_n 0, 1) := by decide +kernel
theorem dX2_thinkAgain_63 : decode cX2_thinkAgain 63 = .ok (.getfield 15, 3) := by decide +kernel
theorem dX2_thinkAgain_66 : decode cX2_thinkAgain 66 = .ok (.invokevirtual 106, 3) := by decide +kernel
theorem dX2_thinkAgain_69 : decode cX2_thinkAgain 69 = .ok (.invokevirtual 110, 3) := by decide +kernel
theorem dX2_thinkAgain_72 : decode cX2_thinkAgain 72 = .ok (.istore 4, 2) := by decide +kernel
theorem dX2_thinkAgain_74 : decode cX2_thinkAgain 74 = .ok (.iload 4, 2) := by decide +kernel
theorem dX2_thinkAgain_76 : decode cX2_thinkAgain 76 = .ok (.ifCond .eq 47, 3) := by decide +kernel
theorem dX2_thinkAgain_79 : decode cX2_thinkAgain 79 = .ok (.iload 4, 2) := by decide +kernel
theorem dX2_thinkAgain_81 : decode cX2_thinkAgain 81 = .ok (.invokestatic 114, 3) := by decide +kernel
theorem dX2_thinkAgain_84 : decode cX2_thinkAgain 84 = .ok (.aload_n 0, 1) := by decide +kernel
theorem dX2_thinkAgain_85 : decode cX2_thinkAgain 85 = .ok (.getfield 26, 3) := by decide +kernel
theorem dX2_thinkAgain_88 : decode cX2_thinkAgain 88 = .ok (.iload_n 1, 1) := by decide +kernel
theorem dX2_thinkAgain_89 : decode cX2_thinkAgain 89 = .ok (.iaload, 1) := by decide +kernel
theorem dX2_thinkAgain_90 : decode cX2_thinkAgain 90 = .ok (.if_icmp .eq 33, 3) := by decide +kernel
theorem dX2_thinkAgain_93 : decode cX2_thinkAgain 93 = .ok (.aload_n 0, 1) := by decide +kernel
theorem dX2_thinkAgain_94 : decode cX2_thinkAgain 94 = .ok (.iload_n 1, 1) := by decide +kernel
theorem dX2_thinkAgain_95 : decode cX2_thinkAgain 95 = .ok (.iload 4, 2) := by decide +kernel
theorem dX2_thinkAgain_97 : decode cX2_thinkAgain 97 = .ok (.invokestatic 114, 3) := by decide +kernel
theorem dX2_thinkAgain_100 : decode cX2_thinkAgain 100 = .ok (.aload_n 3, 1) := by decide +kernel
theorem dX2_thinkAgain_101 : decode cX2_thinkAgain 101 = .ok (.iload 4, 2) := by decide +kernel
theorem dX2_thinkAgain_103 : decode cX2_thinkAgain 103 = .ok (.invokevirtual 122, 3) := by decide +kernel
theorem dX2_thinkAgain_106 : decode cX2_thinkAgain 106 = .ok (.iload_n 2, 1) := by decide +kernel
theorem dX2_thinkAgain_107 : decode cX2_thinkAgain 107 = .ok (.aload_n 3, 1) := by decide +kernel
theorem dX2_thinkAgain_108 : decode cX2_thinkAgain 108 = .ok (.aload_n 0, 1) := by decide +kernel
theorem dX2_thinkAgain_109 : decode cX2_thinkAgain 109 = .ok (.getfield 9, 3) := by decide +kernel
theorem dX2_thinkAgain_112 : decode cX2_thinkAgain 112 = .ok (.getfield 80, 3) := by decide +kernel
theorem dX2_thinkAgain_115 : decode cX2_thinkAgain 115 = .ok (.iconst 1, 1) := by decide +kernel
theorem dX2_thinkAgain_116 : decode cX2_thinkAgain 116 = .ok (.iaload, 1) := by decide +kernel
theorem dX2_thinkAgain_117 : decode cX2_thinkAgain 117 = .ok (.invokevirtual 125, 3) := by decide +kernel
theorem dX2_thinkAgain_120 : decode cX2_thinkAgain 120 = .ok (.invokevirtual 83, 3) := by decide +kernel
theorem dX2_thinkAgain_123 : decode cX2_thinkAgain 123 = .ok (.return_, 1) := by decide +kernel
def b_X2_offer_0 (v1 : Int32) (v2 : Int32) (v3 : Int32) (v4 : Int32) (v5 : Int32) (S : St) : Option St := gd (inb v1 11) (nm (si S 61 v1.toNatClampNeg v2) fun S2 => gd (inb v1 11) (nm (si S2 62 v1.toNatClampNeg v3) fun S4 => gd (inb v1 11) (nm (si S4 63 v1.toNatClampNeg v4) fun S6 => gd (inb v1 11) (nm (si S6 64 v1.toNatClampNeg v5) fun S8 => some S8))))
def L_X2_offer (a1 : Int32) (a2 : Int32) (a3 : Int32) (a4 : Int32) (a5 : Int32) (S : St) : Option St := b_X2_offer_0 a1 a2 a3 a4 a5 S
def b_X10_weightOf_58 (t : Nat) (v1 : Int32) (v2 : Int32) (v3 : Int32) (v4 : Int32) (v5 : Int32) (S : St) : Option ((Int32 × Int32 × Int32 × Int32 × Int32) ⊕ Int32) := some (.inl (v1, v2, v3, v4, (v5 + 1)))
def b_X10_weightOf_6 (t : Nat) (v1 : Int32) (v2 : Int32) (v3 : Int32) (v4 : Int32) (v5 : Int32) (S : St) : Option ((Int32 × Int32 × Int32 × Int32 × Int32) ⊕ Int32) := (if (gi S t 6 : Int32) ≤ v5 then some (.inr v4) else gd (inb v5 6) ((if (gi S (t + 7) v5.toNatClampNeg : Int32) = v1 then gd (inb v5 6) ((if (v2 : Int32) < (gi S (t + 9) v5.toNatClampNeg) then (b_X10_weightOf_58 t v1 v2 v3 v4 v5 S) else (if ((v3 >>> (v5 &&& 31)) &&& 1 : Int32) = 0 then (b_X10_weightOf_58 t v1 v2 v3 v4 v5 S) else gd (inb v5 6) ((b_X10_weightOf_58 t v1 v2 v3 (v4 + (gi S (t + 8) v5.toNatClampNeg)) v5 S))))) else (b_X10_weightOf_58 t v1 v2 v3 v4 v5 S))))
def l_X10_weightOf_6 (t : Nat) (S : St) (x : (Int32 × Int32 × Int32 × Int32 × Int32)) : Option ((Int32 × Int32 × Int32 × Int32 × Int32) ⊕ Int32) := b_X10_weightOf_6 t x.1 x.2.1 x.2.2.1 x.2.2.2.1 x.2.2.2.2 S
def b_X10_weightOf_0 (t : Nat) (v1 : Int32) (v2 : Int32) (v3 : Int32) (S : St) : Option Int32 := (lp 1000 (l_X10_weightOf_6 t S) (v1, v2, v3, 0, 0))
def L_X10_weightOf (t : Nat) (a1 : Int32) (a2 : Int32) (a3 : Int32) (S : St) : Option Int32 := b_X10_weightOf_0 t a1 a2 a3 S
def b_X2_thinkFirst_0 (v1 : Int32) (S : St) : Option St := (gr S 55 0).bind fun t1 => gd (isTownB t1) (gd (inb v1 8) ((gr S (t1 + 1) v1.toNatClampNeg).bind fun q4 => (gr S 55 0).bind fun t5 => gd (isTownB t5) (gd (inb v1 8) ((gr S 55 0).bind fun t8 => gd (isTownB t8) ((gr S 55 0).bind fun t10 => gd (isTownB t10) (gd (inb v1 8) (gd (inb v1 8) ((L_X10_weightOf t8 (gi S (t10 + 3) v1.toNatClampNeg) (gi S 56 v1.toNatClampNeg) (gi S 55 1) S).bind fun r14 => (L_v_sumOf q4 (gi S (t5 + 5) v1.toNatClampNeg) r14 S).bind fun r15 => gd (inb v1 8) (nm (si S 57 v1.toNatClampNeg r15) fun S17 => some S17)))))))))
def L_X2_thinkFirst (a1 : Int32) (S : St) : Option St := b_X2_thinkFirst_0 a1 S
def b_X2_leftOf_0 (v1 : Int32) (v2 : Int32) (S : St) : Option Int32 := gd (inb v1 11) (gd (inb v1 11) (gd (inb v1 11) (nm (if (0 : Int32) < ((gi S 62 v1.toNatClampNeg) - ((gi S 64 v1.toNatClampNeg) * (v2 - (gi S 63 v1.toNatClampNeg)))) then (gi S 62 v1.toNatClampNeg) - ((gi S 64 v1.toNatClampNeg) * (v2 - (gi S 63 v1.toNatClampNeg))) else 0) fun m4 => some m4)))
def L_X2_leftOf (a1 : Int32) (a2 : Int32) (S : St) : Option Int32 := b_X2_leftOf_0 a1 a2 S
def b_X2_isForSale_68 (S : St) : Option Int32 := some 0
def b_X2_isForSale_50 (v1 : Int32) (v2 : Int32) (s0 : Int32) (S : St) : Option Int32 := (if (s0 : Int32) = 0 then (L_X2_leftOf v1 v2 S).bind fun r2 => (if (r2 : Int32) ≤ 0 then (b_X2_isForSale_68 S) else some 1) else (b_X2_isForSale_68 S))
def b_X2_isForSale_49 (v1 : Int32) (v2 : Int32) (S : St) : Option Int32 := (b_X2_isForSale_50 v1 v2 0 S)
def b_X2_isForSale_0 (v1 : Int32) (v2 : Int32) (S : St) : Option Int32 := gd (inb v1 11) ((if (gi S 61 v1.toNatClampNeg : Int32) = 0 then some 0 else gd (inb v1 11) ((if (gi S 63 v1.toNatClampNeg : Int32) ≤ v2 then gd (inb v1 11) ((if (gi S 65 v1.toNatClampNeg : Int32) < 0 then (b_X2_isForSale_49 v1 v2 S) else gd (inb v1 11) (gd (inb (gi S 65 v1.toNatClampNeg) 8) ((if (v2 : Int32) < (gi S 56 (gi S 65 v1.toNatClampNeg).toNatClampNeg) then (b_X2_isForSale_49 v1 v2 S) else (b_X2_isForSale_50 v1 v2 1 S)))))) else some 0))))
def L_X2_isForSale (a1 : Int32) (a2 : Int32) (S : St) : Option Int32 := b_X2_isForSale_0 a1 a2 S
def b_X2_caseOf_0 (v1 : Int32) (S : St) : Option Int32 := (if (8 : Int32) ≤ v1 then (gr S 55 0).bind fun t2 => gd (isTownB t2) (gd (inb (v1 - 8) 3) (some (gi S (t2 + 11) (v1 - 8).toNatClampNeg))) else (gr S 55 0).bind fun t5 => gd (isTownB t5) (gd (inb v1 8) (some (gi S (t5 + 3) v1.toNatClampNeg))))
def L_X2_caseOf (a1 : Int32) (S : St) : Option Int32 := b_X2_caseOf_0 a1 S
def b_X10_areKin_0 (t : Nat) (v1 : Int32) (v2 : Int32) (S : St) : Option Int32 := gd (inb v1 4) ((if (((gi S (t + 16) v1.toNatClampNeg) >>> (v2 &&& 31)) &&& 1 : Int32) = 0 then some 0 else some 1))
def L_X10_areKin (t : Nat) (a1 : Int32) (a2 : Int32) (S : St) : Option Int32 := b_X10_areKin_0 t a1 a2 S
def b_X2_buyBest_236 (v1 : Int32) (v2 : Nat) (v3 : Int32) (v4 : Int32) (v5 : Int32) (S : St) : Option ((Int32 × Nat × Int32 × Int32 × Int32 × St) ⊕ St) := some (.inl (v1, v2, v3, v4, (v5 + 1), S))
def b_X2_buyBest_216 (v1 : Int32) (v2 : Nat) (v3 : Int32) (v5 : Int32) (v6 : Int32) (v7 : Int32) (S : St) : Option ((Int32 × Nat × Int32 × Int32 × Int32 × St) ⊕ St) := gd (inb v1 8) (nm (si S 59 v1.toNatClampNeg v5) fun S2 => gd (inb v1 8) (nm (si S2 60 v1.toNatClampNeg v7) fun S4 => (b_X2_buyBest_236 v1 v2 v3 v6 v5 S4)))
def b_X2_buyBest_153 (v1 : Int32) (v2 : Nat) (v3 : Int32) (v4 : Int32) (v5 : Int32) (v6 : Int32) (s0 : Int32) (S : St) : Option ((Int32 × Nat × Int32 × Int32 × Int32 × St) ⊕ St) := (L_v_buysOf v2 v6 v3 S).bind fun r1 => (if (r1 : Int32) = 0 then (b_X2_buyBest_236 v1 v2 v3 v4 v5 S) else (gr S 55 0).bind fun t3 => gd (isTownB t3) (gd (inb v1 8) ((if (s0 : Int32) ≤ (gi S (t3 + 6) v1.toNatClampNeg) then gd (inb v1 8) ((if (gi S 59 v1.toNatClampNeg : Int32) < 0 then (b_X2_buyBest_216 v1 v2 v3 v5 v6 s0 S) else (if (v4 : Int32) < v6 then (b_X2_buyBest_216 v1 v2 v3 v5 v6 s0 S) else (if (v6 : Int32) = v4 then gd (inb v1 8) ((if (gi S 60 v1.toNatClampNeg : Int32) ≤ s0 then (b_X2_buyBest_236 v1 v2 v3 v4 v5 S) else (b_X2_buyBest_216 v1 v2 v3 v5 v6 s0 S))) else (b_X2_buyBest_236 v1 v2 v3 v4 v5 S))))) else (b_X2_buyBest_236 v1 v2 v3 v4 v5 S)))))
def b_X2_buyBest_42 (v1 : Int32) (v2 : Nat) (v3 : Int32) (v4 : Int32) (v5 : Int32) (S : St) : Option ((Int32 × Nat × Int32 × Int32 × Int32 × St) ⊕ St) := (if (11 : Int32) ≤ v5 then some (.inr S) else gd (inb v1 8) ((L_X2_isForSale v5 (gi S 56 v1.toNatClampNeg) S).bind fun r3 => (if (r3 : Int32) = 0 then (b_X2_buyBest_236 v1 v2 v3 v4 v5 S) else (gr S 55 0).bind fun t5 => gd (isTownB t5) ((gr S 55 0).bind fun t7 => gd (isTownB t7) (gd (inb v1 8) ((L_X2_caseOf v5 S).bind fun r10 => (L_X10_areKin t5 (gi S (t7 + 3) v1.toNatClampNeg) r10 S).bind fun r11 => (if (r11 : Int32) = 0 then (b_X2_buyBest_236 v1 v2 v3 v4 v5 S) else gd (inb v1 8) ((L_X2_leftOf v5 (gi S 56 v1.toNatClampNeg) S).bind fun r14 => (if (8 : Int32) ≤ v5 then (gr S 55 0).bind fun t16 => gd (isTownB t16) (gd (inb (v5 - 8) 3) ((b_X2_buyBest_153 v1 v2 v3 v4 v5 r14 (gi S (t16 + 14) (v5 - 8).toNatClampNeg) S))) else (gr S 55 0).bind fun t19 => gd (isTownB t19) (gd (inb v5 8) ((gr S (t19 + 1) v5.toNatClampNeg).bind fun q22 => (gr S 55 0).bind fun t23 => gd (isTownB t23) (gd (inb 2 3) ((L_v_priceOf q22 r14 (gi S (t23 + 17) ((2 : Int32)).toNatClampNeg) S).bind fun r26 => (b_X2_buyBest_153 v1 v2 v3 v4 v5 r14 r26 S))))))))))))))
def l_X2_buyBest_42 (x : (Int32 × Nat × Int32 × Int32 × Int32 × St)) : Option ((Int32 × Nat × Int32 × Int32 × Int32 × St) ⊕ St) := b_X2_buyBest_42 x.1 x.2.1 x.2.2.1 x.2.2.2.1 x.2.2.2.2.1 x.2.2.2.2.2
def b_X2_buyBest_0 (v1 : Int32) (S : St) : Option St := (gr S 55 0).bind fun t1 => gd (isTownB t1) (gd (inb v1 8) ((gr S (t1 + 1) v1.toNatClampNeg).bind fun q4 => gd (inb v1 8) ((L_v_strengthOf q4 (gi S 57 v1.toNatClampNeg) S).bind fun r6 => gd (inb v1 8) (nm (si S 59 v1.toNatClampNeg ((-4))) fun S8 => gd (inb v1 8) (nm (si S8 60 v1.toNatClampNeg 0) fun S10 => (lp 1000 (l_X2_buyBest_42) (v1, q4, r6, 0, 0, S10)))))))
def L_X2_buyBest (a1 : Int32) (S : St) : Option St := b_X2_buyBest_0 a1 S
def b_X11_sideOf_0 (v0 : Int32) (S : St) : Option Int32 := (L_J6_compare_7cf53 v0 0 S).bind fun r1 => some r1
def L_X11_sideOf (a0 : Int32) (S : St) : Option Int32 := b_X11_sideOf_0 a0 S
def b_X2_choose_0 (v1 : Int32) (S : St) : Option St := gd (inb v1 8) ((if (0 : Int32) ≤ (gi S 59 v1.toNatClampNeg) then gd (inb (gi S 59 v1.toNatClampNeg) 11) (gd (inb v1 8) (nm (si S 58 v1.toNatClampNeg (gi S 61 (gi S 59 v1.toNatClampNeg).toNatClampNeg)) fun S5 => gd (inb (gi S 59 v1.toNatClampNeg) 11) (nm (si S5 65 (gi S 59 v1.toNatClampNeg).toNatClampNeg v1) fun S7 => some S7))) else gd (inb v1 8) ((L_X11_sideOf (gi S 57 v1.toNatClampNeg) S).bind fun r9 => gd (inb v1 8) (nm (si S 58 v1.toNatClampNeg r9) fun S11 => some S11))))
def L_X2_choose (a1 : Int32) (S : St) : Option St := b_X2_choose_0 a1 S
def b_X2_thinkAgain_0 (v1 : Int32) (S : St) : Option St := (gr S 55 0).bind fun t1 => gd (isTownB t1) (gd (inb 0 3) (gd (inb v1 8) (nm (if (gi S (t1 + 17) ((0 : Int32)).toNatClampNeg : Int32) < ((gi S 56 v1.toNatClampNeg) + 1) then (gi S 56 v1.toNatClampNeg) + 1 else gi S (t1 + 17) ((0 : Int32)).toNatClampNeg) fun m5 => (if (m5 : Int32) ≤ 23 then (gr S 55 0).bind fun t7 => gd (isTownB t7) (gd (inb v1 8) ((gr S (t7 + 1) v1.toNatClampNeg).bind fun q10 => (gr S 55 0).bind fun t11 => gd (isTownB t11) (gd (inb v1 8) ((gr S 55 0).bind fun t14 => gd (isTownB t14) ((gr S 55 0).bind fun t16 => gd (isTownB t16) (gd (inb v1 8) ((L_X10_weightOf t14 (gi S (t16 + 3) v1.toNatClampNeg) m5 (gi S 55 1) S).bind fun r19 => (L_v_sumOf q10 (gi S (t11 + 5) v1.toNatClampNeg) r19 S).bind fun r20 => (if (r20 : Int32) = 0 then some S else (L_X11_sideOf r20 S).bind fun r22 => gd (inb v1 8) ((if (r22 : Int32) = (gi S 58 v1.toNatClampNeg) then some S else (L_X11_sideOf r20 S).bind fun r25 => (L_v_strengthOf q10 r20 S).bind fun r26 => (gr S 55 0).bind fun t27 => gd (isTownB t27) (gd (inb 1 3) ((L_v_fadeBy q10 (gi S (t27 + 17) ((1 : Int32)).toNatClampNeg) S).bind fun r30 => (L_X2_offer v1 r25 r26 m5 r30 S).bind fun r31 => some r31)))))))))))) else some S))))
def L_X2_thinkAgain (a1 : Int32) (S : St) : Option St := b_X2_thinkAgain_0 a1 S
section WALKS
variable {p : Program} {e : Env} {s : State} {m : MethodId} {args : Array Value} {below : List Frame} {meth : Method} {c : Code} {D : va_G} {ct : Nat → ClassId} {B : Nat} {Hb : Heap}
set_option maxRecDepth 100000 in
set_option maxHeartbeats 4000000 in
theorem w_X2_offer_0 (l : Launch) {V : St} (C0 : XC D ct p s m args meth c cX2_offer 6 none RX2) (v1 : Int32) (v2 : Int32) (v3 : Int32) (v4 : Int32) (v5 : Int32) (S : St) {H : Heap} {locs : List Loc} {ls : Array Slot} (h : (b_X2_offer_0 v1 v2 v3 v4 v5 S).bind some = some V) (hP : MP D ct B Hb S H) (hS : va_S (AB B) s.heap H locs) (hl : lv_has ls 6 [(0, .ref (B + 55)), (1, .int v1), (2, .int v2), (3, .int v3), (4, .int v4), (5, .int v5)]) : W p l e { frames := 0, cells := 0, slots := 0, locals := 0 } s m args below meth c H locs 0 0 (MQ below (qVw D ct B Hb V) args s 0 0 (AB B)) (F0 m 0 ls []) := by
  obtain ⟨hx, hb, hr, hml, hown, hts, hK, hlocks, hN⟩ := id C0
  unfold b_X2_offer_0 at h
  refine lv_aload_n hx hb dX2_offer_0 rfl (lv_at hl 0 rfl) ?_
  refine x_get C0 hP (lay_X2 B ct S) rfl inG2 7 (by decide) wd_158 (fun _ h => h) rfl dX2_offer_1 ?_
  refine lv_iload_n hx hb dX2_offer_4 rfl (lv_at hl 1 rfl) ?_
  refine lv_iload_n hx hb dX2_offer_5 rfl (lv_at hl 2 rfl) ?_
  obtain ⟨g1, h⟩ := ob_gd h
  obtain ⟨S2, eS2, h⟩ := ob_nm h
  refine x_iast C0 hP hS (fun S => lay_61 B ct S) g1 dX2_offer_6 (fun H locs hP hS => ?_)
  rw [← eS2] at hP
  refine lv_aload_n hx hb dX2_offer_7 rfl (lv_at hl 0 rfl) ?_
  refine x_get C0 hP (lay_X2 B ct S2) rfl inG2 8 (by decide) wd_160 (fun _ h => h) rfl dX2_offer_8 ?_
  refine lv_iload_n hx hb dX2_offer_11 rfl (lv_at hl 1 rfl) ?_
  refine lv_iload_n hx hb dX2_offer_12 rfl (lv_at hl 3 rfl) ?_
  obtain ⟨g3, h⟩ := ob_gd h
  obtain ⟨S4, eS4, h⟩ := ob_nm h
  refine x_iast C0 hP hS (fun S => lay_62 B ct S) g3 dX2_offer_13 (fun H locs hP hS => ?_)
  rw [← eS4] at hP
  refine lv_aload_n hx hb dX2_offer_14 rfl (lv_at hl 0 rfl) ?_
  refine x_get C0 hP (lay_X2 B ct S4) rfl inG2 9 (by decide) wd_161 (fun _ h => h) rfl dX2_offer_15 ?_
  refine lv_iload_n hx hb dX2_offer_18 rfl (lv_at hl 1 rfl) ?_
  refine lv_iload hx hb dX2_offer_19 (lv_at hl 4 rfl) ?_
  obtain ⟨g5, h⟩ := ob_gd h
  obtain ⟨S6, eS6, h⟩ := ob_nm h
  refine x_iast C0 hP hS (fun S => lay_63 B ct S) g5 dX2_offer_21 (fun H locs hP hS => ?_)
  rw [← eS6] at hP
  refine lv_aload_n hx hb dX2_offer_22 rfl (lv_at hl 0 rfl) ?_
  refine x_get C0 hP (lay_X2 B ct S6) rfl inG2 10 (by decide) wd_162 (fun _ h => h) rfl dX2_offer_23 ?_
  refine lv_iload_n hx hb dX2_offer_26 rfl (lv_at hl 1 rfl) ?_
  refine lv_iload hx hb dX2_offer_27 (lv_at hl 5 rfl) ?_
  obtain ⟨g7, h⟩ := ob_gd h
  obtain ⟨S8, eS8, h⟩ := ob_nm h
  refine x_iast C0 hP hS (fun S => lay_64 B ct S) g7 dX2_offer_29 (fun H locs hP hS => ?_)
  rw [← eS8] at hP
  exact r_Vw C0 hP hS h dX2_offer_30
set_option maxRecDepth 100000 in
set_option maxHeartbeats 4000000 in
theorem c_X2_offer (l : Launch) (a1 : Int32) (a2 : Int32) (a3 : Int32) (a4 : Int32) (a5 : Int32) {D : va_G} {ct : Nat → ClassId} {B : Nat} {Hb : Heap} {S : St} {V : St} (h : L_X2_offer a1 a2 a3 a4 a5 S = some V) : Met l yX2_offer (Cond.code yX2_offer cX2_offer 6 none :: tG) { frames := 0, cells := 0, slots := 0, locals := 0 } (va_Pc [.ref (B + 55), .int a1, .int a2, .int a3, .int a4, .int a5] (MPK D ct B Hb S)) (qVw D ct B Hb V) 0 0 (AB B) := by
  refine mk_met (by decide +kernel) (Nat.le_of_ble_eq_true rfl) (fun p e s m args below meth c ls C0 hP hl _ => ?_)
  have h := ob_of h
  exact w_X2_offer_0 l C0 a1 a2 a3 a4 a5 S h hP va_S.rf (lv_sub hl [0, 1, 2, 3, 4, 5] rfl)
set_option maxRecDepth 100000 in
set_option maxHeartbeats 4000000 in
theorem w_X10_weightOf_58 (l : Launch) {V : Int32} (C0 : XC D ct p s m args meth c cX10_weightOf 6 (some .int) RX10) (t : Nat) (ht : isTown t) (v1 : Int32) (v2 : Int32) (v3 : Int32) (v4 : Int32) (v5 : Int32) (S : St) (n0 : Nat) (ih0 : ∀ (v1 : Int32) (v2 : Int32) (v3 : Int32) (v4 : Int32) (v5 : Int32) (H : Heap) (locs : List Loc) (ls : Array Slot), (lp n0 (l_X10_weightOf_6 t S) (v1, v2, v3, v4, v5)).bind some = some V → MP D ct B Hb S H → va_S (AB B) s.heap H locs → lv_has ls 6 [(0, .ref (B + t)), (1, .int v1), (2, .int v2), (3, .int v3), (4, .int v4), (5, .int v5)] → W p l e { frames := 0, cells := 0, slots := 0, locals := 0 } s m args below meth c H locs 0 0 (MQ below (qI D ct B Hb S V) args s 0 0 (AB B)) (F0 m 6 ls [])) {H : Heap} {locs : List Loc} {ls : Array Slot} (h : (b_X10_weightOf_58 t v1 v2 v3 v4 v5 S).bind (lpF n0 (l_X10_weightOf_6 t S) some) = some V) (hP : MP D ct B Hb S H) (hS : va_S (AB B) s.heap H locs) (hl : lv_has ls 6 [(0, .ref (B + t)), (1, .int v1), (2, .int v2), (3, .int v3), (4, .int v4), (5, .int v5)]) : W p l e { frames := 0, cells := 0, slots := 0, locals := 0 } s m args below meth c H locs 0 0 (MQ below (qI D ct B Hb S V) args s 0 0 (AB B)) (F0 m 58 ls []) := by
  obtain ⟨hx, hb, hr, hml, hown, hts, hK, hlocks, hN⟩ := id C0
  unfold b_X10_weightOf_58 at h
  refine lv_iinc (v := v5 + 1) (lv' := [(5, .int (v5 + 1)), (0, .ref (B + t)), (1, .int v1), (2, .int v2), (3, .int v3), (4, .int v4)]) hx hb dX10_weightOf_58 hl (k := 5) rfl rfl (by decide) rfl (fun ls hl => ?_)
  refine lv_goto (tgt := 6) hx hb dX10_weightOf_61 (by decide) ?_
  exact ih0 v1 v2 v3 v4 (v5 + 1) _ _ _ h hP hS (lv_sub hl [1, 2, 3, 4, 5, 0] rfl)
set_option maxRecDepth 100000 in
set_option maxHeartbeats 4000000 in
theorem w_X10_weightOf_6 (l : Launch) {V : Int32} (C0 : XC D ct p s m args meth c cX10_weightOf 6 (some .int) RX10) (t : Nat) (ht : isTown t) (v1 : Int32) (v2 : Int32) (v3 : Int32) (v4 : Int32) (v5 : Int32) (S : St) (n0 : Nat) (ih0 : ∀ (v1 : Int32) (v2 : Int32) (v3 : Int32) (v4 : Int32) (v5 : Int32) (H : Heap) (locs : List Loc) (ls : Array Slot), (lp n0 (l_X10_weightOf_6 t S) (v1, v2, v3, v4, v5)).bind some = some V → MP D ct B Hb S H → va_S (AB B) s.heap H locs → lv_has ls 6 [(0, .ref (B + t)), (1, .int v1), (2, .int v2), (3, .int v3), (4, .int v4), (5, .int v5)] → W p l e { frames := 0, cells := 0, slots := 0, locals := 0 } s m args below meth c H locs 0 0 (MQ below (qI D ct B Hb S V) args s 0 0 (AB B)) (F0 m 6 ls [])) {H : Heap} {locs : List Loc} {ls : Array Slot} (h : (b_X10_weightOf_6 t v1 v2 v3 v4 v5 S).bind (lpF n0 (l_X10_weightOf_6 t S) some) = some V) (hP : MP D ct B Hb S H) (hS : va_S (AB B) s.heap H locs) (hl : lv_has ls 6 [(0, .ref (B + t)), (1, .int v1), (2, .int v2), (3, .int v3), (4, .int v4), (5, .int v5)]) : W p l e { frames := 0, cells := 0, slots := 0, locals := 0 } s m args below meth c H locs 0 0 (MQ below (qI D ct B Hb S V) args s 0 0 (AB B)) (F0 m 6 ls []) := by
  obtain ⟨hx, hb, hr, hml, hown, hts, hK, hlocks, hN⟩ := id C0
  unfold b_X10_weightOf_6 at h
  refine lv_iload hx hb dX10_weightOf_6 (lv_at hl 5 rfl) ?_
  refine lv_aload_n hx hb dX10_weightOf_8 rfl (lv_at hl 0 rfl) ?_
  refine x_get C0 hP (lay_X10 B ct S ht) rfl inG10 6 (by decide) wd_77 (fun _ h => h) rfl dX10_weightOf_9 ?_
  refine lv_icmp_ge (tgt := 64) hx hb dX10_weightOf_12 (by decide) (fun z1 => ?_) (fun z1 => ?_)
  · have h := ob_t h z1
    refine lv_iload hx hb dX10_weightOf_64 (lv_at hl 4 rfl) ?_
    exact r_I C0 hP hS h dX10_weightOf_66
  · have h := ob_f h z1
    refine lv_aload_n hx hb dX10_weightOf_15 rfl (lv_at hl 0 rfl) ?_
    refine x_get C0 hP (lay_X10 B ct S ht) rfl inG10 7 (by decide) wd_79 (fun _ h => h) rfl dX10_weightOf_16 ?_
    refine lv_iload hx hb dX10_weightOf_19 (lv_at hl 5 rfl) ?_
    obtain ⟨g2, h⟩ := ob_gd h
    refine x_iald C0 hP ((fun S => lay_t7 B ct S ht) S) g2 dX10_weightOf_21 ?_
    refine lv_iload_n hx hb dX10_weightOf_22 rfl (lv_at hl 1 rfl) ?_
    refine lv_icmp_ne (tgt := 58) hx hb dX10_weightOf_23 (by decide) (fun z3 => ?_) (fun z3 => ?_)
    · have h := ob_f h z3
      exact w_X10_weightOf_58 l C0 t ht v1 v2 v3 v4 v5 S n0 ih0 h hP hS (lv_sub hl [0, 1, 2, 3, 4, 5] rfl)
    · have h := ob_t h z3
      refine lv_aload_n hx hb dX10_weightOf_26 rfl (lv_at hl 0 rfl) ?_
      refine x_get C0 hP (lay_X10 B ct S ht) rfl inG10 9 (by decide) wd_81 (fun _ h => h) rfl dX10_weightOf_27 ?_
      refine lv_iload hx hb dX10_weightOf_30 (lv_at hl 5 rfl) ?_
      obtain ⟨g4, h⟩ := ob_gd h
      refine x_iald C0 hP ((fun S => lay_t9 B ct S ht) S) g4 dX10_weightOf_32 ?_
      refine lv_iload_n hx hb dX10_weightOf_33 rfl (lv_at hl 2 rfl) ?_
      refine lv_icmp_gt (tgt := 58) hx hb dX10_weightOf_34 (by decide) (fun z5 => ?_) (fun z5 => ?_)
      · have h := ob_t h z5
        exact w_X10_weightOf_58 l C0 t ht v1 v2 v3 v4 v5 S n0 ih0 h hP hS (lv_sub hl [0, 1, 2, 3, 4, 5] rfl)
      · have h := ob_f h z5
        refine lv_iload_n hx hb dX10_weightOf_37 rfl (lv_at hl 3 rfl) ?_
        refine lv_iload hx hb dX10_weightOf_38 (lv_at hl 5 rfl) ?_
        refine lv_ishr hx hb dX10_weightOf_40 ?_
        refine lv_iconst (v := 1) hx hb dX10_weightOf_41 (by decide) ?_
        refine lv_iand hx hb dX10_weightOf_42 ?_
        refine lv_if_eq (tgt := 58) hx hb dX10_weightOf_43 (by decide) (fun z6 => ?_) (fun z6 => ?_)
        · have h := ob_t h z6
          exact w_X10_weightOf_58 l C0 t ht v1 v2 v3 v4 v5 S n0 ih0 h hP hS (lv_sub hl [0, 1, 2, 3, 4, 5] rfl)
        · have h := ob_f h z6
          refine lv_iload hx hb dX10_weightOf_46 (lv_at hl 4 rfl) ?_
          refine lv_aload_n hx hb dX10_weightOf_48 rfl (lv_at hl 0 rfl) ?_
          refine x_get C0 hP (lay_X10 B ct S ht) rfl inG10 8 (by decide) wd_80 (fun _ h => h) rfl dX10_weightOf_49 ?_
          refine lv_iload hx hb dX10_weightOf_52 (lv_at hl 5 rfl) ?_
          obtain ⟨g7, h⟩ := ob_gd h
          refine x_iald C0 hP ((fun S => lay_t8 B ct S ht) S) g7 dX10_weightOf_54 ?_
          refine lv_iadd hx hb dX10_weightOf_55 ?_
          refine lv_istore (lv' := [(4, .int (v4 + (gi S (t + 8) v5.toNatClampNeg))), (0, .ref (B + t)), (1, .int v1), (2, .int v2), (3, .int v3), (5, .int v5)]) hx hb dX10_weightOf_56 hl (by decide) rfl (fun ls hl => ?_)
          exact w_X10_weightOf_58 l C0 t ht v1 v2 v3 (v4 + (gi S (t + 8) v5.toNatClampNeg)) v5 S n0 ih0 h hP hS (lv_sub hl [1, 2, 3, 4, 0, 5] rfl)
set_option maxRecDepth 100000 in
set_option maxHeartbeats 4000000 in
theorem wl_X10_weightOf_6 (l : Launch) {V : Int32} (C0 : XC D ct p s m args meth c cX10_weightOf 6 (some .int) RX10) (t : Nat) (ht : isTown t) (S : St)  : ∀ (n0 : Nat) (v1 : Int32) (v2 : Int32) (v3 : Int32) (v4 : Int32) (v5 : Int32) {H : Heap} {locs : List Loc} {ls : Array Slot}, (lp n0 (l_X10_weightOf_6 t S) (v1, v2, v3, v4, v5)).bind some = some V → MP D ct B Hb S H → va_S (AB B) s.heap H locs → lv_has ls 6 [(0, .ref (B + t)), (1, .int v1), (2, .int v2), (3, .int v3), (4, .int v4), (5, .int v5)] → W p l e { frames := 0, cells := 0, slots := 0, locals := 0 } s m args below meth c H locs 0 0 (MQ below (qI D ct B Hb S V) args s 0 0 (AB B)) (F0 m 6 ls []) := by
  intro n0
  induction n0 with
  | zero =>
    intro v1 v2 v3 v4 v5 H locs ls h hP hS hl
    exact (lp_0 h).elim
  | succ n0 ih0 =>
    intro v1 v2 v3 v4 v5 H locs ls h hP hS hl
    have h := lp_s h
    exact w_X10_weightOf_6 l C0 t ht v1 v2 v3 v4 v5 S n0 (fun v1 v2 v3 v4 v5 H locs ls h hP hS hl => ih0 v1 v2 v3 v4 v5 h hP hS hl) h hP hS hl
set_option maxRecDepth 100000 in
set_option maxHeartbeats 4000000 in
theorem w_X10_weightOf_0 (l : Launch) {V : Int32} (C0 : XC D ct p s m args meth c cX10_weightOf 6 (some .int) RX10) (t : Nat) (ht : isTown t) (v1 : Int32) (v2 : Int32) (v3 : Int32) (S : St) {H : Heap} {locs : List Loc} {ls : Array Slot} (h : (b_X10_weightOf_0 t v1 v2 v3 S).bind some = some V) (hP : MP D ct B Hb S H) (hS : va_S (AB B) s.heap H locs) (hl : lv_has ls 6 [(0, .ref (B + t)), (1, .int v1), (2, .int v2), (3, .int v3)]) : W p l e { frames := 0, cells := 0, slots := 0, locals := 0 } s m args below meth c H locs 0 0 (MQ below (qI D ct B Hb S V) args s 0 0 (AB B)) (F0 m 0 ls []) := by
  obtain ⟨hx, hb, hr, hml, hown, hts, hK, hlocks, hN⟩ := id C0
  unfold b_X10_weightOf_0 at h
  refine lv_iconst (v := 0) hx hb dX10_weightOf_0 (by decide) ?_
  refine lv_istore (lv' := [(4, .int 0), (0, .ref (B + t)), (1, .int v1), (2, .int v2), (3, .int v3)]) hx hb dX10_weightOf_1 hl (by decide) rfl (fun ls hl => ?_)
  refine lv_iconst (v := 0) hx hb dX10_weightOf_3 (by decide) ?_
  refine lv_istore (lv' := [(5, .int 0), (4, .int 0), (0, .ref (B + t)), (1, .int v1), (2, .int v2), (3, .int v3)]) hx hb dX10_weightOf_4 hl (by decide) rfl (fun ls hl => ?_)
  exact wl_X10_weightOf_6 l C0 t ht S 1000 v1 v2 v3 0 0 h hP hS (lv_sub hl [2, 3, 4, 5, 1, 0] rfl)
set_option maxRecDepth 100000 in
set_option maxHeartbeats 4000000 in
theorem c_X10_weightOf (l : Launch) (t : Nat) (ht : isTown t) (a1 : Int32) (a2 : Int32) (a3 : Int32) {D : va_G} {ct : Nat → ClassId} {B : Nat} {Hb : Heap} {S : St} {V : Int32} (h : L_X10_weightOf t a1 a2 a3 S = some V) : Met l yX10_weightOf (Cond.code yX10_weightOf cX10_weightOf 6 (some .int) :: tG) { frames := 0, cells := 0, slots := 0, locals := 0 } (va_Pc [.ref (B + t), .int a1, .int a2, .int a3] (MPK D ct B Hb S)) (qI D ct B Hb S V) 0 0 (AB B) := by
  refine mk_met (by decide +kernel) (Nat.le_of_ble_eq_true rfl) (fun p e s m args below meth c ls C0 hP hl _ => ?_)
  have h := ob_of h
  exact w_X10_weightOf_0 l C0 t ht a1 a2 a3 S h hP va_S.rf (lv_sub hl [0, 1, 2, 3] rfl)
set_option maxRecDepth 100000 in
set_option maxHeartbeats 4000000 in
theorem w_X2_thinkFirst_0 (l : Launch) {V : St} (C0 : XC D ct p s m args meth c cX2_thinkFirst 2 none RX2) (v1 : Int32) (S : St) {H : Heap} {locs : List Loc} {ls : Array Slot} (h : (b_X2_thinkFirst_0 v1 S).bind some = some V) (hP : MP D ct B Hb S H) (hS : va_S (AB B) s.heap H locs) (hl : lv_has ls 2 [(0, .ref (B + 55)), (1, .int v1)]) : W p l e { frames := 3, cells := 0, slots := 0, locals := 66 } s m args below meth c H locs 0 0 (MQ below (qVw D ct B Hb V) args s 0 0 (AB B)) (F0 m 0 ls []) := by
  obtain ⟨hx, hb, hr, hml, hown, hts, hK, hlocks, hN⟩ := id C0
  unfold b_X2_thinkFirst_0 at h
  refine lv_aload_n hx hb dX2_thinkFirst_0 rfl (lv_at hl 0 rfl) ?_
  refine x_get C0 hP (lay_X2 B ct S) rfl inG2 3 (by decide) wd_152 (fun _ h => h) rfl dX2_thinkFirst_1 ?_
  refine lv_iload_n hx hb dX2_thinkFirst_4 rfl (lv_at hl 1 rfl) ?_
  refine lv_aload_n hx hb dX2_thinkFirst_5 rfl (lv_at hl 0 rfl) ?_
  obtain ⟨t1, et1, h⟩ := ob_bd h
  obtain ⟨g2, h⟩ := ob_gd h
  refine x_get (v := .ref (B + t1)) C0 hP (lay_X2 B ct S) rfl inG2 0 (by decide) wd_149 (fun _ h => h) (by show some (va_rf ((gr S 55 0).map (B + ·))) = _; rw [et1]; rfl) dX2_thinkFirst_6 ?_
  refine x_get C0 hP (lay_X10 B ct S (isTownB_ok g2)) rfl inG10 1 (by decide) wd_63 (fun _ h => h) rfl dX2_thinkFirst_9 ?_
  refine lv_iload_n hx hb dX2_thinkFirst_12 rfl (lv_at hl 1 rfl) ?_
  obtain ⟨g3, h⟩ := ob_gd h
  obtain ⟨q4, eq4, h⟩ := ob_bd h
  refine x_aald (v := .ref (B + q4)) C0 hP ((fun S => lay_t1 B ct S (isTownB_ok g2)) S) rfl rfl g3 (by show va_rf ((gr S (t1 + 1) v1.toNatClampNeg).map (B + ·)) = _; rw [eq4]; rfl) dX2_thinkFirst_13 ?_
  refine lv_aload_n hx hb dX2_thinkFirst_14 rfl (lv_at hl 0 rfl) ?_
  obtain ⟨t5, et5, h⟩ := ob_bd h
  obtain ⟨g6, h⟩ := ob_gd h
  refine x_get (v := .ref (B + t5)) C0 hP (lay_X2 B ct S) rfl inG2 0 (by decide) wd_149 (fun _ h => h) (by show some (va_rf ((gr S 55 0).map (B + ·))) = _; rw [et5]; rfl) dX2_thinkFirst_15 ?_
  refine x_get C0 hP (lay_X10 B ct S (isTownB_ok g6)) rfl inG10 4 (by decide) wd_73 (fun _ h => h) rfl dX2_thinkFirst_18 ?_
  refine lv_iload_n hx hb dX2_thinkFirst_21 rfl (lv_at hl 1 rfl) ?_
  obtain ⟨g7, h⟩ := ob_gd h
  refine x_iald C0 hP ((fun S => lay_t5 B ct S (isTownB_ok g6)) S) g7 dX2_thinkFirst_22 ?_
  refine lv_aload_n hx hb dX2_thinkFirst_23 rfl (lv_at hl 0 rfl) ?_
  obtain ⟨t8, et8, h⟩ := ob_bd h
  obtain ⟨g9, h⟩ := ob_gd h
  refine x_get (v := .ref (B + t8)) C0 hP (lay_X2 B ct S) rfl inG2 0 (by decide) wd_149 (fun _ h => h) (by show some (va_rf ((gr S 55 0).map (B + ·))) = _; rw [et8]; rfl) dX2_thinkFirst_24 ?_
  refine lv_aload_n hx hb dX2_thinkFirst_27 rfl (lv_at hl 0 rfl) ?_
  obtain ⟨t10, et10, h⟩ := ob_bd h
  obtain ⟨g11, h⟩ := ob_gd h
  refine x_get (v := .ref (B + t10)) C0 hP (lay_X2 B ct S) rfl inG2 0 (by decide) wd_149 (fun _ h => h) (by show some (va_rf ((gr S 55 0).map (B + ·))) = _; rw [et10]; rfl) dX2_thinkFirst_28 ?_
  refine x_get C0 hP (lay_X10 B ct S (isTownB_ok g11)) rfl inG10 2 (by decide) wd_67 (fun _ h => h) rfl dX2_thinkFirst_31 ?_
  refine lv_iload_n hx hb dX2_thinkFirst_34 rfl (lv_at hl 1 rfl) ?_
  obtain ⟨g12, h⟩ := ob_gd h
  refine x_iald C0 hP ((fun S => lay_t3 B ct S (isTownB_ok g11)) S) g12 dX2_thinkFirst_35 ?_
  refine lv_aload_n hx hb dX2_thinkFirst_36 rfl (lv_at hl 0 rfl) ?_
  refine x_get C0 hP (lay_X2 B ct S) rfl inG2 2 (by decide) wd_151 (fun _ h => h) rfl dX2_thinkFirst_37 ?_
  refine lv_iload_n hx hb dX2_thinkFirst_40 rfl (lv_at hl 1 rfl) ?_
  obtain ⟨g13, h⟩ := ob_gd h
  refine x_iald C0 hP ((fun S => lay_56 B ct S) S) g13 dX2_thinkFirst_41 ?_
  refine lv_aload_n hx hb dX2_thinkFirst_42 rfl (lv_at hl 0 rfl) ?_
  refine x_get C0 hP (lay_X2 B ct S) rfl inG2 1 (by decide) wd_150 (fun _ h => h) rfl dX2_thinkFirst_43 ?_
  obtain ⟨r14, hr14, h⟩ := ob_bd h
  refine n_I (kV (As := [.int (gi S (t10 + 3) v1.toNatClampNeg), .int (gi S 56 v1.toNatClampNeg), .int (gi S 55 1)]) C0 (c_X10_weightOf l t8 (isTownB_ok g9) (gi S (t10 + 3) v1.toNatClampNeg) (gi S 56 v1.toNatClampNeg) (gi S 55 1) hr14) ⟨wd_654, wd_651, wd_652, wd_653, wd_2⟩ kd_X10_weightOf ⟨Nat.le_of_ble_eq_true rfl, Nat.le_of_ble_eq_true rfl⟩ hP (lay_X10 B ct S (isTownB_ok g9)) rfl rfl hl.1 rfl (Nat.le_of_ble_eq_true rfl) dX2_thinkFirst_46 ⟨Nat.le_of_ble_eq_true rfl, Nat.le_of_ble_eq_true rfl⟩) hS (fun H locs hP hS => ?_)
  obtain ⟨r15, hr15, h⟩ := ob_bd h
  refine n_I (kv_sumOf l C0 wd_655 q4 (gi S (t5 + 5) v1.toNatClampNeg) r14 hr15 ⟨Nat.le_of_ble_eq_true rfl, Nat.le_of_ble_eq_true rfl⟩ hP hl.1 rfl (Nat.le_of_ble_eq_true rfl) dX2_thinkFirst_49) hS (fun H locs hP hS => ?_)
  obtain ⟨g16, h⟩ := ob_gd h
  obtain ⟨S17, eS17, h⟩ := ob_nm h
  refine x_iast C0 hP hS (fun S => lay_57 B ct S) g16 dX2_thinkFirst_52 (fun H locs hP hS => ?_)
  rw [← eS17] at hP
  exact r_Vw C0 hP hS h dX2_thinkFirst_53
set_option maxRecDepth 100000 in
set_option maxHeartbeats 4000000 in
theorem c_X2_thinkFirst (l : Launch) (a1 : Int32) {D : va_G} {ct : Nat → ClassId} {B : Nat} {Hb : Heap} {S : St} {V : St} (h : L_X2_thinkFirst a1 S = some V) : Met l yX2_thinkFirst (Cond.code yX2_thinkFirst cX2_thinkFirst 2 none :: tG) { frames := 3, cells := 0, slots := 0, locals := 66 } (va_Pc [.ref (B + 55), .int a1] (MPK D ct B Hb S)) (qVw D ct B Hb V) 0 0 (AB B) := by
  refine mk_met (by decide +kernel) (Nat.le_of_ble_eq_true rfl) (fun p e s m args below meth c ls C0 hP hl _ => ?_)
  have h := ob_of h
  exact w_X2_thinkFirst_0 l C0 a1 S h hP va_S.rf (lv_sub hl [0, 1] rfl)
set_option maxRecDepth 100000 in
set_option maxHeartbeats 4000000 in
theorem w_X2_leftOf_0 (l : Launch) {V : Int32} (C0 : XC D ct p s m args meth c cX2_leftOf 3 (some .int) RX2) (v1 : Int32) (v2 : Int32) (S : St) {H : Heap} {locs : List Loc} {ls : Array Slot} (h : (b_X2_leftOf_0 v1 v2 S).bind some = some V) (hP : MP D ct B Hb S H) (hS : va_S (AB B) s.heap H locs) (hl : lv_has ls 3 [(0, .ref (B + 55)), (1, .int v1), (2, .int v2)]) : W p l e { frames := 1, cells := 0, slots := 0, locals := 21 } s m args below meth c H locs 0 0 (MQ below (qI D ct B Hb S V) args s 0 0 (AB B)) (F0 m 0 ls []) := by
  obtain ⟨hx, hb, hr, hml, hown, hts, hK, hlocks, hN⟩ := id C0
  unfold b_X2_leftOf_0 at h
  refine lv_iconst (v := 0) hx hb dX2_leftOf_0 (by decide) ?_
  refine lv_aload_n hx hb dX2_leftOf_1 rfl (lv_at hl 0 rfl) ?_
  refine x_get C0 hP (lay_X2 B ct S) rfl inG2 8 (by decide) wd_160 (fun _ h => h) rfl dX2_leftOf_2 ?_
  refine lv_iload_n hx hb dX2_leftOf_5 rfl (lv_at hl 1 rfl) ?_
  obtain ⟨g1, h⟩ := ob_gd h
  refine x_iald C0 hP ((fun S => lay_62 B ct S) S) g1 dX2_leftOf_6 ?_
  refine lv_aload_n hx hb dX2_leftOf_7 rfl (lv_at hl 0 rfl) ?_
  refine x_get C0 hP (lay_X2 B ct S) rfl inG2 10 (by decide) wd_162 (fun _ h => h) rfl dX2_leftOf_8 ?_
  refine lv_iload_n hx hb dX2_leftOf_11 rfl (lv_at hl 1 rfl) ?_
  obtain ⟨g2, h⟩ := ob_gd h
  refine x_iald C0 hP ((fun S => lay_64 B ct S) S) g2 dX2_leftOf_12 ?_
  refine lv_iload_n hx hb dX2_leftOf_13 rfl (lv_at hl 2 rfl) ?_
  refine lv_aload_n hx hb dX2_leftOf_14 rfl (lv_at hl 0 rfl) ?_
  refine x_get C0 hP (lay_X2 B ct S) rfl inG2 9 (by decide) wd_161 (fun _ h => h) rfl dX2_leftOf_15 ?_
  refine lv_iload_n hx hb dX2_leftOf_18 rfl (lv_at hl 1 rfl) ?_
  obtain ⟨g3, h⟩ := ob_gd h
  refine x_iald C0 hP ((fun S => lay_63 B ct S) S) g3 dX2_leftOf_19 ?_
  refine lv_isub hx hb dX2_leftOf_20 ?_
  refine lv_imul hx hb dX2_leftOf_21 ?_
  refine lv_isub hx hb dX2_leftOf_22 ?_
  refine x_max C0 hl.1 ⟨wd_708, wd_709, wd_18, wd_710⟩ (Nat.le_of_ble_eq_true rfl) (Nat.le_of_ble_eq_true rfl) ⟨Nat.le_of_ble_eq_true rfl, Nat.le_of_ble_eq_true rfl⟩ dX2_leftOf_23 ?_
  obtain ⟨m4, em4, h⟩ := ob_nm h
  rw [← em4]
  exact r_I C0 hP hS h dX2_leftOf_26
set_option maxRecDepth 100000 in
set_option maxHeartbeats 4000000 in
theorem c_X2_leftOf (l : Launch) (a1 : Int32) (a2 : Int32) {D : va_G} {ct : Nat → ClassId} {B : Nat} {Hb : Heap} {S : St} {V : Int32} (h : L_X2_leftOf a1 a2 S = some V) : Met l yX2_leftOf (Cond.code yX2_leftOf cX2_leftOf 3 (some .int) :: tG) { frames := 1, cells := 0, slots := 0, locals := 21 } (va_Pc [.ref (B + 55), .int a1, .int a2] (MPK D ct B Hb S)) (qI D ct B Hb S V) 0 0 (AB B) := by
  refine mk_met (by decide +kernel) (Nat.le_of_ble_eq_true rfl) (fun p e s m args below meth c ls C0 hP hl _ => ?_)
  have h := ob_of h
  exact w_X2_leftOf_0 l C0 a1 a2 S h hP va_S.rf (lv_sub hl [0, 1, 2] rfl)
set_option maxRecDepth 100000 in
set_option maxHeartbeats 4000000 in
theorem w_X2_isForSale_68 (l : Launch) {V : Int32} (C0 : XC D ct p s m args meth c cX2_isForSale 4 (some .boolean) RX2) (S : St) {H : Heap} {locs : List Loc} {ls : Array Slot} (h : (b_X2_isForSale_68 S).bind some = some V) (hP : MP D ct B Hb S H) (hS : va_S (AB B) s.heap H locs) (hl : lv_has ls 4 []) : W p l e { frames := 2, cells := 0, slots := 0, locals := 43 } s m args below meth c H locs 0 0 (MQ below (qI D ct B Hb S V) args s 0 0 (AB B)) (F0 m 68 ls []) := by
  obtain ⟨hx, hb, hr, hml, hown, hts, hK, hlocks, hN⟩ := id C0
  unfold b_X2_isForSale_68 at h
  refine lv_iconst (v := 0) hx hb dX2_isForSale_68 (by decide) ?_
  exact r_Z C0 hP hS bool_0 h dX2_isForSale_69
set_option maxRecDepth 100000 in
set_option maxHeartbeats 4000000 in
theorem w_X2_isForSale_50 (l : Launch) {V : Int32} (C0 : XC D ct p s m args meth c cX2_isForSale 4 (some .boolean) RX2) (v1 : Int32) (v2 : Int32) (s0 : Int32) (S : St) {H : Heap} {locs : List Loc} {ls : Array Slot} (h : (b_X2_isForSale_50 v1 v2 s0 S).bind some = some V) (hP : MP D ct B Hb S H) (hS : va_S (AB B) s.heap H locs) (hl : lv_has ls 4 [(0, .ref (B + 55)), (1, .int v1), (2, .int v2)]) : W p l e { frames := 2, cells := 0, slots := 0, locals := 43 } s m args below meth c H locs 0 0 (MQ below (qI D ct B Hb S V) args s 0 0 (AB B)) (F0 m 50 ls [.int s0]) := by
  obtain ⟨hx, hb, hr, hml, hown, hts, hK, hlocks, hN⟩ := id C0
  unfold b_X2_isForSale_50 at h
  refine lv_istore_n (lv' := [(3, .int s0), (0, .ref (B + 55)), (1, .int v1), (2, .int v2)]) hx hb dX2_isForSale_50 rfl hl (by decide) rfl (fun ls hl => ?_)
  refine lv_iload_n hx hb dX2_isForSale_51 rfl (lv_at hl 0 rfl) ?_
  refine lv_if_ne (tgt := 68) hx hb dX2_isForSale_52 (by decide) (fun z1 => ?_) (fun z1 => ?_)
  · have h := ob_f h z1
    exact w_X2_isForSale_68 l C0 S h hP hS (lv_sub hl [] rfl)
  · have h := ob_t h z1
    refine lv_aload_n hx hb dX2_isForSale_55 rfl (lv_at hl 1 rfl) ?_
    refine lv_iload_n hx hb dX2_isForSale_56 rfl (lv_at hl 2 rfl) ?_
    refine lv_iload_n hx hb dX2_isForSale_57 rfl (lv_at hl 3 rfl) ?_
    obtain ⟨r2, hr2, h⟩ := ob_bd h
    refine n_I (kV (As := [.int v1, .int v2]) C0 (c_X2_leftOf l v1 v2 hr2) ⟨wd_707, wd_704, wd_706, wp_11, wd_4⟩ kd_X2_leftOf ⟨Nat.le_of_ble_eq_true rfl, Nat.le_of_ble_eq_true rfl⟩ hP (lay_X2 B ct S) rfl rfl hl.1 rfl (Nat.le_of_ble_eq_true rfl) dX2_isForSale_58 ⟨Nat.le_of_ble_eq_true rfl, Nat.le_of_ble_eq_true rfl⟩) hS (fun H locs hP hS => ?_)
    refine lv_if_le (tgt := 68) hx hb dX2_isForSale_61 (by decide) (fun z3 => ?_) (fun z3 => ?_)
    · have h := ob_t h z3
      exact w_X2_isForSale_68 l C0 S h hP hS (lv_sub hl [] rfl)
    · have h := ob_f h z3
      refine lv_iconst (v := 1) hx hb dX2_isForSale_64 (by decide) ?_
      refine lv_goto (tgt := 69) hx hb dX2_isForSale_65 (by decide) ?_
      exact r_Z C0 hP hS bool_1 h dX2_isForSale_69
set_option maxRecDepth 100000 in
set_option maxHeartbeats 4000000 in
theorem w_X2_isForSale_49 (l : Launch) {V : Int32} (C0 : XC D ct p s m args meth c cX2_isForSale 4 (some .boolean) RX2) (v1 : Int32) (v2 : Int32) (S : St) {H : Heap} {locs : List Loc} {ls : Array Slot} (h : (b_X2_isForSale_49 v1 v2 S).bind some = some V) (hP : MP D ct B Hb S H) (hS : va_S (AB B) s.heap H locs) (hl : lv_has ls 4 [(0, .ref (B + 55)), (1, .int v1), (2, .int v2)]) : W p l e { frames := 2, cells := 0, slots := 0, locals := 43 } s m args below meth c H locs 0 0 (MQ below (qI D ct B Hb S V) args s 0 0 (AB B)) (F0 m 49 ls []) := by
  obtain ⟨hx, hb, hr, hml, hown, hts, hK, hlocks, hN⟩ := id C0
  unfold b_X2_isForSale_49 at h
  refine lv_iconst (v := 0) hx hb dX2_isForSale_49 (by decide) ?_
  exact w_X2_isForSale_50 l C0 v1 v2 0 S h hP hS (lv_sub hl [0, 1, 2] rfl)
set_option maxRecDepth 100000 in
set_option maxHeartbeats 4000000 in
theorem w_X2_isForSale_0 (l : Launch) {V : Int32} (C0 : XC D ct p s m args meth c cX2_isForSale 4 (some .boolean) RX2) (v1 : Int32) (v2 : Int32) (S : St) {H : Heap} {locs : List Loc} {ls : Array Slot} (h : (b_X2_isForSale_0 v1 v2 S).bind some = some V) (hP : MP D ct B Hb S H) (hS : va_S (AB B) s.heap H locs) (hl : lv_has ls 4 [(0, .ref (B + 55)), (1, .int v1), (2, .int v2)]) : W p l e { frames := 2, cells := 0, slots := 0, locals := 43 } s m args below meth c H locs 0 0 (MQ below (qI D ct B Hb S V) args s 0 0 (AB B)) (F0 m 0 ls []) := by
  obtain ⟨hx, hb, hr, hml, hown, hts, hK, hlocks, hN⟩ := id C0
  unfold b_X2_isForSale_0 at h
  refine lv_aload_n hx hb dX2_isForSale_0 rfl (lv_at hl 0 rfl) ?_
  refine x_get C0 hP (lay_X2 B ct S) rfl inG2 7 (by decide) wd_158 (fun _ h => h) rfl dX2_isForSale_1 ?_
  refine lv_iload_n hx hb dX2_isForSale_4 rfl (lv_at hl 1 rfl) ?_
  obtain ⟨g1, h⟩ := ob_gd h
  refine x_iald C0 hP ((fun S => lay_61 B ct S) S) g1 dX2_isForSale_5 ?_
  refine lv_if_eq (tgt := 19) hx hb dX2_isForSale_6 (by decide) (fun z2 => ?_) (fun z2 => ?_)
  · have h := ob_t h z2
    refine lv_iconst (v := 0) hx hb dX2_isForSale_19 (by decide) ?_
    exact r_Z C0 hP hS bool_0 h dX2_isForSale_20
  · have h := ob_f h z2
    refine lv_aload_n hx hb dX2_isForSale_9 rfl (lv_at hl 0 rfl) ?_
    refine x_get C0 hP (lay_X2 B ct S) rfl inG2 9 (by decide) wd_161 (fun _ h => h) rfl dX2_isForSale_10 ?_
    refine lv_iload_n hx hb dX2_isForSale_13 rfl (lv_at hl 1 rfl) ?_
    obtain ⟨g3, h⟩ := ob_gd h
    refine x_iald C0 hP ((fun S => lay_63 B ct S) S) g3 dX2_isForSale_14 ?_
    refine lv_iload_n hx hb dX2_isForSale_15 rfl (lv_at hl 2 rfl) ?_
    refine lv_icmp_le (tgt := 21) hx hb dX2_isForSale_16 (by decide) (fun z4 => ?_) (fun z4 => ?_)
    · have h := ob_t h z4
      refine lv_aload_n hx hb dX2_isForSale_21 rfl (lv_at hl 0 rfl) ?_
      refine x_get C0 hP (lay_X2 B ct S) rfl inG2 11 (by decide) wd_163 (fun _ h => h) rfl dX2_isForSale_22 ?_
      refine lv_iload_n hx hb dX2_isForSale_25 rfl (lv_at hl 1 rfl) ?_
      obtain ⟨g5, h⟩ := ob_gd h
      refine x_iald C0 hP ((fun S => lay_65 B ct S) S) g5 dX2_isForSale_26 ?_
      refine lv_if_lt (tgt := 49) hx hb dX2_isForSale_27 (by decide) (fun z6 => ?_) (fun z6 => ?_)
      · have h := ob_t h z6
        exact w_X2_isForSale_49 l C0 v1 v2 S h hP hS (lv_sub hl [0, 1, 2] rfl)
      · have h := ob_f h z6
        refine lv_aload_n hx hb dX2_isForSale_30 rfl (lv_at hl 0 rfl) ?_
        refine x_get C0 hP (lay_X2 B ct S) rfl inG2 2 (by decide) wd_151 (fun _ h => h) rfl dX2_isForSale_31 ?_
        refine lv_aload_n hx hb dX2_isForSale_34 rfl (lv_at hl 0 rfl) ?_
        refine x_get C0 hP (lay_X2 B ct S) rfl inG2 11 (by decide) wd_163 (fun _ h => h) rfl dX2_isForSale_35 ?_
        refine lv_iload_n hx hb dX2_isForSale_38 rfl (lv_at hl 1 rfl) ?_
        obtain ⟨g7, h⟩ := ob_gd h
        refine x_iald C0 hP ((fun S => lay_65 B ct S) S) g7 dX2_isForSale_39 ?_
        obtain ⟨g8, h⟩ := ob_gd h
        refine x_iald C0 hP ((fun S => lay_56 B ct S) S) g8 dX2_isForSale_40 ?_
        refine lv_iload_n hx hb dX2_isForSale_41 rfl (lv_at hl 2 rfl) ?_
        refine lv_icmp_gt (tgt := 49) hx hb dX2_isForSale_42 (by decide) (fun z9 => ?_) (fun z9 => ?_)
        · have h := ob_t h z9
          exact w_X2_isForSale_49 l C0 v1 v2 S h hP hS (lv_sub hl [0, 1, 2] rfl)
        · have h := ob_f h z9
          refine lv_iconst (v := 1) hx hb dX2_isForSale_45 (by decide) ?_
          refine lv_goto (tgt := 50) hx hb dX2_isForSale_46 (by decide) ?_
          exact w_X2_isForSale_50 l C0 v1 v2 1 S h hP hS (lv_sub hl [0, 1, 2] rfl)
    · have h := ob_f h z4
      refine lv_iconst (v := 0) hx hb dX2_isForSale_19 (by decide) ?_
      exact r_Z C0 hP hS bool_0 h dX2_isForSale_20
set_option maxRecDepth 100000 in
set_option maxHeartbeats 4000000 in
theorem c_X2_isForSale (l : Launch) (a1 : Int32) (a2 : Int32) {D : va_G} {ct : Nat → ClassId} {B : Nat} {Hb : Heap} {S : St} {V : Int32} (h : L_X2_isForSale a1 a2 S = some V) : Met l yX2_isForSale (Cond.code yX2_isForSale cX2_isForSale 4 (some .boolean) :: tG) { frames := 2, cells := 0, slots := 0, locals := 43 } (va_Pc [.ref (B + 55), .int a1, .int a2] (MPK D ct B Hb S)) (qI D ct B Hb S V) 0 0 (AB B) := by
  refine mk_met (by decide +kernel) (Nat.le_of_ble_eq_true rfl) (fun p e s m args below meth c ls C0 hP hl _ => ?_)
  have h := ob_of h
  exact w_X2_isForSale_0 l C0 a1 a2 S h hP va_S.rf (lv_sub hl [0, 1, 2] rfl)
set_option maxRecDepth 100000 in
set_option maxHeartbeats 4000000 in
theorem w_X2_caseOf_0 (l : Launch) {V : Int32} (C0 : XC D ct p s m args meth c cX2_caseOf 2 (some .int) RX2) (v1 : Int32) (S : St) {H : Heap} {locs : List Loc} {ls : Array Slot} (h : (b_X2_caseOf_0 v1 S).bind some = some V) (hP : MP D ct B Hb S H) (hS : va_S (AB B) s.heap H locs) (hl : lv_has ls 2 [(0, .ref (B + 55)), (1, .int v1)]) : W p l e { frames := 0, cells := 0, slots := 0, locals := 0 } s m args below meth c H locs 0 0 (MQ below (qI D ct B Hb S V) args s 0 0 (AB B)) (F0 m 0 ls []) := by
  obtain ⟨hx, hb, hr, hml, hown, hts, hK, hlocks, hN⟩ := id C0
  unfold b_X2_caseOf_0 at h
  refine lv_iload_n hx hb dX2_caseOf_0 rfl (lv_at hl 1 rfl) ?_
  refine lv_bipush (v := 8) hx hb dX2_caseOf_1 (by decide) ?_
  refine lv_icmp_ge (tgt := 18) hx hb dX2_caseOf_3 (by decide) (fun z1 => ?_) (fun z1 => ?_)
  · have h := ob_t h z1
    refine lv_aload_n hx hb dX2_caseOf_18 rfl (lv_at hl 0 rfl) ?_
    obtain ⟨t2, et2, h⟩ := ob_bd h
    obtain ⟨g3, h⟩ := ob_gd h
    refine x_get (v := .ref (B + t2)) C0 hP (lay_X2 B ct S) rfl inG2 0 (by decide) wd_149 (fun _ h => h) (by show some (va_rf ((gr S 55 0).map (B + ·))) = _; rw [et2]; rfl) dX2_caseOf_19 ?_
    refine x_get C0 hP (lay_X10 B ct S (isTownB_ok g3)) rfl inG10 12 (by decide) wd_88 (fun _ h => h) rfl dX2_caseOf_22 ?_
    refine lv_iload_n hx hb dX2_caseOf_25 rfl (lv_at hl 1 rfl) ?_
    refine lv_bipush (v := 8) hx hb dX2_caseOf_26 (by decide) ?_
    refine lv_isub hx hb dX2_caseOf_28 ?_
    obtain ⟨g4, h⟩ := ob_gd h
    refine x_iald C0 hP ((fun S => lay_t11 B ct S (isTownB_ok g3)) S) g4 dX2_caseOf_29 ?_
    exact r_I C0 hP hS h dX2_caseOf_30
  · have h := ob_f h z1
    refine lv_aload_n hx hb dX2_caseOf_6 rfl (lv_at hl 0 rfl) ?_
    obtain ⟨t5, et5, h⟩ := ob_bd h
    obtain ⟨g6, h⟩ := ob_gd h
    refine x_get (v := .ref (B + t5)) C0 hP (lay_X2 B ct S) rfl inG2 0 (by decide) wd_149 (fun _ h => h) (by show some (va_rf ((gr S 55 0).map (B + ·))) = _; rw [et5]; rfl) dX2_caseOf_7 ?_
    refine x_get C0 hP (lay_X10 B ct S (isTownB_ok g6)) rfl inG10 2 (by decide) wd_67 (fun _ h => h) rfl dX2_caseOf_10 ?_
    refine lv_iload_n hx hb dX2_caseOf_13 rfl (lv_at hl 1 rfl) ?_
    obtain ⟨g7, h⟩ := ob_gd h
    refine x_iald C0 hP ((fun S => lay_t3 B ct S (isTownB_ok g6)) S) g7 dX2_caseOf_14 ?_
    refine lv_goto (tgt := 30) hx hb dX2_caseOf_15 (by decide) ?_
    exact r_I C0 hP hS h dX2_caseOf_30
set_option maxRecDepth 100000 in
set_option maxHeartbeats 4000000 in
theorem c_X2_caseOf (l : Launch) (a1 : Int32) {D : va_G} {ct : Nat → ClassId} {B : Nat} {Hb : Heap} {S : St} {V : Int32} (h : L_X2_caseOf a1 S = some V) : Met l yX2_caseOf (Cond.code yX2_caseOf cX2_caseOf 2 (some .int) :: tG) { frames := 0, cells := 0, slots := 0, locals := 0 } (va_Pc [.ref (B + 55), .int a1] (MPK D ct B Hb S)) (qI D ct B Hb S V) 0 0 (AB B) := by
  refine mk_met (by decide +kernel) (Nat.le_of_ble_eq_true rfl) (fun p e s m args below meth c ls C0 hP hl _ => ?_)
  have h := ob_of h
  exact w_X2_caseOf_0 l C0 a1 S h hP va_S.rf (lv_sub hl [0, 1] rfl)
set_option maxRecDepth 100000 in
set_option maxHeartbeats 4000000 in
theorem w_X10_areKin_0 (l : Launch) {V : Int32} (C0 : XC D ct p s m args meth c cX10_areKin 3 (some .boolean) RX10) (t : Nat) (ht : isTown t) (v1 : Int32) (v2 : Int32) (S : St) {H : Heap} {locs : List Loc} {ls : Array Slot} (h : (b_X10_areKin_0 t v1 v2 S).bind some = some V) (hP : MP D ct B Hb S H) (hS : va_S (AB B) s.heap H locs) (hl : lv_has ls 3 [(0, .ref (B + t)), (1, .int v1), (2, .int v2)]) : W p l e { frames := 0, cells := 0, slots := 0, locals := 0 } s m args below meth c H locs 0 0 (MQ below (qI D ct B Hb S V) args s 0 0 (AB B)) (F0 m 0 ls []) := by
  obtain ⟨hx, hb, hr, hml, hown, hts, hK, hlocks, hN⟩ := id C0
  unfold b_X10_areKin_0 at h
  refine lv_aload_n hx hb dX10_areKin_0 rfl (lv_at hl 0 rfl) ?_
  refine x_get C0 hP (lay_X10 B ct S ht) rfl inG10 17 (by decide) wd_99 (fun _ h => h) rfl dX10_areKin_1 ?_
  refine lv_iload_n hx hb dX10_areKin_4 rfl (lv_at hl 1 rfl) ?_
  obtain ⟨g1, h⟩ := ob_gd h
  refine x_iald C0 hP ((fun S => lay_t16 B ct S ht) S) g1 dX10_areKin_5 ?_
  refine lv_iload_n hx hb dX10_areKin_6 rfl (lv_at hl 2 rfl) ?_
  refine lv_ishr hx hb dX10_areKin_7 ?_
  refine lv_iconst (v := 1) hx hb dX10_areKin_8 (by decide) ?_
  refine lv_iand hx hb dX10_areKin_9 ?_
  refine lv_if_eq (tgt := 17) hx hb dX10_areKin_10 (by decide) (fun z2 => ?_) (fun z2 => ?_)
  · have h := ob_t h z2
    refine lv_iconst (v := 0) hx hb dX10_areKin_17 (by decide) ?_
    exact r_Z C0 hP hS bool_0 h dX10_areKin_18
  · have h := ob_f h z2
    refine lv_iconst (v := 1) hx hb dX10_areKin_13 (by decide) ?_
    refine lv_goto (tgt := 18) hx hb dX10_areKin_14 (by decide) ?_
    exact r_Z C0 hP hS bool_1 h dX10_areKin_18
set_option maxRecDepth 100000 in
set_option maxHeartbeats 4000000 in
theorem c_X10_areKin (l : Launch) (t : Nat) (ht : isTown t) (a1 : Int32) (a2 : Int32) {D : va_G} {ct : Nat → ClassId} {B : Nat} {Hb : Heap} {S : St} {V : Int32} (h : L_X10_areKin t a1 a2 S = some V) : Met l yX10_areKin (Cond.code yX10_areKin cX10_areKin 3 (some .boolean) :: tG) { frames := 0, cells := 0, slots := 0, locals := 0 } (va_Pc [.ref (B + t), .int a1, .int a2] (MPK D ct B Hb S)) (qI D ct B Hb S V) 0 0 (AB B) := by
  refine mk_met (by decide +kernel) (Nat.le_of_ble_eq_true rfl) (fun p e s m args below meth c ls C0 hP hl _ => ?_)
  have h := ob_of h
  exact w_X10_areKin_0 l C0 t ht a1 a2 S h hP va_S.rf (lv_sub hl [0, 1, 2] rfl)
set_option maxRecDepth 100000 in
set_option maxHeartbeats 4000000 in
theorem w_X2_buyBest_236 (l : Launch) {V : St} (C0 : XC D ct p s m args meth c cX2_buyBest 8 none RX2) (n0 : Nat) (ih0 : ∀ (v1 : Int32) (v2 : Nat) (v3 : Int32) (v4 : Int32) (v5 : Int32) (S : St) (H : Heap) (locs : List Loc) (ls : Array Slot), (lp n0 (l_X2_buyBest_42) (v1, v2, v3, v4, v5, S)).bind some = some V → MP D ct B Hb S H → va_S (AB B) s.heap H locs → lv_has ls 8 [(0, .ref (B + 55)), (1, .int v1), (2, .ref (B + v2)), (3, .int v3), (4, .int v4), (5, .int v5)] → W p l e { frames := 3, cells := 0, slots := 0, locals := 66 } s m args below meth c H locs 0 0 (MQ below (qVw D ct B Hb V) args s 0 0 (AB B)) (F0 m 42 ls [])) (v1 : Int32) (v2 : Nat) (v3 : Int32) (v4 : Int32) (v5 : Int32) (S : St) {H : Heap} {locs : List Loc} {ls : Array Slot} (h : (b_X2_buyBest_236 v1 v2 v3 v4 v5 S).bind (lpF n0 (l_X2_buyBest_42) some) = some V) (hP : MP D ct B Hb S H) (hS : va_S (AB B) s.heap H locs) (hl : lv_has ls 8 [(0, .ref (B + 55)), (1, .int v1), (2, .ref (B + v2)), (3, .int v3), (4, .int v4), (5, .int v5)]) : W p l e { frames := 3, cells := 0, slots := 0, locals := 66 } s m args below meth c H locs 0 0 (MQ below (qVw D ct B Hb V) args s 0 0 (AB B)) (F0 m 236 ls []) := by
  obtain ⟨hx, hb, hr, hml, hown, hts, hK, hlocks, hN⟩ := id C0
  unfold b_X2_buyBest_236 at h
  refine lv_iinc (v := v5 + 1) (lv' := [(5, .int (v5 + 1)), (0, .ref (B + 55)), (1, .int v1), (2, .ref (B + v2)), (3, .int v3), (4, .int v4)]) hx hb dX2_buyBest_236 hl (k := 5) rfl rfl (by decide) rfl (fun ls hl => ?_)
  refine lv_goto (tgt := 42) hx hb dX2_buyBest_239 (by decide) ?_
  exact ih0 v1 v2 v3 v4 (v5 + 1) S _ _ _ h hP hS (lv_sub hl [1, 2, 3, 4, 5, 0] rfl)
set_option maxRecDepth 100000 in
set_option maxHeartbeats 4000000 in
theorem w_X2_buyBest_216 (l : Launch) {V : St} (C0 : XC D ct p s m args meth c cX2_buyBest 8 none RX2) (n0 : Nat) (ih0 : ∀ (v1 : Int32) (v2 : Nat) (v3 : Int32) (v4 : Int32) (v5 : Int32) (S : St) (H : Heap) (locs : List Loc) (ls : Array Slot), (lp n0 (l_X2_buyBest_42) (v1, v2, v3, v4, v5, S)).bind some = some V → MP D ct B Hb S H → va_S (AB B) s.heap H locs → lv_has ls 8 [(0, .ref (B + 55)), (1, .int v1), (2, .ref (B + v2)), (3, .int v3), (4, .int v4), (5, .int v5)] → W p l e { frames := 3, cells := 0, slots := 0, locals := 66 } s m args below meth c H locs 0 0 (MQ below (qVw D ct B Hb V) args s 0 0 (AB B)) (F0 m 42 ls [])) (v1 : Int32) (v2 : Nat) (v3 : Int32) (v5 : Int32) (v6 : Int32) (v7 : Int32) (S : St) {H : Heap} {locs : List Loc} {ls : Array Slot} (h : (b_X2_buyBest_216 v1 v2 v3 v5 v6 v7 S).bind (lpF n0 (l_X2_buyBest_42) some) = some V) (hP : MP D ct B Hb S H) (hS : va_S (AB B) s.heap H locs) (hl : lv_has ls 8 [(0, .ref (B + 55)), (1, .int v1), (2, .ref (B + v2)), (3, .int v3), (5, .int v5), (6, .int v6), (7, .int v7)]) : W p l e { frames := 3, cells := 0, slots := 0, locals := 66 } s m args below meth c H locs 0 0 (MQ below (qVw D ct B Hb V) args s 0 0 (AB B)) (F0 m 216 ls []) := by
  obtain ⟨hx, hb, hr, hml, hown, hts, hK, hlocks, hN⟩ := id C0
  unfold b_X2_buyBest_216 at h
  refine lv_aload_n hx hb dX2_buyBest_216 rfl (lv_at hl 0 rfl) ?_
  refine x_get C0 hP (lay_X2 B ct S) rfl inG2 5 (by decide) wd_156 (fun _ h => h) rfl dX2_buyBest_217 ?_
  refine lv_iload_n hx hb dX2_buyBest_220 rfl (lv_at hl 1 rfl) ?_
  refine lv_iload hx hb dX2_buyBest_221 (lv_at hl 4 rfl) ?_
  obtain ⟨g1, h⟩ := ob_gd h
  obtain ⟨S2, eS2, h⟩ := ob_nm h
  refine x_iast C0 hP hS (fun S => lay_59 B ct S) g1 dX2_buyBest_223 (fun H locs hP hS => ?_)
  rw [← eS2] at hP
  refine lv_iload hx hb dX2_buyBest_224 (lv_at hl 5 rfl) ?_
  refine lv_istore (lv' := [(4, .int v6), (0, .ref (B + 55)), (1, .int v1), (2, .ref (B + v2)), (3, .int v3), (5, .int v5), (6, .int v6), (7, .int v7)]) hx hb dX2_buyBest_226 hl (by decide) rfl (fun ls hl => ?_)
  refine lv_aload_n hx hb dX2_buyBest_228 rfl (lv_at hl 1 rfl) ?_
  refine x_get C0 hP (lay_X2 B ct S2) rfl inG2 6 (by decide) wd_157 (fun _ h => h) rfl dX2_buyBest_229 ?_
  refine lv_iload_n hx hb dX2_buyBest_232 rfl (lv_at hl 2 rfl) ?_
  refine lv_iload hx hb dX2_buyBest_233 (lv_at hl 7 rfl) ?_
  obtain ⟨g3, h⟩ := ob_gd h
  obtain ⟨S4, eS4, h⟩ := ob_nm h
  refine x_iast C0 hP hS (fun S => lay_60 B ct S) g3 dX2_buyBest_235 (fun H locs hP hS => ?_)
  rw [← eS4] at hP
  exact w_X2_buyBest_236 l C0 n0 ih0 v1 v2 v3 v6 v5 S4 h hP hS (lv_sub hl [1, 2, 3, 4, 0, 5] rfl)
set_option maxRecDepth 100000 in
set_option maxHeartbeats 4000000 in
theorem w_X2_buyBest_153 (l : Launch) {V : St} (C0 : XC D ct p s m args meth c cX2_buyBest 8 none RX2) (n0 : Nat) (ih0 : ∀ (v1 : Int32) (v2 : Nat) (v3 : Int32) (v4 : Int32) (v5 : Int32) (S : St) (H : Heap) (locs : List Loc) (ls : Array Slot), (lp n0 (l_X2_buyBest_42) (v1, v2, v3, v4, v5, S)).bind some = some V → MP D ct B Hb S H → va_S (AB B) s.heap H locs → lv_has ls 8 [(0, .ref (B + 55)), (1, .int v1), (2, .ref (B + v2)), (3, .int v3), (4, .int v4), (5, .int v5)] → W p l e { frames := 3, cells := 0, slots := 0, locals := 66 } s m args below meth c H locs 0 0 (MQ below (qVw D ct B Hb V) args s 0 0 (AB B)) (F0 m 42 ls [])) (v1 : Int32) (v2 : Nat) (v3 : Int32) (v4 : Int32) (v5 : Int32) (v6 : Int32) (s0 : Int32) (S : St) {H : Heap} {locs : List Loc} {ls : Array Slot} (h : (b_X2_buyBest_153 v1 v2 v3 v4 v5 v6 s0 S).bind (lpF n0 (l_X2_buyBest_42) some) = some V) (hP : MP D ct B Hb S H) (hS : va_S (AB B) s.heap H locs) (hl : lv_has ls 8 [(0, .ref (B + 55)), (1, .int v1), (2, .ref (B + v2)), (3, .int v3), (4, .int v4), (5, .int v5), (6, .int v6)]) : W p l e { frames := 3, cells := 0, slots := 0, locals := 66 } s m args below meth c H locs 0 0 (MQ below (qVw D ct B Hb V) args s 0 0 (AB B)) (F0 m 153 ls [.int s0]) := by
  obtain ⟨hx, hb, hr, hml, hown, hts, hK, hlocks, hN⟩ := id C0
  unfold b_X2_buyBest_153 at h
  refine lv_istore (lv' := [(7, .int s0), (0, .ref (B + 55)), (1, .int v1), (2, .ref (B + v2)), (3, .int v3), (4, .int v4), (5, .int v5), (6, .int v6)]) hx hb dX2_buyBest_153 hl (by decide) rfl (fun ls hl => ?_)
  refine lv_aload_n hx hb dX2_buyBest_155 rfl (lv_at hl 3 rfl) ?_
  refine lv_iload hx hb dX2_buyBest_156 (lv_at hl 7 rfl) ?_
  refine lv_iload_n hx hb dX2_buyBest_158 rfl (lv_at hl 4 rfl) ?_
  obtain ⟨r1, hr1, h⟩ := ob_bd h
  refine n_I (kv_buysOf l C0 wd_735 v2 v6 v3 hr1 ⟨Nat.le_of_ble_eq_true rfl, Nat.le_of_ble_eq_true rfl⟩ hP hl.1 rfl (Nat.le_of_ble_eq_true rfl) dX2_buyBest_159) hS (fun H locs hP hS => ?_)
  refine lv_if_eq (tgt := 236) hx hb dX2_buyBest_162 (by decide) (fun z2 => ?_) (fun z2 => ?_)
  · have h := ob_t h z2
    exact w_X2_buyBest_236 l C0 n0 ih0 v1 v2 v3 v4 v5 S h hP hS (lv_sub hl [1, 2, 3, 4, 5, 6] rfl)
  · have h := ob_f h z2
    refine lv_iload hx hb dX2_buyBest_165 (lv_at hl 0 rfl) ?_
    refine lv_aload_n hx hb dX2_buyBest_167 rfl (lv_at hl 1 rfl) ?_
    obtain ⟨t3, et3, h⟩ := ob_bd h
    obtain ⟨g4, h⟩ := ob_gd h
    refine x_get (v := .ref (B + t3)) C0 hP (lay_X2 B ct S) rfl inG2 0 (by decide) wd_149 (fun _ h => h) (by show some (va_rf ((gr S 55 0).map (B + ·))) = _; rw [et3]; rfl) dX2_buyBest_168 ?_
    refine x_get C0 hP (lay_X10 B ct S (isTownB_ok g4)) rfl inG10 5 (by decide) wd_76 (fun _ h => h) rfl dX2_buyBest_171 ?_
    refine lv_iload_n hx hb dX2_buyBest_174 rfl (lv_at hl 2 rfl) ?_
    obtain ⟨g5, h⟩ := ob_gd h
    refine x_iald C0 hP ((fun S => lay_t6 B ct S (isTownB_ok g4)) S) g5 dX2_buyBest_175 ?_
    refine lv_icmp_le (tgt := 182) hx hb dX2_buyBest_176 (by decide) (fun z6 => ?_) (fun z6 => ?_)
    · have h := ob_t h z6
      refine lv_aload_n hx hb dX2_buyBest_182 rfl (lv_at hl 1 rfl) ?_
      refine x_get C0 hP (lay_X2 B ct S) rfl inG2 5 (by decide) wd_156 (fun _ h => h) rfl dX2_buyBest_183 ?_
      refine lv_iload_n hx hb dX2_buyBest_186 rfl (lv_at hl 2 rfl) ?_
      obtain ⟨g7, h⟩ := ob_gd h
      refine x_iald C0 hP ((fun S => lay_59 B ct S) S) g7 dX2_buyBest_187 ?_
      refine lv_if_lt (tgt := 216) hx hb dX2_buyBest_188 (by decide) (fun z8 => ?_) (fun z8 => ?_)
      · have h := ob_t h z8
        exact w_X2_buyBest_216 l C0 n0 ih0 v1 v2 v3 v5 v6 s0 S h hP hS (lv_sub hl [1, 2, 3, 4, 6, 7, 0] rfl)
      · have h := ob_f h z8
        refine lv_iload hx hb dX2_buyBest_191 (lv_at hl 7 rfl) ?_
        refine lv_iload hx hb dX2_buyBest_193 (lv_at hl 5 rfl) ?_
        refine lv_icmp_gt (tgt := 216) hx hb dX2_buyBest_195 (by decide) (fun z9 => ?_) (fun z9 => ?_)
        · have h := ob_t h z9
          exact w_X2_buyBest_216 l C0 n0 ih0 v1 v2 v3 v5 v6 s0 S h hP hS (lv_sub hl [1, 2, 3, 4, 6, 7, 0] rfl)
        · have h := ob_f h z9
          refine lv_iload hx hb dX2_buyBest_198 (lv_at hl 7 rfl) ?_
          refine lv_iload hx hb dX2_buyBest_200 (lv_at hl 5 rfl) ?_
          refine lv_icmp_ne (tgt := 236) hx hb dX2_buyBest_202 (by decide) (fun z10 => ?_) (fun z10 => ?_)
          · have h := ob_f h z10
            exact w_X2_buyBest_236 l C0 n0 ih0 v1 v2 v3 v4 v5 S h hP hS (lv_sub hl [1, 2, 3, 4, 5, 6] rfl)
          · have h := ob_t h z10
            refine lv_iload hx hb dX2_buyBest_205 (lv_at hl 0 rfl) ?_
            refine lv_aload_n hx hb dX2_buyBest_207 rfl (lv_at hl 1 rfl) ?_
            refine x_get C0 hP (lay_X2 B ct S) rfl inG2 6 (by decide) wd_157 (fun _ h => h) rfl dX2_buyBest_208 ?_
            refine lv_iload_n hx hb dX2_buyBest_211 rfl (lv_at hl 2 rfl) ?_
            obtain ⟨g11, h⟩ := ob_gd h
            refine x_iald C0 hP ((fun S => lay_60 B ct S) S) g11 dX2_buyBest_212 ?_
            refine lv_icmp_ge (tgt := 236) hx hb dX2_buyBest_213 (by decide) (fun z12 => ?_) (fun z12 => ?_)
            · have h := ob_t h z12
              exact w_X2_buyBest_236 l C0 n0 ih0 v1 v2 v3 v4 v5 S h hP hS (lv_sub hl [1, 2, 3, 4, 5, 6] rfl)
            · have h := ob_f h z12
              exact w_X2_buyBest_216 l C0 n0 ih0 v1 v2 v3 v5 v6 s0 S h hP hS (lv_sub hl [1, 2, 3, 4, 6, 7, 0] rfl)
    · have h := ob_f h z6
      refine lv_goto (tgt := 236) hx hb dX2_buyBest_179 (by decide) ?_
      exact w_X2_buyBest_236 l C0 n0 ih0 v1 v2 v3 v4 v5 S h hP hS (lv_sub hl [1, 2, 3, 4, 5, 6] rfl)
set_option maxRecDepth 100000 in
set_option maxHeartbeats 4000000 in
theorem w_X2_buyBest_42 (l : Launch) {V : St} (C0 : XC D ct p s m args meth c cX2_buyBest 8 none RX2) (n0 : Nat) (ih0 : ∀ (v1 : Int32) (v2 : Nat) (v3 : Int32) (v4 : Int32) (v5 : Int32) (S : St) (H : Heap) (locs : List Loc) (ls : Array Slot), (lp n0 (l_X2_buyBest_42) (v1, v2, v3, v4, v5, S)).bind some = some V → MP D ct B Hb S H → va_S (AB B) s.heap H locs → lv_has ls 8 [(0, .ref (B + 55)), (1, .int v1), (2, .ref (B + v2)), (3, .int v3), (4, .int v4), (5, .int v5)] → W p l e { frames := 3, cells := 0, slots := 0, locals := 66 } s m args below meth c H locs 0 0 (MQ below (qVw D ct B Hb V) args s 0 0 (AB B)) (F0 m 42 ls [])) (v1 : Int32) (v2 : Nat) (v3 : Int32) (v4 : Int32) (v5 : Int32) (S : St) {H : Heap} {locs : List Loc} {ls : Array Slot} (h : (b_X2_buyBest_42 v1 v2 v3 v4 v5 S).bind (lpF n0 (l_X2_buyBest_42) some) = some V) (hP : MP D ct B Hb S H) (hS : va_S (AB B) s.heap H locs) (hl : lv_has ls 8 [(0, .ref (B + 55)), (1, .int v1), (2, .ref (B + v2)), (3, .int v3), (4, .int v4), (5, .int v5)]) : W p l e { frames := 3, cells := 0, slots := 0, locals := 66 } s m args below meth c H locs 0 0 (MQ below (qVw D ct B Hb V) args s 0 0 (AB B)) (F0 m 42 ls []) := by
  obtain ⟨hx, hb, hr, hml, hown, hts, hK, hlocks, hN⟩ := id C0
  unfold b_X2_buyBest_42 at h
  refine lv_iload hx hb dX2_buyBest_42 (lv_at hl 5 rfl) ?_
  refine lv_bipush (v := 11) hx hb dX2_buyBest_44 (by decide) ?_
  refine lv_icmp_ge (tgt := 242) hx hb dX2_buyBest_46 (by decide) (fun z1 => ?_) (fun z1 => ?_)
  · have h := ob_t h z1
    exact r_Vw C0 hP hS h dX2_buyBest_242
  · have h := ob_f h z1
    refine lv_aload_n hx hb dX2_buyBest_49 rfl (lv_at hl 0 rfl) ?_
    refine lv_iload hx hb dX2_buyBest_50 (lv_at hl 5 rfl) ?_
    refine lv_aload_n hx hb dX2_buyBest_52 rfl (lv_at hl 0 rfl) ?_
    refine x_get C0 hP (lay_X2 B ct S) rfl inG2 2 (by decide) wd_151 (fun _ h => h) rfl dX2_buyBest_53 ?_
    refine lv_iload_n hx hb dX2_buyBest_56 rfl (lv_at hl 1 rfl) ?_
    obtain ⟨g2, h⟩ := ob_gd h
    refine x_iald C0 hP ((fun S => lay_56 B ct S) S) g2 dX2_buyBest_57 ?_
    obtain ⟨r3, hr3, h⟩ := ob_bd h
    refine n_I (kV (As := [.int v5, .int (gi S 56 v1.toNatClampNeg)]) C0 (c_X2_isForSale l v5 (gi S 56 v1.toNatClampNeg) hr3) ⟨wd_703, wd_700, wd_702, wp_10, wd_4⟩ kd_X2_isForSale ⟨Nat.le_of_ble_eq_true rfl, Nat.le_of_ble_eq_true rfl⟩ hP (lay_X2 B ct S) rfl rfl hl.1 rfl (Nat.le_of_ble_eq_true rfl) dX2_buyBest_58 ⟨Nat.le_of_ble_eq_true rfl, Nat.le_of_ble_eq_true rfl⟩) hS (fun H locs hP hS => ?_)
    refine lv_if_eq (tgt := 236) hx hb dX2_buyBest_61 (by decide) (fun z4 => ?_) (fun z4 => ?_)
    · have h := ob_t h z4
      exact w_X2_buyBest_236 l C0 n0 ih0 v1 v2 v3 v4 v5 S h hP hS (lv_sub hl [0, 1, 2, 3, 4, 5] rfl)
    · have h := ob_f h z4
      refine lv_aload_n hx hb dX2_buyBest_64 rfl (lv_at hl 0 rfl) ?_
      obtain ⟨t5, et5, h⟩ := ob_bd h
      obtain ⟨g6, h⟩ := ob_gd h
      refine x_get (v := .ref (B + t5)) C0 hP (lay_X2 B ct S) rfl inG2 0 (by decide) wd_149 (fun _ h => h) (by show some (va_rf ((gr S 55 0).map (B + ·))) = _; rw [et5]; rfl) dX2_buyBest_65 ?_
      refine lv_aload_n hx hb dX2_buyBest_68 rfl (lv_at hl 0 rfl) ?_
      obtain ⟨t7, et7, h⟩ := ob_bd h
      obtain ⟨g8, h⟩ := ob_gd h
      refine x_get (v := .ref (B + t7)) C0 hP (lay_X2 B ct S) rfl inG2 0 (by decide) wd_149 (fun _ h => h) (by show some (va_rf ((gr S 55 0).map (B + ·))) = _; rw [et7]; rfl) dX2_buyBest_69 ?_
      refine x_get C0 hP (lay_X10 B ct S (isTownB_ok g8)) rfl inG10 2 (by decide) wd_67 (fun _ h => h) rfl dX2_buyBest_72 ?_
      refine lv_iload_n hx hb dX2_buyBest_75 rfl (lv_at hl 1 rfl) ?_
      obtain ⟨g9, h⟩ := ob_gd h
      refine x_iald C0 hP ((fun S => lay_t3 B ct S (isTownB_ok g8)) S) g9 dX2_buyBest_76 ?_
      refine lv_aload_n hx hb dX2_buyBest_77 rfl (lv_at hl 0 rfl) ?_
      refine lv_iload hx hb dX2_buyBest_78 (lv_at hl 5 rfl) ?_
      obtain ⟨r10, hr10, h⟩ := ob_bd h
      refine n_I (kV (As := [.int v5]) C0 (c_X2_caseOf l v5 hr10) ⟨wd_714, wd_711, wd_713, wp_12, wd_4⟩ kd_X2_caseOf ⟨Nat.le_of_ble_eq_true rfl, Nat.le_of_ble_eq_true rfl⟩ hP (lay_X2 B ct S) rfl rfl hl.1 rfl (Nat.le_of_ble_eq_true rfl) dX2_buyBest_80 ⟨Nat.le_of_ble_eq_true rfl, Nat.le_of_ble_eq_true rfl⟩) hS (fun H locs hP hS => ?_)
      obtain ⟨r11, hr11, h⟩ := ob_bd h
      refine n_I (kV (As := [.int (gi S (t7 + 3) v1.toNatClampNeg), .int r10]) C0 (c_X10_areKin l t5 (isTownB_ok g6) (gi S (t7 + 3) v1.toNatClampNeg) r10 hr11) ⟨wd_448, wd_715, wd_446, wd_447, wd_2⟩ kd_X10_areKin ⟨Nat.le_of_ble_eq_true rfl, Nat.le_of_ble_eq_true rfl⟩ hP (lay_X10 B ct S (isTownB_ok g6)) rfl rfl hl.1 rfl (Nat.le_of_ble_eq_true rfl) dX2_buyBest_83 ⟨Nat.le_of_ble_eq_true rfl, Nat.le_of_ble_eq_true rfl⟩) hS (fun H locs hP hS => ?_)
      refine lv_if_ne (tgt := 92) hx hb dX2_buyBest_86 (by decide) (fun z12 => ?_) (fun z12 => ?_)
      · have h := ob_f h z12
        refine lv_aload_n hx hb dX2_buyBest_92 rfl (lv_at hl 0 rfl) ?_
        refine lv_iload hx hb dX2_buyBest_93 (lv_at hl 5 rfl) ?_
        refine lv_aload_n hx hb dX2_buyBest_95 rfl (lv_at hl 0 rfl) ?_
        refine x_get C0 hP (lay_X2 B ct S) rfl inG2 2 (by decide) wd_151 (fun _ h => h) rfl dX2_buyBest_96 ?_
        refine lv_iload_n hx hb dX2_buyBest_99 rfl (lv_at hl 1 rfl) ?_
        obtain ⟨g13, h⟩ := ob_gd h
        refine x_iald C0 hP ((fun S => lay_56 B ct S) S) g13 dX2_buyBest_100 ?_
        obtain ⟨r14, hr14, h⟩ := ob_bd h
        refine n_I (kV (As := [.int v5, .int (gi S 56 v1.toNatClampNeg)]) C0 (c_X2_leftOf l v5 (gi S 56 v1.toNatClampNeg) hr14) ⟨wd_707, wd_704, wd_706, wp_11, wd_4⟩ kd_X2_leftOf ⟨Nat.le_of_ble_eq_true rfl, Nat.le_of_ble_eq_true rfl⟩ hP (lay_X2 B ct S) rfl rfl hl.1 rfl (Nat.le_of_ble_eq_true rfl) dX2_buyBest_101 ⟨Nat.le_of_ble_eq_true rfl, Nat.le_of_ble_eq_true rfl⟩) hS (fun H locs hP hS => ?_)
        refine lv_istore (lv' := [(6, .int r14), (0, .ref (B + 55)), (1, .int v1), (2, .ref (B + v2)), (3, .int v3), (4, .int v4), (5, .int v5)]) hx hb dX2_buyBest_104 hl (by decide) rfl (fun ls hl => ?_)
        refine lv_iload hx hb dX2_buyBest_106 (lv_at hl 6 rfl) ?_
        refine lv_bipush (v := 8) hx hb dX2_buyBest_108 (by decide) ?_
        refine lv_icmp_ge (tgt := 140) hx hb dX2_buyBest_110 (by decide) (fun z15 => ?_) (fun z15 => ?_)
        · have h := ob_t h z15
          refine lv_aload_n hx hb dX2_buyBest_140 rfl (lv_at hl 1 rfl) ?_
          obtain ⟨t16, et16, h⟩ := ob_bd h
          obtain ⟨g17, h⟩ := ob_gd h
          refine x_get (v := .ref (B + t16)) C0 hP (lay_X2 B ct S) rfl inG2 0 (by decide) wd_149 (fun _ h => h) (by show some (va_rf ((gr S 55 0).map (B + ·))) = _; rw [et16]; rfl) dX2_buyBest_141 ?_
          refine x_get C0 hP (lay_X10 B ct S (isTownB_ok g17)) rfl inG10 15 (by decide) wd_96 (fun _ h => h) rfl dX2_buyBest_144 ?_
          refine lv_iload hx hb dX2_buyBest_147 (lv_at hl 6 rfl) ?_
          refine lv_bipush (v := 8) hx hb dX2_buyBest_149 (by decide) ?_
          refine lv_isub hx hb dX2_buyBest_151 ?_
          obtain ⟨g18, h⟩ := ob_gd h
          refine x_iald C0 hP ((fun S => lay_t14 B ct S (isTownB_ok g17)) S) g18 dX2_buyBest_152 ?_
          exact w_X2_buyBest_153 l C0 n0 ih0 v1 v2 v3 v4 v5 r14 (gi S (t16 + 14) (v5 - 8).toNatClampNeg) S h hP hS (lv_sub hl [1, 2, 3, 4, 5, 6, 0] rfl)
        · have h := ob_f h z15
          refine lv_aload_n hx hb dX2_buyBest_113 rfl (lv_at hl 1 rfl) ?_
          obtain ⟨t19, et19, h⟩ := ob_bd h
          obtain ⟨g20, h⟩ := ob_gd h
          refine x_get (v := .ref (B + t19)) C0 hP (lay_X2 B ct S) rfl inG2 0 (by decide) wd_149 (fun _ h => h) (by show some (va_rf ((gr S 55 0).map (B + ·))) = _; rw [et19]; rfl) dX2_buyBest_114 ?_
          refine x_get C0 hP (lay_X10 B ct S (isTownB_ok g20)) rfl inG10 1 (by decide) wd_63 (fun _ h => h) rfl dX2_buyBest_117 ?_
          refine lv_iload hx hb dX2_buyBest_120 (lv_at hl 6 rfl) ?_
          obtain ⟨g21, h⟩ := ob_gd h
          obtain ⟨q22, eq22, h⟩ := ob_bd h
          refine x_aald (v := .ref (B + q22)) C0 hP ((fun S => lay_t1 B ct S (isTownB_ok g20)) S) rfl rfl g21 (by show va_rf ((gr S (t19 + 1) v5.toNatClampNeg).map (B + ·)) = _; rw [eq22]; rfl) dX2_buyBest_122 ?_
          refine lv_iload hx hb dX2_buyBest_123 (lv_at hl 0 rfl) ?_
          refine lv_aload_n hx hb dX2_buyBest_125 rfl (lv_at hl 1 rfl) ?_
          obtain ⟨t23, et23, h⟩ := ob_bd h
          obtain ⟨g24, h⟩ := ob_gd h
          refine x_get (v := .ref (B + t23)) C0 hP (lay_X2 B ct S) rfl inG2 0 (by decide) wd_149 (fun _ h => h) (by show some (va_rf ((gr S 55 0).map (B + ·))) = _; rw [et23]; rfl) dX2_buyBest_126 ?_
          refine x_get C0 hP (lay_X10 B ct S (isTownB_ok g24)) rfl inG10 18 (by decide) wd_101 (fun _ h => h) rfl dX2_buyBest_129 ?_
          refine lv_iconst (v := 2) hx hb dX2_buyBest_132 (by decide) ?_
          obtain ⟨g25, h⟩ := ob_gd h
          refine x_iald C0 hP ((fun S => lay_t17 B ct S (isTownB_ok g24)) S) g25 dX2_buyBest_133 ?_
          obtain ⟨r26, hr26, h⟩ := ob_bd h
          refine n_I (kv_priceOf l C0 wd_716 q22 r14 (gi S (t23 + 17) ((2 : Int32)).toNatClampNeg) hr26 ⟨Nat.le_of_ble_eq_true rfl, Nat.le_of_ble_eq_true rfl⟩ hP hl.1 rfl (Nat.le_of_ble_eq_true rfl) dX2_buyBest_134) hS (fun H locs hP hS => ?_)
          refine lv_goto (tgt := 153) hx hb dX2_buyBest_137 (by decide) ?_
          exact w_X2_buyBest_153 l C0 n0 ih0 v1 v2 v3 v4 v5 r14 r26 S h hP hS (lv_sub hl [1, 2, 3, 4, 5, 6, 0] rfl)
      · have h := ob_t h z12
        refine lv_goto (tgt := 236) hx hb dX2_buyBest_89 (by decide) ?_
        exact w_X2_buyBest_236 l C0 n0 ih0 v1 v2 v3 v4 v5 S h hP hS (lv_sub hl [0, 1, 2, 3, 4, 5] rfl)
set_option maxRecDepth 100000 in
set_option maxHeartbeats 4000000 in
theorem wl_X2_buyBest_42 (l : Launch) {V : St} (C0 : XC D ct p s m args meth c cX2_buyBest 8 none RX2)  : ∀ (n0 : Nat) (v1 : Int32) (v2 : Nat) (v3 : Int32) (v4 : Int32) (v5 : Int32) (S : St) {H : Heap} {locs : List Loc} {ls : Array Slot}, (lp n0 (l_X2_buyBest_42) (v1, v2, v3, v4, v5, S)).bind some = some V → MP D ct B Hb S H → va_S (AB B) s.heap H locs → lv_has ls 8 [(0, .ref (B + 55)), (1, .int v1), (2, .ref (B + v2)), (3, .int v3), (4, .int v4), (5, .int v5)] → W p l e { frames := 3, cells := 0, slots := 0, locals := 66 } s m args below meth c H locs 0 0 (MQ below (qVw D ct B Hb V) args s 0 0 (AB B)) (F0 m 42 ls []) := by
  intro n0
  induction n0 with
  | zero =>
    intro v1 v2 v3 v4 v5 S H locs ls h hP hS hl
    exact (lp_0 h).elim
  | succ n0 ih0 =>
    intro v1 v2 v3 v4 v5 S H locs ls h hP hS hl
    have h := lp_s h
    exact w_X2_buyBest_42 l C0 n0 (fun v1 v2 v3 v4 v5 S H locs ls h hP hS hl => ih0 v1 v2 v3 v4 v5 S h hP hS hl) v1 v2 v3 v4 v5 S h hP hS hl
set_option maxRecDepth 100000 in
set_option maxHeartbeats 4000000 in
theorem w_X2_buyBest_0 (l : Launch) {V : St} (C0 : XC D ct p s m args meth c cX2_buyBest 8 none RX2) (v1 : Int32) (S : St) {H : Heap} {locs : List Loc} {ls : Array Slot} (h : (b_X2_buyBest_0 v1 S).bind some = some V) (hP : MP D ct B Hb S H) (hS : va_S (AB B) s.heap H locs) (hl : lv_has ls 8 [(0, .ref (B + 55)), (1, .int v1)]) : W p l e { frames := 3, cells := 0, slots := 0, locals := 66 } s m args below meth c H locs 0 0 (MQ below (qVw D ct B Hb V) args s 0 0 (AB B)) (F0 m 0 ls []) := by
  obtain ⟨hx, hb, hr, hml, hown, hts, hK, hlocks, hN⟩ := id C0
  unfold b_X2_buyBest_0 at h
  refine lv_aload_n hx hb dX2_buyBest_0 rfl (lv_at hl 0 rfl) ?_
  obtain ⟨t1, et1, h⟩ := ob_bd h
  obtain ⟨g2, h⟩ := ob_gd h
  refine x_get (v := .ref (B + t1)) C0 hP (lay_X2 B ct S) rfl inG2 0 (by decide) wd_149 (fun _ h => h) (by show some (va_rf ((gr S 55 0).map (B + ·))) = _; rw [et1]; rfl) dX2_buyBest_1 ?_
  refine x_get C0 hP (lay_X10 B ct S (isTownB_ok g2)) rfl inG10 1 (by decide) wd_63 (fun _ h => h) rfl dX2_buyBest_4 ?_
  refine lv_iload_n hx hb dX2_buyBest_7 rfl (lv_at hl 1 rfl) ?_
  obtain ⟨g3, h⟩ := ob_gd h
  obtain ⟨q4, eq4, h⟩ := ob_bd h
  refine x_aald (v := .ref (B + q4)) C0 hP ((fun S => lay_t1 B ct S (isTownB_ok g2)) S) rfl rfl g3 (by show va_rf ((gr S (t1 + 1) v1.toNatClampNeg).map (B + ·)) = _; rw [eq4]; rfl) dX2_buyBest_8 ?_
  refine lv_astore_n (lv' := [(2, .ref (B + q4)), (0, .ref (B + 55)), (1, .int v1)]) hx hb dX2_buyBest_9 rfl hl (by decide) rfl (fun ls hl => ?_)
  refine lv_aload_n hx hb dX2_buyBest_10 rfl (lv_at hl 0 rfl) ?_
  refine lv_aload_n hx hb dX2_buyBest_11 rfl (lv_at hl 1 rfl) ?_
  refine x_get C0 hP (lay_X2 B ct S) rfl inG2 3 (by decide) wd_152 (fun _ h => h) rfl dX2_buyBest_12 ?_
  refine lv_iload_n hx hb dX2_buyBest_15 rfl (lv_at hl 2 rfl) ?_
  obtain ⟨g5, h⟩ := ob_gd h
  refine x_iald C0 hP ((fun S => lay_57 B ct S) S) g5 dX2_buyBest_16 ?_
  obtain ⟨r6, hr6, h⟩ := ob_bd h
  refine n_I (kv_strengthOf l C0 wd_682 q4 (gi S 57 v1.toNatClampNeg) hr6 ⟨Nat.le_of_ble_eq_true rfl, Nat.le_of_ble_eq_true rfl⟩ hP hl.1 rfl (Nat.le_of_ble_eq_true rfl) dX2_buyBest_17) hS (fun H locs hP hS => ?_)
  refine lv_istore_n (lv' := [(3, .int r6), (2, .ref (B + q4)), (0, .ref (B + 55)), (1, .int v1)]) hx hb dX2_buyBest_20 rfl hl (by decide) rfl (fun ls hl => ?_)
  refine lv_iconst (v := 0) hx hb dX2_buyBest_21 (by decide) ?_
  refine lv_istore (lv' := [(4, .int 0), (3, .int r6), (2, .ref (B + q4)), (0, .ref (B + 55)), (1, .int v1)]) hx hb dX2_buyBest_22 hl (by decide) rfl (fun ls hl => ?_)
  refine lv_aload_n hx hb dX2_buyBest_24 rfl (lv_at hl 3 rfl) ?_
  refine x_get C0 hP (lay_X2 B ct S) rfl inG2 5 (by decide) wd_156 (fun _ h => h) rfl dX2_buyBest_25 ?_
  refine lv_iload_n hx hb dX2_buyBest_28 rfl (lv_at hl 4 rfl) ?_
  refine lv_bipush (v := (-4)) hx hb dX2_buyBest_29 (by decide) ?_
  obtain ⟨g7, h⟩ := ob_gd h
  obtain ⟨S8, eS8, h⟩ := ob_nm h
  refine x_iast C0 hP hS (fun S => lay_59 B ct S) g7 dX2_buyBest_31 (fun H locs hP hS => ?_)
  rw [← eS8] at hP
  refine lv_aload_n hx hb dX2_buyBest_32 rfl (lv_at hl 3 rfl) ?_
  refine x_get C0 hP (lay_X2 B ct S8) rfl inG2 6 (by decide) wd_157 (fun _ h => h) rfl dX2_buyBest_33 ?_
  refine lv_iload_n hx hb dX2_buyBest_36 rfl (lv_at hl 4 rfl) ?_
  refine lv_iconst (v := 0) hx hb dX2_buyBest_37 (by decide) ?_
  obtain ⟨g9, h⟩ := ob_gd h
  obtain ⟨S10, eS10, h⟩ := ob_nm h
  refine x_iast C0 hP hS (fun S => lay_60 B ct S) g9 dX2_buyBest_38 (fun H locs hP hS => ?_)
  rw [← eS10] at hP
  refine lv_iconst (v := 0) hx hb dX2_buyBest_39 (by decide) ?_
  refine lv_istore (lv' := [(5, .int 0), (4, .int 0), (3, .int r6), (2, .ref (B + q4)), (0, .ref (B + 55)), (1, .int v1)]) hx hb dX2_buyBest_40 hl (by decide) rfl (fun ls hl => ?_)
  exact wl_X2_buyBest_42 l C0 1000 v1 q4 r6 0 0 S10 h hP hS (lv_sub hl [4, 5, 3, 2, 1, 0] rfl)
set_option maxRecDepth 100000 in
set_option maxHeartbeats 4000000 in
theorem c_X2_buyBest (l : Launch) (a1 : Int32) {D : va_G} {ct : Nat → ClassId} {B : Nat} {Hb : Heap} {S : St} {V : St} (h : L_X2_buyBest a1 S = some V) : Met l yX2_buyBest (Cond.code yX2_buyBest cX2_buyBest 8 none :: tG) { frames := 3, cells := 0, slots := 0, locals := 66 } (va_Pc [.ref (B + 55), .int a1] (MPK D ct B Hb S)) (qVw D ct B Hb V) 0 0 (AB B) := by
  refine mk_met (by decide +kernel) (Nat.le_of_ble_eq_true rfl) (fun p e s m args below meth c ls C0 hP hl _ => ?_)
  have h := ob_of h
  exact w_X2_buyBest_0 l C0 a1 S h hP va_S.rf (lv_sub hl [0, 1] rfl)
set_option maxRecDepth 100000 in
set_option maxHeartbeats 4000000 in
theorem w_X11_sideOf_0 (l : Launch) {V : Int32} (C0 : XC D ct p s m args meth c cX11_sideOf 1 (some .int) RX11) (v0 : Int32) (S : St) {H : Heap} {locs : List Loc} {ls : Array Slot} (h : (b_X11_sideOf_0 v0 S).bind some = some V) (hP : MP D ct B Hb S H) (hS : va_S (AB B) s.heap H locs) (hl : lv_has ls 1 [(0, .int v0)]) : W p l e { frames := 1, cells := 0, slots := 0, locals := 21 } s m args below meth c H locs 0 0 (MQ below (qI D ct B Hb S V) args s 0 0 (AB B)) (F0 m 0 ls []) := by
  obtain ⟨hx, hb, hr, hml, hown, hts, hK, hlocks, hN⟩ := id C0
  unfold b_X11_sideOf_0 at h
  refine lv_iload_n hx hb dX11_sideOf_0 rfl (lv_at hl 0 rfl) ?_
  refine lv_iconst (v := 0) hx hb dX11_sideOf_1 (by decide) ?_
  obtain ⟨r1, hr1, h⟩ := ob_bd h
  refine n_I (kS (As := [.int v0, .int 0]) C0 (c_J6_compare_7cf53 l v0 0 hr1) ⟨wd_760, wd_758, wd_759, wd_19⟩ kd_J6_compare_7cf53 ⟨Nat.le_of_ble_eq_true rfl, Nat.le_of_ble_eq_true rfl⟩ hP rfl hl.1 rfl (Nat.le_of_ble_eq_true rfl) dX11_sideOf_2 ⟨Nat.le_of_ble_eq_true rfl, Nat.le_of_ble_eq_true rfl⟩) hS (fun H locs hP hS => ?_)
  exact r_I C0 hP hS h dX11_sideOf_5
set_option maxRecDepth 100000 in
set_option maxHeartbeats 4000000 in
theorem c_X11_sideOf (l : Launch) (a0 : Int32) {D : va_G} {ct : Nat → ClassId} {B : Nat} {Hb : Heap} {S : St} {V : Int32} (h : L_X11_sideOf a0 S = some V) : Met l yX11_sideOf (Cond.code yX11_sideOf cX11_sideOf 1 (some .int) :: tG) { frames := 1, cells := 0, slots := 0, locals := 21 } (va_Pc [.int a0] (MPK D ct B Hb S)) (qI D ct B Hb S V) 0 0 (AB B) := by
  refine mk_met (by decide +kernel) (Nat.le_of_ble_eq_true rfl) (fun p e s m args below meth c ls C0 hP hl _ => ?_)
  have h := ob_of h
  exact w_X11_sideOf_0 l C0 a0 S h hP va_S.rf (lv_sub hl [0] rfl)
set_option maxRecDepth 100000 in
set_option maxHeartbeats 4000000 in
theorem w_X2_choose_0 (l : Launch) {V : St} (C0 : XC D ct p s m args meth c cX2_choose 3 none RX2) (v1 : Int32) (S : St) {H : Heap} {locs : List Loc} {ls : Array Slot} (h : (b_X2_choose_0 v1 S).bind some = some V) (hP : MP D ct B Hb S H) (hS : va_S (AB B) s.heap H locs) (hl : lv_has ls 3 [(0, .ref (B + 55)), (1, .int v1)]) : W p l e { frames := 2, cells := 0, slots := 0, locals := 41 } s m args below meth c H locs 0 0 (MQ below (qVw D ct B Hb V) args s 0 0 (AB B)) (F0 m 0 ls []) := by
  obtain ⟨hx, hb, hr, hml, hown, hts, hK, hlocks, hN⟩ := id C0
  unfold b_X2_choose_0 at h
  refine lv_aload_n hx hb dX2_choose_0 rfl (lv_at hl 0 rfl) ?_
  refine x_get C0 hP (lay_X2 B ct S) rfl inG2 5 (by decide) wd_156 (fun _ h => h) rfl dX2_choose_1 ?_
  refine lv_iload_n hx hb dX2_choose_4 rfl (lv_at hl 1 rfl) ?_
  obtain ⟨g1, h⟩ := ob_gd h
  refine x_iald C0 hP ((fun S => lay_59 B ct S) S) g1 dX2_choose_5 ?_
  refine lv_istore_n (lv' := [(2, .int (gi S 59 v1.toNatClampNeg)), (0, .ref (B + 55)), (1, .int v1)]) hx hb dX2_choose_6 rfl hl (by decide) rfl (fun ls hl => ?_)
  refine lv_iload_n hx hb dX2_choose_7 rfl (lv_at hl 0 rfl) ?_
  refine lv_if_ge (tgt := 27) hx hb dX2_choose_8 (by decide) (fun z2 => ?_) (fun z2 => ?_)
  · have h := ob_t h z2
    refine lv_aload_n hx hb dX2_choose_27 rfl (lv_at hl 1 rfl) ?_
    refine x_get C0 hP (lay_X2 B ct S) rfl inG2 4 (by decide) wd_154 (fun _ h => h) rfl dX2_choose_28 ?_
    refine lv_iload_n hx hb dX2_choose_31 rfl (lv_at hl 2 rfl) ?_
    refine lv_aload_n hx hb dX2_choose_32 rfl (lv_at hl 1 rfl) ?_
    refine x_get C0 hP (lay_X2 B ct S) rfl inG2 7 (by decide) wd_158 (fun _ h => h) rfl dX2_choose_33 ?_
    refine lv_iload_n hx hb dX2_choose_36 rfl (lv_at hl 0 rfl) ?_
    obtain ⟨g3, h⟩ := ob_gd h
    refine x_iald C0 hP ((fun S => lay_61 B ct S) S) g3 dX2_choose_37 ?_
    obtain ⟨g4, h⟩ := ob_gd h
    obtain ⟨S5, eS5, h⟩ := ob_nm h
    refine x_iast C0 hP hS (fun S => lay_58 B ct S) g4 dX2_choose_38 (fun H locs hP hS => ?_)
    rw [← eS5] at hP
    refine lv_aload_n hx hb dX2_choose_39 rfl (lv_at hl 1 rfl) ?_
    refine x_get C0 hP (lay_X2 B ct S5) rfl inG2 11 (by decide) wd_163 (fun _ h => h) rfl dX2_choose_40 ?_
    refine lv_iload_n hx hb dX2_choose_43 rfl (lv_at hl 0 rfl) ?_
    refine lv_iload_n hx hb dX2_choose_44 rfl (lv_at hl 2 rfl) ?_
    obtain ⟨g6, h⟩ := ob_gd h
    obtain ⟨S7, eS7, h⟩ := ob_nm h
    refine x_iast C0 hP hS (fun S => lay_65 B ct S) g6 dX2_choose_45 (fun H locs hP hS => ?_)
    rw [← eS7] at hP
    exact r_Vw C0 hP hS h dX2_choose_46
  · have h := ob_f h z2
    refine lv_aload_n hx hb dX2_choose_11 rfl (lv_at hl 1 rfl) ?_
    refine x_get C0 hP (lay_X2 B ct S) rfl inG2 4 (by decide) wd_154 (fun _ h => h) rfl dX2_choose_12 ?_
    refine lv_iload_n hx hb dX2_choose_15 rfl (lv_at hl 2 rfl) ?_
    refine lv_aload_n hx hb dX2_choose_16 rfl (lv_at hl 1 rfl) ?_
    refine x_get C0 hP (lay_X2 B ct S) rfl inG2 3 (by decide) wd_152 (fun _ h => h) rfl dX2_choose_17 ?_
    refine lv_iload_n hx hb dX2_choose_20 rfl (lv_at hl 2 rfl) ?_
    obtain ⟨g8, h⟩ := ob_gd h
    refine x_iald C0 hP ((fun S => lay_57 B ct S) S) g8 dX2_choose_21 ?_
    obtain ⟨r9, hr9, h⟩ := ob_bd h
    refine n_I (kN (host := "ThoughtBetterOf") (As := [.int (gi S 57 v1.toNatClampNeg)]) C0 (c_X11_sideOf l (gi S 57 v1.toNatClampNeg) hr9) ⟨wd_757, nw_sideOf, wd_756, wd_1⟩ kd_X11_sideOf ⟨Nat.le_of_ble_eq_true rfl, Nat.le_of_ble_eq_true rfl⟩ hP rfl hl.1 rfl (Nat.le_of_ble_eq_true rfl) dX2_choose_22 ⟨Nat.le_of_ble_eq_true rfl, Nat.le_of_ble_eq_true rfl⟩) hS (fun H locs hP hS => ?_)
    obtain ⟨g10, h⟩ := ob_gd h
    obtain ⟨S11, eS11, h⟩ := ob_nm h
    refine x_iast C0 hP hS (fun S => lay_58 B ct S) g10 dX2_choose_25 (fun H locs hP hS => ?_)
    rw [← eS11] at hP
    exact r_Vw C0 hP hS h dX2_choose_26
set_option maxRecDepth 100000 in
set_option maxHeartbeats 4000000 in
theorem c_X2_choose (l : Launch) (a1 : Int32) {D : va_G} {ct : Nat → ClassId} {B : Nat} {Hb : Heap} {S : St} {V : St} (h : L_X2_choose a1 S = some V) : Met l yX2_choose (Cond.code yX2_choose cX2_choose 3 none :: tG) { frames := 2, cells := 0, slots := 0, locals := 41 } (va_Pc [.ref (B + 55), .int a1] (MPK D ct B Hb S)) (qVw D ct B Hb V) 0 0 (AB B) := by
  refine mk_met (by decide +kernel) (Nat.le_of_ble_eq_true rfl) (fun p e s m args below meth c ls C0 hP hl _ => ?_)
  have h := ob_of h
  exact w_X2_choose_0 l C0 a1 S h hP va_S.rf (lv_sub hl [0, 1] rfl)
set_option maxRecDepth 100000 in
set_option maxHeartbeats 4000000 in
theorem w_X2_thinkAgain_0 (l : Launch) {V : St} (C0 : XC D ct p s m args meth c cX2_thinkAgain 5 none RX2) (v1 : Int32) (S : St) {H : Heap} {locs : List Loc} {ls : Array Slot} (h : (b_X2_thinkAgain_0 v1 S).bind some = some V) (hP : MP D ct B Hb S H) (hS : va_S (AB B) s.heap H locs) (hl : lv_has ls 5 [(0, .ref (B + 55)), (1, .int v1)]) : W p l e { frames := 3, cells := 0, slots := 0, locals := 66 } s m args below meth c H locs 0 0 (MQ below (qVw D ct B Hb V) args s 0 0 (AB B)) (F0 m 0 ls []) := by
  obtain ⟨hx, hb, hr, hml, hown, hts, hK, hlocks, hN⟩ := id C0
  unfold b_X2_thinkAgain_0 at h
  refine lv_aload_n hx hb dX2_thinkAgain_0 rfl (lv_at hl 0 rfl) ?_
  obtain ⟨t1, et1, h⟩ := ob_bd h
  obtain ⟨g2, h⟩ := ob_gd h
  refine x_get (v := .ref (B + t1)) C0 hP (lay_X2 B ct S) rfl inG2 0 (by decide) wd_149 (fun _ h => h) (by show some (va_rf ((gr S 55 0).map (B + ·))) = _; rw [et1]; rfl) dX2_thinkAgain_1 ?_
  refine x_get C0 hP (lay_X10 B ct S (isTownB_ok g2)) rfl inG10 18 (by decide) wd_101 (fun _ h => h) rfl dX2_thinkAgain_4 ?_
  refine lv_iconst (v := 0) hx hb dX2_thinkAgain_7 (by decide) ?_
  obtain ⟨g3, h⟩ := ob_gd h
  refine x_iald C0 hP ((fun S => lay_t17 B ct S (isTownB_ok g2)) S) g3 dX2_thinkAgain_8 ?_
  refine lv_aload_n hx hb dX2_thinkAgain_9 rfl (lv_at hl 0 rfl) ?_
  refine x_get C0 hP (lay_X2 B ct S) rfl inG2 2 (by decide) wd_151 (fun _ h => h) rfl dX2_thinkAgain_10 ?_
  refine lv_iload_n hx hb dX2_thinkAgain_13 rfl (lv_at hl 1 rfl) ?_
  obtain ⟨g4, h⟩ := ob_gd h
  refine x_iald C0 hP ((fun S => lay_56 B ct S) S) g4 dX2_thinkAgain_14 ?_
  refine lv_iconst (v := 1) hx hb dX2_thinkAgain_15 (by decide) ?_
  refine lv_iadd hx hb dX2_thinkAgain_16 ?_
  refine x_max C0 hl.1 ⟨wd_708, wd_709, wd_18, wd_710⟩ (Nat.le_of_ble_eq_true rfl) (Nat.le_of_ble_eq_true rfl) ⟨Nat.le_of_ble_eq_true rfl, Nat.le_of_ble_eq_true rfl⟩ dX2_thinkAgain_17 ?_
  obtain ⟨m5, em5, h⟩ := ob_nm h
  rw [← em5]
  refine lv_istore_n (lv' := [(2, .int m5), (0, .ref (B + 55)), (1, .int v1)]) hx hb dX2_thinkAgain_20 rfl hl (by decide) rfl (fun ls hl => ?_)
  refine lv_iload_n hx hb dX2_thinkAgain_21 rfl (lv_at hl 0 rfl) ?_
  refine lv_bipush (v := 23) hx hb dX2_thinkAgain_22 (by decide) ?_
  refine lv_icmp_le (tgt := 28) hx hb dX2_thinkAgain_24 (by decide) (fun z6 => ?_) (fun z6 => ?_)
  · have h := ob_t h z6
    refine lv_aload_n hx hb dX2_thinkAgain_28 rfl (lv_at hl 1 rfl) ?_
    obtain ⟨t7, et7, h⟩ := ob_bd h
    obtain ⟨g8, h⟩ := ob_gd h
    refine x_get (v := .ref (B + t7)) C0 hP (lay_X2 B ct S) rfl inG2 0 (by decide) wd_149 (fun _ h => h) (by show some (va_rf ((gr S 55 0).map (B + ·))) = _; rw [et7]; rfl) dX2_thinkAgain_29 ?_
    refine x_get C0 hP (lay_X10 B ct S (isTownB_ok g8)) rfl inG10 1 (by decide) wd_63 (fun _ h => h) rfl dX2_thinkAgain_32 ?_
    refine lv_iload_n hx hb dX2_thinkAgain_35 rfl (lv_at hl 2 rfl) ?_
    obtain ⟨g9, h⟩ := ob_gd h
    obtain ⟨q10, eq10, h⟩ := ob_bd h
    refine x_aald (v := .ref (B + q10)) C0 hP ((fun S => lay_t1 B ct S (isTownB_ok g8)) S) rfl rfl g9 (by show va_rf ((gr S (t7 + 1) v1.toNatClampNeg).map (B + ·)) = _; rw [eq10]; rfl) dX2_thinkAgain_36 ?_
    refine lv_astore_n (lv' := [(3, .ref (B + q10)), (2, .int m5), (0, .ref (B + 55)), (1, .int v1)]) hx hb dX2_thinkAgain_37 rfl hl (by decide) rfl (fun ls hl => ?_)
    refine lv_aload_n hx hb dX2_thinkAgain_38 rfl (lv_at hl 0 rfl) ?_
    refine lv_aload_n hx hb dX2_thinkAgain_39 rfl (lv_at hl 2 rfl) ?_
    obtain ⟨t11, et11, h⟩ := ob_bd h
    obtain ⟨g12, h⟩ := ob_gd h
    refine x_get (v := .ref (B + t11)) C0 hP (lay_X2 B ct S) rfl inG2 0 (by decide) wd_149 (fun _ h => h) (by show some (va_rf ((gr S 55 0).map (B + ·))) = _; rw [et11]; rfl) dX2_thinkAgain_40 ?_
    refine x_get C0 hP (lay_X10 B ct S (isTownB_ok g12)) rfl inG10 4 (by decide) wd_73 (fun _ h => h) rfl dX2_thinkAgain_43 ?_
    refine lv_iload_n hx hb dX2_thinkAgain_46 rfl (lv_at hl 3 rfl) ?_
    obtain ⟨g13, h⟩ := ob_gd h
    refine x_iald C0 hP ((fun S => lay_t5 B ct S (isTownB_ok g12)) S) g13 dX2_thinkAgain_47 ?_
    refine lv_aload_n hx hb dX2_thinkAgain_48 rfl (lv_at hl 2 rfl) ?_
    obtain ⟨t14, et14, h⟩ := ob_bd h
    obtain ⟨g15, h⟩ := ob_gd h
    refine x_get (v := .ref (B + t14)) C0 hP (lay_X2 B ct S) rfl inG2 0 (by decide) wd_149 (fun _ h => h) (by show some (va_rf ((gr S 55 0).map (B + ·))) = _; rw [et14]; rfl) dX2_thinkAgain_49 ?_
    refine lv_aload_n hx hb dX2_thinkAgain_52 rfl (lv_at hl 2 rfl) ?_
    obtain ⟨t16, et16, h⟩ := ob_bd h
    obtain ⟨g17, h⟩ := ob_gd h
    refine x_get (v := .ref (B + t16)) C0 hP (lay_X2 B ct S) rfl inG2 0 (by decide) wd_149 (fun _ h => h) (by show some (va_rf ((gr S 55 0).map (B + ·))) = _; rw [et16]; rfl) dX2_thinkAgain_53 ?_
    refine x_get C0 hP (lay_X10 B ct S (isTownB_ok g17)) rfl inG10 2 (by decide) wd_67 (fun _ h => h) rfl dX2_thinkAgain_56 ?_
    refine lv_iload_n hx hb dX2_thinkAgain_59 rfl (lv_at hl 3 rfl) ?_
    obtain ⟨g18, h⟩ := ob_gd h
    refine x_iald C0 hP ((fun S => lay_t3 B ct S (isTownB_ok g17)) S) g18 dX2_thinkAgain_60 ?_
    refine lv_iload_n hx hb dX2_thinkAgain_61 rfl (lv_at hl 1 rfl) ?_
    refine lv_aload_n hx hb dX2_thinkAgain_62 rfl (lv_at hl 2 rfl) ?_
    refine x_get C0 hP (lay_X2 B ct S) rfl inG2 1 (by decide) wd_150 (fun _ h => h) rfl dX2_thinkAgain_63 ?_
    obtain ⟨r19, hr19, h⟩ := ob_bd h
    refine n_I (kV (As := [.int (gi S (t16 + 3) v1.toNatClampNeg), .int m5, .int (gi S 55 1)]) C0 (c_X10_weightOf l t14 (isTownB_ok g15) (gi S (t16 + 3) v1.toNatClampNeg) m5 (gi S 55 1) hr19) ⟨wd_654, wd_651, wd_652, wd_653, wd_2⟩ kd_X10_weightOf ⟨Nat.le_of_ble_eq_true rfl, Nat.le_of_ble_eq_true rfl⟩ hP (lay_X10 B ct S (isTownB_ok g15)) rfl rfl hl.1 rfl (Nat.le_of_ble_eq_true rfl) dX2_thinkAgain_66 ⟨Nat.le_of_ble_eq_true rfl, Nat.le_of_ble_eq_true rfl⟩) hS (fun H locs hP hS => ?_)
    obtain ⟨r20, hr20, h⟩ := ob_bd h
    refine n_I (kv_sumOf l C0 wd_655 q10 (gi S (t11 + 5) v1.toNatClampNeg) r19 hr20 ⟨Nat.le_of_ble_eq_true rfl, Nat.le_of_ble_eq_true rfl⟩ hP hl.1 rfl (Nat.le_of_ble_eq_true rfl) dX2_thinkAgain_69) hS (fun H locs hP hS => ?_)
    refine lv_istore (lv' := [(4, .int r20), (3, .ref (B + q10)), (2, .int m5), (0, .ref (B + 55)), (1, .int v1)]) hx hb dX2_thinkAgain_72 hl (by decide) rfl (fun ls hl => ?_)
    refine lv_iload hx hb dX2_thinkAgain_74 (lv_at hl 0 rfl) ?_
    refine lv_if_eq (tgt := 123) hx hb dX2_thinkAgain_76 (by decide) (fun z21 => ?_) (fun z21 => ?_)
    · have h := ob_t h z21
      exact r_Vw C0 hP hS h dX2_thinkAgain_123
    · have h := ob_f h z21
      refine lv_iload hx hb dX2_thinkAgain_79 (lv_at hl 0 rfl) ?_
      obtain ⟨r22, hr22, h⟩ := ob_bd h
      refine n_I (kN (host := "ThoughtBetterOf") (As := [.int r20]) C0 (c_X11_sideOf l r20 hr22) ⟨wd_757, nw_sideOf, wd_756, wd_1⟩ kd_X11_sideOf ⟨Nat.le_of_ble_eq_true rfl, Nat.le_of_ble_eq_true rfl⟩ hP rfl hl.1 rfl (Nat.le_of_ble_eq_true rfl) dX2_thinkAgain_81 ⟨Nat.le_of_ble_eq_true rfl, Nat.le_of_ble_eq_true rfl⟩) hS (fun H locs hP hS => ?_)
      refine lv_aload_n hx hb dX2_thinkAgain_84 rfl (lv_at hl 3 rfl) ?_
      refine x_get C0 hP (lay_X2 B ct S) rfl inG2 4 (by decide) wd_154 (fun _ h => h) rfl dX2_thinkAgain_85 ?_
      refine lv_iload_n hx hb dX2_thinkAgain_88 rfl (lv_at hl 4 rfl) ?_
      obtain ⟨g23, h⟩ := ob_gd h
      refine x_iald C0 hP ((fun S => lay_58 B ct S) S) g23 dX2_thinkAgain_89 ?_
      refine lv_icmp_eq (tgt := 123) hx hb dX2_thinkAgain_90 (by decide) (fun z24 => ?_) (fun z24 => ?_)
      · have h := ob_t h z24
        exact r_Vw C0 hP hS h dX2_thinkAgain_123
      · have h := ob_f h z24
        refine lv_aload_n hx hb dX2_thinkAgain_93 rfl (lv_at hl 3 rfl) ?_
        refine lv_iload_n hx hb dX2_thinkAgain_94 rfl (lv_at hl 4 rfl) ?_
        refine lv_iload hx hb dX2_thinkAgain_95 (lv_at hl 0 rfl) ?_
        obtain ⟨r25, hr25, h⟩ := ob_bd h
        refine n_I (kN (host := "ThoughtBetterOf") (As := [.int r20]) C0 (c_X11_sideOf l r20 hr25) ⟨wd_757, nw_sideOf, wd_756, wd_1⟩ kd_X11_sideOf ⟨Nat.le_of_ble_eq_true rfl, Nat.le_of_ble_eq_true rfl⟩ hP rfl hl.1 rfl (Nat.le_of_ble_eq_true rfl) dX2_thinkAgain_97 ⟨Nat.le_of_ble_eq_true rfl, Nat.le_of_ble_eq_true rfl⟩) hS (fun H locs hP hS => ?_)
        refine lv_aload_n hx hb dX2_thinkAgain_100 rfl (lv_at hl 1 rfl) ?_
        refine lv_iload hx hb dX2_thinkAgain_101 (lv_at hl 0 rfl) ?_
        obtain ⟨r26, hr26, h⟩ := ob_bd h
        refine n_I (kv_strengthOf l C0 wd_682 q10 r20 hr26 ⟨Nat.le_of_ble_eq_true rfl, Nat.le_of_ble_eq_true rfl⟩ hP hl.1 rfl (Nat.le_of_ble_eq_true rfl) dX2_thinkAgain_103) hS (fun H locs hP hS => ?_)
        refine lv_iload_n hx hb dX2_thinkAgain_106 rfl (lv_at hl 2 rfl) ?_
        refine lv_aload_n hx hb dX2_thinkAgain_107 rfl (lv_at hl 1 rfl) ?_
        refine lv_aload_n hx hb dX2_thinkAgain_108 rfl (lv_at hl 3 rfl) ?_
        obtain ⟨t27, et27, h⟩ := ob_bd h
        obtain ⟨g28, h⟩ := ob_gd h
        refine x_get (v := .ref (B + t27)) C0 hP (lay_X2 B ct S) rfl inG2 0 (by decide) wd_149 (fun _ h => h) (by show some (va_rf ((gr S 55 0).map (B + ·))) = _; rw [et27]; rfl) dX2_thinkAgain_109 ?_
        refine x_get C0 hP (lay_X10 B ct S (isTownB_ok g28)) rfl inG10 18 (by decide) wd_101 (fun _ h => h) rfl dX2_thinkAgain_112 ?_
        refine lv_iconst (v := 1) hx hb dX2_thinkAgain_115 (by decide) ?_
        obtain ⟨g29, h⟩ := ob_gd h
        refine x_iald C0 hP ((fun S => lay_t17 B ct S (isTownB_ok g28)) S) g29 dX2_thinkAgain_116 ?_
        obtain ⟨r30, hr30, h⟩ := ob_bd h
        refine n_I (kv_fadeBy l C0 wd_765 q10 (gi S (t27 + 17) ((1 : Int32)).toNatClampNeg) hr30 ⟨Nat.le_of_ble_eq_true rfl, Nat.le_of_ble_eq_true rfl⟩ hP hl.1 rfl (Nat.le_of_ble_eq_true rfl) dX2_thinkAgain_117) hS (fun H locs hP hS => ?_)
        obtain ⟨r31, hr31, h⟩ := ob_bd h
        refine n_Vw (kV (As := [.int v1, .int r25, .int r26, .int m5, .int r30]) C0 (c_X2_offer l v1 r25 r26 m5 r30 hr31) ⟨wd_646, wd_643, wd_645, wp_7, wd_4⟩ kd_X2_offer ⟨Nat.le_of_ble_eq_true rfl, Nat.le_of_ble_eq_true rfl⟩ hP (lay_X2 B ct S) rfl rfl hl.1 rfl (Nat.le_of_ble_eq_true rfl) dX2_thinkAgain_120 ⟨Nat.le_of_ble_eq_true rfl, Nat.le_of_ble_eq_true rfl⟩) hS (fun H locs hP hS => ?_)
        exact r_Vw C0 hP hS h dX2_thinkAgain_123
  · have h := ob_f h z6
    exact r_Vw C0 hP hS h dX2_thinkAgain_27
set_option maxRecDepth 100000 in
set_option maxHeartbeats 4000000 in
theorem c_X2_thinkAgain (l : Launch) (a1 : Int32) {D : va_G} {ct : Nat → ClassId} {B : Nat} {Hb : Heap} {S : St} {V : St} (h : L_X2_thinkAgain a1 S = some V) : Met l yX2_thinkAgain (Cond.code yX2_thinkAgain cX2_thinkAgain 5 none :: tG) { frames := 3, cells := 0, slots := 0, locals := 66 } (va_Pc [.ref (B + 55), .int a1] (MPK D ct B Hb S)) (qVw D ct B Hb V) 0 0 (AB B) := by
  refine mk_met (by decide +kernel) (Nat.le_of_ble_eq_true rfl) (fun p e s m args below meth c ls C0 hP hl _ => ?_)
  have h := ob_of h
  exact w_X2_thinkAgain_0 l C0 a1 S h hP va_S.rf (lv_sub hl [0, 1] rfl)
end WALKS
