theorem dX12_thrown_0 : decode cX12_thrown 0 = .ok (.aload_n 0, 1) := by decide +kernel
theorem dX12_thrown_1 : decode cX12_thrown 1 = .ok (.getfield 160, 3) := by decide +kernel
theorem dX12_thrown_4 : decode cX12_thrown 4 = .ok (.ireturn, 1) := by decide +kernel
theorem dX12_in_0 : decode cX12_in 0 = .ok (.lload_n 0, 1) := by decide +kernel
theorem dX12_in_1 : decode cX12_in 1 = .ok (.lload_n 2, 1) := by decide +kernel
theorem dX12_in_2 : decode cX12_in 2 = .ok (.lcmp, 1) := by decide +kernel
theorem dX12_in_3 : decode cX12_in 3 = .ok (.ifCond .lt 14, 3) := by decide +kernel
theorem dX12_in_6 : decode cX12_in 6 = .ok (.lload_n 0, 1) := by decide +kernel
theorem dX12_in_7 : decode cX12_in 7 = .ok (.lload 4, 2) := by decide +kernel
theorem dX12_in_9 : decode cX12_in 9 = .ok (.lcmp, 1) := by decide +kernel
theorem dX12_in_10 : decode cX12_in 10 = .ok (.ifCond .gt 7, 3) := by decide +kernel
theorem dX12_in_13 : decode cX12_in 13 = .ok (.iconst 1, 1) := by decide +kernel
theorem dX12_in_14 : decode cX12_in 14 = .ok (.goto 4, 3) := by decide +kernel
theorem dX12_in_17 : decode cX12_in 17 = .ok (.iconst 0, 1) := by decide +kernel
theorem dX12_in_18 : decode cX12_in 18 = .ok (.ireturn, 1) := by decide +kernel
theorem dX12_isCase_0 : decode cX12_isCase 0 = .ok (.iload_n 0, 1) := by decide +kernel
theorem dX12_isCase_1 : decode cX12_isCase 1 = .ok (.i2l, 1) := by decide +kernel
theorem dX12_isCase_2 : decode cX12_isCase 2 = .ok (.lconst 0, 1) := by decide +kernel
theorem dX12_isCase_3 : decode cX12_isCase 3 = .ok (.ldc2_w 163, 3) := by decide +kernel
theorem dX12_isCase_6 : decode cX12_isCase 6 = .ok (.invokestatic 165, 3) := by decide +kernel
theorem dX12_isCase_9 : decode cX12_isCase 9 = .ok (.ireturn, 1) := by decide +kernel
theorem dX12_isHour_0 : decode cX12_isHour 0 = .ok (.iload_n 0, 1) := by decide +kernel
theorem dX12_isHour_1 : decode cX12_isHour 1 = .ok (.i2l, 1) := by decide +kernel
theorem dX12_isHour_2 : decode cX12_isHour 2 = .ok (.lconst 0, 1) := by decide +kernel
theorem dX12_isHour_3 : decode cX12_isHour 3 = .ok (.ldc2_w 169, 3) := by decide +kernel
theorem dX12_isHour_6 : decode cX12_isHour 6 = .ok (.invokestatic 165, 3) := by decide +kernel
theorem dX12_isHour_9 : decode cX12_isHour 9 = .ok (.ireturn, 1) := by decide +kernel
theorem dX12_isOne_0 : decode cX12_isOne 0 = .ok (.iload_n 1, 1) := by decide +kernel
theorem dX12_isOne_1 : decode cX12_isOne 1 = .ok (.i2l, 1) := by decide +kernel
theorem dX12_isOne_2 : decode cX12_isOne 2 = .ok (.lconst 0, 1) := by decide +kernel
theorem dX12_isOne_3 : decode cX12_isOne 3 = .ok (.aload_n 0, 1) := by decide +kernel
theorem dX12_isOne_4 : decode cX12_isOne 4 = .ok (.getfield 171, 3) := by decide +kernel
theorem dX12_isOne_7 : decode cX12_isOne 7 = .ok (.iconst 1, 1) := by decide +kernel
theorem dX12_isOne_8 : decode cX12_isOne 8 = .ok (.isub, 1) := by decide +kernel
theorem dX12_isOne_9 : decode cX12_isOne 9 = .ok (.i2l, 1) := by decide +kernel
theorem dX12_isOne_10 : decode cX12_isOne 10 = .ok (.invokestatic 165, 3) := by decide +kernel
theorem dX12_isOne_13 : decode cX12_isOne 13 = .ok (.ireturn, 1) := by decide +kernel
theorem dX12_plainly_0 : decode cX12_plainly 0 = .ok (.iload_n 0, 1) := by decide +kernel
theorem dX12_plainly_1 : decode cX12_plainly 1 = .ok (.ifCond .ge 8, 3) := by decide +kernel
theorem dX12_plainly_4 : decode cX12_plainly 4 = .ok (.iload_n 0, 1) := by decide +kernel
theorem dX12_plainly_5 : decode cX12_plainly 5 = .ok (.ineg, 1) := by decide +kernel
theorem dX12_plainly_6 : decode cX12_plainly 6 = .ok (.goto 4, 3) := by decide +kernel
theorem dX12_plainly_9 : decode cX12_plainly 9 = .ok (.iload_n 0, 1) := by decide +kernel
theorem dX12_plainly_10 : decode cX12_plainly 10 = .ok (.ireturn, 1) := by decide +kernel
theorem dX12_atLeast_0 : decode cX12_atLeast 0 = .ok (.iload_n 0, 1) := by decide +kernel
theorem dX12_atLeast_1 : decode cX12_atLeast 1 = .ok (.ifCond .ge 7, 3) := by decide +kernel
theorem dX12_atLeast_4 : decode cX12_atLeast 4 = .ok (.iconst 0, 1) := by decide +kernel
theorem dX12_atLeast_5 : decode cX12_atLeast 5 = .ok (.goto 4, 3) := by decide +kernel
theorem dX12_atLeast_8 : decode cX12_atLeast 8 = .ok (.iload_n 0, 1) := by decide +kernel
theorem dX12_atLeast_9 : decode cX12_atLeast 9 = .ok (.ireturn, 1) := by decide +kernel
theorem dX12_dueOf_0 : decode cX12_dueOf 0 = .ok (.aload_n 0, 1) := by decide +kernel
theorem dX12_dueOf_1 : decode cX12_dueOf 1 = .ok (.getfield 50, 3) := by decide +kernel
theorem dX12_dueOf_4 : decode cX12_dueOf 4 = .ok (.iload_n 1, 1) := by decide +kernel
theorem dX12_dueOf_5 : decode cX12_dueOf 5 = .ok (.iaload, 1) := by decide +kernel
theorem dX12_dueOf_6 : decode cX12_dueOf 6 = .ok (.iconst 1, 1) := by decide +kernel
theorem dX12_dueOf_7 : decode cX12_dueOf 7 = .ok (.if_icmp .ne 19, 3) := by decide +kernel
theorem dX12_dueOf_10 : decode cX12_dueOf 10 = .ok (.aload_n 0, 1) := by decide +kernel
theorem dX12_dueOf_11 : decode cX12_dueOf 11 = .ok (.getfield 59, 3) := by decide +kernel
theorem dX12_dueOf_14 : decode cX12_dueOf 14 = .ok (.iload_n 1, 1) := by decide +kernel
theorem dX12_dueOf_15 : decode cX12_dueOf 15 = .ok (.iaload, 1) := by decide +kernel
theorem dX12_dueOf_16 : decode cX12_dueOf 16 = .ok (.bipush 12, 2) := by decide +kernel
theorem dX12_dueOf_18 : decode cX12_dueOf 18 = .ok (.if_icmp .le 8, 3) := by decide +kernel
theorem dX12_dueOf_21 : decode cX12_dueOf 21 = .ok (.bipush 12, 2) := by decide +kernel
theorem dX12_dueOf_23 : decode cX12_dueOf 23 = .ok (.goto 9, 3) := by decide +kernel
theorem dX12_dueOf_26 : decode cX12_dueOf 26 = .ok (.aload_n 0, 1) := by decide +kernel
theorem dX12_dueOf_27 : decode cX12_dueOf 27 = .ok (.getfield 59, 3) := by decide +kernel
theorem dX12_dueOf_30 : decode cX12_dueOf 30 = .ok (.iload_n 1, 1) := by decide +kernel
theorem dX12_dueOf_31 : decode cX12_dueOf 31 = .ok (.iaload, 1) := by decide +kernel
theorem dX12_dueOf_32 : decode cX12_dueOf 32 = .ok (.ireturn, 1) := by decide +kernel
theorem dX12_sumOf_0 : decode cX12_sumOf 0 = .ok (.aload_n 0, 1) := by decide +kernel
theorem dX12_sumOf_1 : decode cX12_sumOf 1 = .ok (.getfield 50, 3) := by decide +kernel
theorem dX12_sumOf_4 : decode cX12_sumOf 4 = .ok (.iload_n 1, 1) := by decide +kernel
theorem dX12_sumOf_5 : decode cX12_sumOf 5 = .ok (.iaload, 1) := by decide +kernel
theorem dX12_sumOf_6 : decode cX12_sumOf 6 = .ok (.tableswitch 46 4 7 #[30, 36, 46, 40], 30) := by decide +kernel
theorem dX12_sumOf_36 : decode cX12_sumOf 36 = .ok (.iload_n 2, 1) := by decide +kernel
theorem dX12_sumOf_37 : decode cX12_sumOf 37 = .ok (.iconst 2, 1) := by decide +kernel
theorem dX12_sumOf_38 : decode cX12_sumOf 38 = .ok (.iload_n 3, 1) := by decide +kernel
theorem dX12_sumOf_39 : decode cX12_sumOf 39 = .ok (.imul, 1) := by decide +kernel
theorem dX12_sumOf_40 : decode cX12_sumOf 40 = .ok (.iadd, 1) := by decide +kernel
theorem dX12_sumOf_41 : decode cX12_sumOf 41 = .ok (.ireturn, 1) := by decide +kernel
theorem dX12_sumOf_42 : decode cX12_sumOf 42 = .ok (.iconst 2, 1) := by decide +kernel
theorem dX12_sumOf_43 : decode cX12_sumOf 43 = .ok (.iload_n 3, 1) := by decide +kernel
theorem dX12_sumOf_44 : decode cX12_sumOf 44 = .ok (.imul, 1) := by decide +kernel
theorem dX12_sumOf_45 : decode cX12_sumOf 45 = .ok (.ireturn, 1) := by decide +kernel
theorem dX12_sumOf_46 : decode cX12_sumOf 46 = .ok (.iconst 2, 1) := by decide +kernel
theorem dX12_sumOf_47 : decode cX12_sumOf 47 = .ok (.iload_n 2, 1) := by decide +kernel
theorem dX12_sumOf_48 : decode cX12_sumOf 48 = .ok (.imul, 1) := by decide +kernel
theorem dX12_sumOf_49 : decode cX12_sumOf 49 = .ok (.iload_n 3, 1) := by decide +kernel
theorem dX12_sumOf_50 : decode cX12_sumOf 50 = .ok (.iadd, 1) := by decide +kernel
theorem dX12_sumOf_51 : decode cX12_sumOf 51 = .ok (.ireturn, 1) := by decide +kernel
theorem dX12_sumOf_52 : decode cX12_sumOf 52 = .ok (.iload_n 2, 1) := by decide +kernel
theorem dX12_sumOf_53 : decode cX12_sumOf 53 = .ok (.iload_n 3, 1) := by decide +kernel
theorem dX12_sumOf_54 : decode cX12_sumOf 54 = .ok (.iadd, 1) := by decide +kernel
theorem dX12_sumOf_55 : decode cX12_sumOf 55 = .ok (.ireturn, 1) := by decide +kernel
theorem dX12_strengthOf_0 : decode cX12_strengthOf 0 = .ok (.iload_n 2, 1) := by decide +kernel
theorem dX12_strengthOf_1 : decode cX12_strengthOf 1 = .ok (.invokestatic 174, 3) := by decide +kernel
theorem dX12_strengthOf_4 : decode cX12_strengthOf 4 = .ok (.istore_n 3, 1) := by decide +kernel
theorem dX12_strengthOf_5 : decode cX12_strengthOf 5 = .ok (.aload_n 0, 1) := by decide +kernel
theorem dX12_strengthOf_6 : decode cX12_strengthOf 6 = .ok (.getfield 50, 3) := by decide +kernel
theorem dX12_strengthOf_9 : decode cX12_strengthOf 9 = .ok (.iload_n 1, 1) := by decide +kernel
theorem dX12_strengthOf_10 : decode cX12_strengthOf 10 = .ok (.iaload, 1) := by decide +kernel
theorem dX12_strengthOf_11 : decode cX12_strengthOf 11 = .ok (.iconst 2, 1) := by decide +kernel
theorem dX12_strengthOf_12 : decode cX12_strengthOf 12 = .ok (.if_icmp .ne 14, 3) := by decide +kernel
theorem dX12_strengthOf_15 : decode cX12_strengthOf 15 = .ok (.iload_n 3, 1) := by decide +kernel
theorem dX12_strengthOf_16 : decode cX12_strengthOf 16 = .ok (.aload_n 0, 1) := by decide +kernel
theorem dX12_strengthOf_17 : decode cX12_strengthOf 17 = .ok (.getfield 53, 3) := by decide +kernel
theorem dX12_strengthOf_20 : decode cX12_strengthOf 20 = .ok (.iload_n 1, 1) := by decide +kernel
theorem dX12_strengthOf_21 : decode cX12_strengthOf 21 = .ok (.iaload, 1) := by decide +kernel
theorem dX12_strengthOf_22 : decode cX12_strengthOf 22 = .ok (.iadd, 1) := by decide +kernel
theorem dX12_strengthOf_23 : decode cX12_strengthOf 23 = .ok (.goto 27, 3) := by decide +kernel
theorem dX12_strengthOf_26 : decode cX12_strengthOf 26 = .ok (.aload_n 0, 1) := by decide +kernel
theorem dX12_strengthOf_27 : decode cX12_strengthOf 27 = .ok (.getfield 50, 3) := by decide +kernel
theorem dX12_strengthOf_30 : decode cX12_strengthOf 30 = .ok (.iload_n 1, 1) := by decide +kernel
theorem dX12_strengthOf_31 : decode cX12_strengthOf 31 = .ok (.iaload, 1) := by decide +kernel
theorem dX12_strengthOf_32 : decode cX12_strengthOf 32 = .ok (.iconst 3, 1) := by decide +kernel
theorem dX12_strengthOf_33 : decode cX12_strengthOf 33 = .ok (.if_icmp .ne 16, 3) := by decide +kernel
theorem dX12_strengthOf_36 : decode cX12_strengthOf 36 = .ok (.iconst 2, 1) := by decide +kernel
theorem dX12_strengthOf_37 : decode cX12_strengthOf 37 = .ok (.iload_n 3, 1) := by decide +kernel
theorem dX12_strengthOf_38 : decode cX12_strengthOf 38 = .ok (.aload_n 0, 1) := by decide +kernel
theorem dX12_strengthOf_39 : decode cX12_strengthOf 39 = .ok (.getfield 53, 3) := by decide +kernel
theorem dX12_strengthOf_42 : decode cX12_strengthOf 42 = .ok (.iload_n 1, 1) := by decide +kernel
theorem dX12_strengthOf_43 : decode cX12_strengthOf 43 = .ok (.iaload, 1) := by decide +kernel
theorem dX12_strengthOf_44 : decode cX12_strengthOf 44 = .ok (.iadd, 1) := by decide +kernel
theorem dX12_strengthOf_45 : decode cX12_strengthOf 45 = .ok (.imul, 1) := by decide +kernel
theorem dX12_strengthOf_46 : decode cX12_strengthOf 46 = .ok (.goto 4, 3) := by decide +kernel
theorem dX12_strengthOf_49 : decode cX12_strengthOf 49 = .ok (.iload_n 3, 1) := by decide +kernel
theorem dX12_strengthOf_50 : decode cX12_strengthOf 50 = .ok (.ireturn, 1) := by decide +kernel
theorem dX12_priceOf_0 : decode cX12_priceOf 0 = .ok (.iload_n 2, 1) := by decide +kernel
theorem dX12_priceOf_1 : decode cX12_priceOf 1 = .ok (.aload_n 0, 1) := by decide +kernel
theorem dX12_priceOf_2 : decode cX12_priceOf 2 = .ok (.getfield 32, 3) := by decide +kernel
theorem dX12_priceOf_5 : decode cX12_priceOf 5 = .ok (.imul, 1) := by decide +kernel
theorem dX12_priceOf_6 : decode cX12_priceOf 6 = .ok (.iconst 3, 1) := by decide +kernel
theorem dX12_priceOf_7 : decode cX12_priceOf 7 = .ok (.iadd, 1) := by decide +kernel
theorem dX12_priceOf_8 : decode cX12_priceOf 8 = .ok (.iconst 4, 1) := by decide +kernel
theorem dX12_priceOf_9 : decode cX12_priceOf 9 = .ok (.idiv, 1) := by decide +kernel
theorem dX12_priceOf_10 : decode cX12_priceOf 10 = .ok (.istore_n 3, 1) := by decide +kernel
theorem dX12_priceOf_11 : decode cX12_priceOf 11 = .ok (.aload_n 0, 1) := by decide +kernel
theorem dX12_priceOf_12 : decode cX12_priceOf 12 = .ok (.getfield 50, 3) := by decide +kernel
theorem dX12_priceOf_15 : decode cX12_priceOf 15 = .ok (.iload_n 1, 1) := by decide +kernel
theorem dX12_priceOf_16 : decode cX12_priceOf 16 = .ok (.iaload, 1) := by decide +kernel
theorem dX12_priceOf_17 : decode cX12_priceOf 17 = .ok (.bipush 6, 2) := by decide +kernel
theorem dX12_priceOf_19 : decode cX12_priceOf 19 = .ok (.if_icmp .ne 9, 3) := by decide +kernel
theorem dX12_priceOf_22 : decode cX12_priceOf 22 = .ok (.iload_n 3, 1) := by decide +kernel
theorem dX12_priceOf_23 : decode cX12_priceOf 23 = .ok (.iconst 2, 1) := by decide +kernel
theorem dX12_priceOf_24 : decode cX12_priceOf 24 = .ok (.idiv, 1) := by decide +kernel
theorem dX12_priceOf_25 : decode cX12_priceOf 25 = .ok (.goto 26, 3) := by decide +kernel
theorem dX12_priceOf_28 : decode cX12_priceOf 28 = .ok (.aload_n 0, 1) := by decide +kernel
theorem dX12_priceOf_29 : decode cX12_priceOf 29 = .ok (.getfield 50, 3) := by decide +kernel
theorem dX12_priceOf_32 : decode cX12_priceOf 32 = .ok (.iload_n 1, 1) := by decide +kernel
theorem dX12_priceOf_33 : decode cX12_priceOf 33 = .ok (.iaload, 1) := by decide +kernel
theorem dX12_priceOf_34 : decode cX12_priceOf 34 = .ok (.bipush 7, 2) := by decide +kernel
theorem dX12_priceOf_36 : decode cX12_priceOf 36 = .ok (.if_icmp .ne 14, 3) := by decide +kernel
theorem dX12_priceOf_39 : decode cX12_priceOf 39 = .ok (.iload_n 3, 1) := by decide +kernel
theorem dX12_priceOf_40 : decode cX12_priceOf 40 = .ok (.iconst 2, 1) := by decide +kernel
theorem dX12_priceOf_41 : decode cX12_priceOf 41 = .ok (.idiv, 1) := by decide +kernel
theorem dX12_priceOf_42 : decode cX12_priceOf 42 = .ok (.iconst 1, 1) := by decide +kernel
theorem dX12_priceOf_43 : decode cX12_priceOf 43 = .ok (.isub, 1) := by decide +kernel
theorem dX12_priceOf_44 : decode cX12_priceOf 44 = .ok (.invokestatic 178, 3) := by decide +kernel
theorem dX12_priceOf_47 : decode cX12_priceOf 47 = .ok (.goto 4, 3) := by decide +kernel
theorem dX12_priceOf_50 : decode cX12_priceOf 50 = .ok (.iload_n 3, 1) := by decide +kernel
theorem dX12_priceOf_51 : decode cX12_priceOf 51 = .ok (.ireturn, 1) := by decide +kernel
theorem dX12_buys_0 : decode cX12_buys 0 = .ok (.aload_n 0, 1) := by decide +kernel
theorem dX12_buys_1 : decode cX12_buys 1 = .ok (.getfield 50, 3) := by decide +kernel
theorem dX12_buys_4 : decode cX12_buys 4 = .ok (.iload_n 1, 1) := by decide +kernel
theorem dX12_buys_5 : decode cX12_buys 5 = .ok (.iaload, 1) := by decide +kernel
theorem dX12_buys_6 : decode cX12_buys 6 = .ok (.iconst 3, 1) := by decide +kernel
theorem dX12_buys_7 : decode cX12_buys 7 = .ok (.if_icmp .ne 7, 3) := by decide +kernel
theorem dX12_buys_10 : decode cX12_buys 10 = .ok (.iconst 0, 1) := by decide +kernel
theorem dX12_buys_11 : decode cX12_buys 11 = .ok (.goto 36, 3) := by decide +kernel
theorem dX12_buys_14 : decode cX12_buys 14 = .ok (.aload_n 0, 1) := by decide +kernel
theorem dX12_buys_15 : decode cX12_buys 15 = .ok (.getfield 50, 3) := by decide +kernel
theorem dX12_buys_18 : decode cX12_buys 18 = .ok (.iload_n 1, 1) := by decide +kernel
theorem dX12_buys_19 : decode cX12_buys 19 = .ok (.iaload, 1) := by decide +kernel
theorem dX12_buys_20 : decode cX12_buys 20 = .ok (.iconst 5, 1) := by decide +kernel
theorem dX12_buys_21 : decode cX12_buys 21 = .ok (.if_icmp .le 16, 3) := by decide +kernel
theorem dX12_buys_24 : decode cX12_buys 24 = .ok (.iload_n 2, 1) := by decide +kernel
theorem dX12_buys_25 : decode cX12_buys 25 = .ok (.iload_n 3, 1) := by decide +kernel
theorem dX12_buys_26 : decode cX12_buys 26 = .ok (.if_icmp .lt 7, 3) := by decide +kernel
theorem dX12_buys_29 : decode cX12_buys 29 = .ok (.iconst 1, 1) := by decide +kernel
theorem dX12_buys_30 : decode cX12_buys 30 = .ok (.goto 17, 3) := by decide +kernel
theorem dX12_buys_33 : decode cX12_buys 33 = .ok (.iconst 0, 1) := by decide +kernel
theorem dX12_buys_34 : decode cX12_buys 34 = .ok (.goto 13, 3) := by decide +kernel
theorem dX12_buys_37 : decode cX12_buys 37 = .ok (.iload_n 2, 1) := by decide +kernel
theorem dX12_buys_38 : decode cX12_buys 38 = .ok (.iload_n 3, 1) := by decide +kernel
theorem dX12_buys_39 : decode cX12_buys 39 = .ok (.if_icmp .le 7, 3) := by decide +kernel
theorem dX12_buys_42 : decode cX12_buys 42 = .ok (.iconst 1, 1) := by decide +kernel
theorem dX12_buys_43 : decode cX12_buys 43 = .ok (.goto 4, 3) := by decide +kernel
theorem dX12_buys_46 : decode cX12_buys 46 = .ok (.iconst 0, 1) := by decide +kernel
theorem dX12_buys_47 : decode cX12_buys 47 = .ok (.ireturn, 1) := by decide +kernel
theorem dX12_fadeOf_0 : decode cX12_fadeOf 0 = .ok (.aload_n 0, 1) := by decide +kernel
theorem dX12_fadeOf_1 : decode cX12_fadeOf 1 = .ok (.getfield 50, 3) := by decide +kernel
theorem dX12_fadeOf_4 : decode cX12_fadeOf 4 = .ok (.iload_n 1, 1) := by decide +kernel
theorem dX12_fadeOf_5 : decode cX12_fadeOf 5 = .ok (.iaload, 1) := by decide +kernel
theorem dX12_fadeOf_6 : decode cX12_fadeOf 6 = .ok (.iconst 2, 1) := by decide +kernel
theorem dX12_fadeOf_7 : decode cX12_fadeOf 7 = .ok (.if_icmp .eq 13, 3) := by decide +kernel
theorem dX12_fadeOf_10 : decode cX12_fadeOf 10 = .ok (.aload_n 0, 1) := by decide +kernel
theorem dX12_fadeOf_11 : decode cX12_fadeOf 11 = .ok (.getfield 50, 3) := by decide +kernel
theorem dX12_fadeOf_14 : decode cX12_fadeOf 14 = .ok (.iload_n 1, 1) := by decide +kernel
theorem dX12_fadeOf_15 : decode cX12_fadeOf 15 = .ok (.iaload, 1) := by decide +kernel
theorem dX12_fadeOf_16 : decode cX12_fadeOf 16 = .ok (.iconst 3, 1) := by decide +kernel
theorem dX12_fadeOf_17 : decode cX12_fadeOf 17 = .ok (.if_icmp .ne 15, 3) := by decide +kernel
theorem dX12_fadeOf_20 : decode cX12_fadeOf 20 = .ok (.aload_n 0, 1) := by decide +kernel
theorem dX12_fadeOf_21 : decode cX12_fadeOf 21 = .ok (.getfield 29, 3) := by decide +kernel
theorem dX12_fadeOf_24 : decode cX12_fadeOf 24 = .ok (.iconst 1, 1) := by decide +kernel
theorem dX12_fadeOf_25 : decode cX12_fadeOf 25 = .ok (.isub, 1) := by decide +kernel
theorem dX12_fadeOf_26 : decode cX12_fadeOf 26 = .ok (.invokestatic 178, 3) := by decide +kernel
theorem dX12_fadeOf_29 : decode cX12_fadeOf 29 = .ok (.goto 27, 3) := by decide +kernel
theorem dX12_fadeOf_32 : decode cX12_fadeOf 32 = .ok (.aload_n 0, 1) := by decide +kernel
theorem dX12_fadeOf_33 : decode cX12_fadeOf 33 = .ok (.getfield 50, 3) := by decide +kernel
theorem dX12_fadeOf_36 : decode cX12_fadeOf 36 = .ok (.iload_n 1, 1) := by decide +kernel
theorem dX12_fadeOf_37 : decode cX12_fadeOf 37 = .ok (.iaload, 1) := by decide +kernel
theorem dX12_fadeOf_38 : decode cX12_fadeOf 38 = .ok (.bipush 7, 2) := by decide +kernel
theorem dX12_fadeOf_40 : decode cX12_fadeOf 40 = .ok (.if_icmp .ne 12, 3) := by decide +kernel
theorem dX12_fadeOf_43 : decode cX12_fadeOf 43 = .ok (.iconst 2, 1) := by decide +kernel
theorem dX12_fadeOf_44 : decode cX12_fadeOf 44 = .ok (.aload_n 0, 1) := by decide +kernel
theorem dX12_fadeOf_45 : decode cX12_fadeOf 45 = .ok (.getfield 29, 3) := by decide +kernel
theorem dX12_fadeOf_48 : decode cX12_fadeOf 48 = .ok (.imul, 1) := by decide +kernel
theorem dX12_fadeOf_49 : decode cX12_fadeOf 49 = .ok (.goto 7, 3) := by decide +kernel
theorem dX12_fadeOf_52 : decode cX12_fadeOf 52 = .ok (.aload_n 0, 1) := by decide +kernel
theorem dX12_fadeOf_53 : decode cX12_fadeOf 53 = .ok (.getfield 29, 3) := by decide +kernel
theorem dX12_fadeOf_56 : decode cX12_fadeOf 56 = .ok (.ireturn, 1) := by decide +kernel
theorem dX12_sideOf_0 : decode cX12_sideOf 0 = .ok (.iload_n 0, 1) := by decide +kernel
theorem dX12_sideOf_1 : decode cX12_sideOf 1 = .ok (.ifCond .le 7, 3) := by decide +kernel
theorem dX12_sideOf_4 : decode cX12_sideOf 4 = .ok (.iconst 1, 1) := by decide +kernel
theorem dX12_sideOf_5 : decode cX12_sideOf 5 = .ok (.goto 12, 3) := by decide +kernel
theorem dX12_sideOf_8 : decode cX12_sideOf 8 = .ok (.iload_n 0, 1) := by decide +kernel
theorem dX12_sideOf_9 : decode cX12_sideOf 9 = .ok (.ifCond .ge 7, 3) := by decide +kernel
theorem dX12_sideOf_12 : decode cX12_sideOf 12 = .ok (.iconst (-1), 1) := by decide +kernel
theorem dX12_sideOf_13 : decode cX12_sideOf 13 = .ok (.goto 4, 3) := by decide +kernel
theorem dX12_sideOf_16 : decode cX12_sideOf 16 = .ok (.iconst 0, 1) := by decide +kernel
theorem dX12_sideOf_17 : decode cX12_sideOf 17 = .ok (.ireturn, 1) := by decide +kernel
theorem dX12_factsBy_0 : decode cX12_factsBy 0 = .ok (.iconst 0, 1) := by decide +kernel
theorem dX12_factsBy_1 : decode cX12_factsBy 1 = .ok (.istore_n 3, 1) := by decide +kernel
theorem dX12_factsBy_2 : decode cX12_factsBy 2 = .ok (.iconst 0, 1) := by decide +kernel
theorem dX12_factsBy_3 : decode cX12_factsBy 3 = .ok (.istore 4, 2) := by decide +kernel
theorem dX12_factsBy_5 : decode cX12_factsBy 5 = .ok (.iload 4, 2) := by decide +kernel
theorem dX12_factsBy_7 : decode cX12_factsBy 7 = .ok (.aload_n 0, 1) := by decide +kernel
theorem dX12_factsBy_8 : decode cX12_factsBy 8 = .ok (.getfield 181, 3) := by decide +kernel
theorem dX12_factsBy_11 : decode cX12_factsBy 11 = .ok (.if_icmp .ge 70, 3) := by decide +kernel
theorem dX12_factsBy_14 : decode cX12_factsBy 14 = .ok (.aload_n 0, 1) := by decide +kernel
theorem dX12_factsBy_15 : decode cX12_factsBy 15 = .ok (.getfield 87, 3) := by decide +kernel
theorem dX12_factsBy_18 : decode cX12_factsBy 18 = .ok (.iload 4, 2) := by decide +kernel
theorem dX12_factsBy_20 : decode cX12_factsBy 20 = .ok (.ishr, 1) := by decide +kernel
theorem dX12_factsBy_21 : decode cX12_factsBy 21 = .ok (.iconst 1, 1) := by decide +kernel
theorem dX12_factsBy_22 : decode cX12_factsBy 22 = .ok (.iand, 1) := by decide +kernel
theorem dX12_factsBy_23 : decode cX12_factsBy 23 = .ok (.iconst 1, 1) := by decide +kernel
theorem dX12_factsBy_24 : decode cX12_factsBy 24 = .ok (.if_icmp .ne 29, 3) := by decide +kernel
theorem dX12_factsBy_27 : decode cX12_factsBy 27 = .ok (.aload_n 0, 1) := by decide +kernel
theorem dX12_factsBy_28 : decode cX12_factsBy 28 = .ok (.getfield 13, 3) := by decide +kernel
theorem dX12_factsBy_31 : decode cX12_factsBy 31 = .ok (.iload 4, 2) := by decide +kernel
theorem dX12_factsBy_33 : decode cX12_factsBy 33 = .ok (.iaload, 1) := by decide +kernel
theorem dX12_factsBy_34 : decode cX12_factsBy 34 = .ok (.iload_n 1, 1) := by decide +kernel
theorem dX12_factsBy_35 : decode cX12_factsBy 35 = .ok (.if_icmp .ne 18, 3) := by decide +kernel
theorem dX12_factsBy_38 : decode cX12_factsBy 38 = .ok (.aload_n 0, 1) := by decide +kernel
theorem dX12_factsBy_39 : decode cX12_factsBy 39 = .ok (.getfield 19, 3) := by decide +kernel
theorem dX12_factsBy_42 : decode cX12_factsBy 42 = .ok (.iload 4, 2) := by decide +kernel
theorem dX12_factsBy_44 : decode cX12_factsBy 44 = .ok (.iaload, 1) := by decide +kernel
theorem dX12_factsBy_45 : decode cX12_factsBy 45 = .ok (.iload_n 2, 1) := by decide +kernel
theorem dX12_factsBy_46 : decode cX12_factsBy 46 = .ok (.if_icmp .gt 7, 3) := by decide +kernel
theorem dX12_factsBy_49 : decode cX12_factsBy 49 = .ok (.iconst 1, 1) := by decide +kernel
theorem dX12_factsBy_50 : decode cX12_factsBy 50 = .ok (.goto 4, 3) := by decide +kernel
theorem dX12_factsBy_53 : decode cX12_factsBy 53 = .ok (.iconst 0, 1) := by decide +kernel
theorem dX12_factsBy_54 : decode cX12_factsBy 54 = .ok (.istore 5, 2) := by decide +kernel
theorem dX12_factsBy_56 : decode cX12_factsBy 56 = .ok (.iload_n 3, 1) := by decide +kernel
theorem dX12_factsBy_57 : decode cX12_factsBy 57 = .ok (.iload 5, 2) := by decide +kernel
theorem dX12_factsBy_59 : decode cX12_factsBy 59 = .ok (.ifCond .eq 13, 3) := by decide +kernel
theorem dX12_factsBy_62 : decode cX12_factsBy 62 = .ok (.aload_n 0, 1) := by decide +kernel
theorem dX12_factsBy_63 : decode cX12_factsBy 63 = .ok (.getfield 16, 3) := by decide +kernel
theorem dX12_factsBy_66 : decode cX12_factsBy 66 = .ok (.iload 4, 2) := by decide +kernel
theorem dX12_factsBy_68 : decode cX12_factsBy 68 = .ok (.iaload, 1) := by decide +kernel
theorem dX12_factsBy_69 : decode cX12_factsBy 69 = .ok (.goto 4, 3) := by decide +kernel
theorem dX12_factsBy_72 : decode cX12_factsBy 72 = .ok (.iconst 0, 1) := by decide +kernel
theorem dX12_factsBy_73 : decode cX12_factsBy 73 = .ok (.iadd, 1) := by decide +kernel
theorem dX12_factsBy_74 : decode cX12_factsBy 74 = .ok (.istore_n 3, 1) := by decide +kernel
theorem dX12_factsBy_75 : decode cX12_factsBy 75 = .ok (.iinc 4 1, 3) := by decide +kernel
theorem dX12_factsBy_78 : decode cX12_factsBy 78 = .ok (.goto (-73), 3) := by decide +kernel
theorem dX12_factsBy_81 : decode cX12_factsBy 81 = .ok (.iload_n 3, 1) := by decide +kernel
theorem dX12_factsBy_82 : decode cX12_factsBy 82 = .ok (.ireturn, 1) := by decide +kernel
theorem dX12_caseOf_0 : decode cX12_caseOf 0 = .ok (.iload_n 1, 1) := by decide +kernel
theorem dX12_caseOf_1 : decode cX12_caseOf 1 = .ok (.bipush 8, 2) := by decide +kernel
theorem dX12_caseOf_3 : decode cX12_caseOf 3 = .ok (.if_icmp .ge 12, 3) := by decide +kernel
theorem dX12_caseOf_6 : decode cX12_caseOf 6 = .ok (.aload_n 0, 1) := by decide +kernel
theorem dX12_caseOf_7 : decode cX12_caseOf 7 = .ok (.getfield 56, 3) := by decide +kernel
theorem dX12_caseOf_10 : decode cX12_caseOf 10 = .ok (.iload_n 1, 1) := by decide +kernel
theorem dX12_caseOf_11 : decode cX12_caseOf 11 = .ok (.iaload, 1) := by decide +kernel
theorem dX12_caseOf_12 : decode cX12_caseOf 12 = .ok (.goto 12, 3) := by decide +kernel
theorem dX12_caseOf_15 : decode cX12_caseOf 15 = .ok (.aload_n 0, 1) := by decide +kernel
theorem dX12_caseOf_16 : decode cX12_caseOf 16 = .ok (.getfield 35, 3) := by decide +kernel
theorem dX12_caseOf_19 : decode cX12_caseOf 19 = .ok (.iload_n 1, 1) := by decide +kernel
theorem dX12_caseOf_20 : decode cX12_caseOf 20 = .ok (.bipush 8, 2) := by decide +kernel
theorem dX12_caseOf_22 : decode cX12_caseOf 22 = .ok (.isub, 1) := by decide +kernel
theorem dX12_caseOf_23 : decode cX12_caseOf 23 = .ok (.iaload, 1) := by decide +kernel
theorem dX12_caseOf_24 : decode cX12_caseOf 24 = .ok (.ireturn, 1) := by decide +kernel
theorem dX12_leftOf_0 : decode cX12_leftOf 0 = .ok (.iload_n 1, 1) := by decide +kernel
theorem dX12_leftOf_1 : decode cX12_leftOf 1 = .ok (.bipush 8, 2) := by decide +kernel
theorem dX12_leftOf_3 : decode cX12_leftOf 3 = .ok (.if_icmp .ge 11, 3) := by decide +kernel
theorem dX12_leftOf_6 : decode cX12_leftOf 6 = .ok (.aload_n 0, 1) := by decide +kernel
theorem dX12_leftOf_7 : decode cX12_leftOf 7 = .ok (.iload_n 1, 1) := by decide +kernel
theorem dX12_leftOf_8 : decode cX12_leftOf 8 = .ok (.invokevirtual 184, 3) := by decide +kernel
theorem dX12_leftOf_11 : decode cX12_leftOf 11 = .ok (.goto 7, 3) := by decide +kernel
theorem dX12_leftOf_14 : decode cX12_leftOf 14 = .ok (.aload_n 0, 1) := by decide +kernel
theorem dX12_leftOf_15 : decode cX12_leftOf 15 = .ok (.getfield 29, 3) := by decide +kernel
theorem dX12_leftOf_18 : decode cX12_leftOf 18 = .ok (.istore_n 3, 1) := by decide +kernel
theorem dX12_leftOf_19 : decode cX12_leftOf 19 = .ok (.aload_n 0, 1) := by decide +kernel
theorem dX12_leftOf_20 : decode cX12_leftOf 20 = .ok (.getfield 115, 3) := by decide +kernel
theorem dX12_leftOf_23 : decode cX12_leftOf 23 = .ok (.iload_n 1, 1) := by decide +kernel
theorem dX12_leftOf_24 : decode cX12_leftOf 24 = .ok (.iaload, 1) := by decide +kernel
theorem dX12_leftOf_25 : decode cX12_leftOf 25 = .ok (.iload_n 3, 1) := by decide +kernel
theorem dX12_leftOf_26 : decode cX12_leftOf 26 = .ok (.iload_n 2, 1) := by decide +kernel
theorem dX12_leftOf_27 : decode cX12_leftOf 27 = .ok (.aload_n 0, 1) := by decide +kernel
theorem dX12_leftOf_28 : decode cX12_leftOf 28 = .ok (.getfield 112, 3) := by decide +kernel
theorem dX12_leftOf_31 : decode cX12_leftOf 31 = .ok (.iload_n 1, 1) := by decide +kernel
theorem dX12_leftOf_32 : decode cX12_leftOf 32 = .ok (.iaload, 1) := by decide +kernel
theorem dX12_leftOf_33 : decode cX12_leftOf 33 = .ok (.isub, 1) := by decide +kernel
theorem dX12_leftOf_34 : decode cX12_leftOf 34 = .ok (.imul, 1) := by decide +kernel
theorem dX12_leftOf_35 : decode cX12_leftOf 35 = .ok (.isub, 1) := by decide +kernel
theorem dX12_leftOf_36 : decode cX12_leftOf 36 = .ok (.invokestatic 178, 3) := by decide +kernel
theorem dX12_leftOf_39 : decode cX12_leftOf 39 = .ok (.ireturn, 1) := by decide +kernel
theorem dX12_isThere_0 : decode cX12_isThere 0 = .ok (.aload_n 0, 1) := by decide +kernel
theorem dX12_isThere_1 : decode cX12_isThere 1 = .ok (.getfield 112, 3) := by decide +kernel
theorem dX12_isThere_4 : decode cX12_isThere 4 = .ok (.iload_n 1, 1) := by decide +kernel
theorem dX12_isThere_5 : decode cX12_isThere 5 = .ok (.iaload, 1) := by decide +kernel
theorem dX12_isThere_6 : decode cX12_isThere 6 = .ok (.ifCond .lt 17, 3) := by decide +kernel
theorem dX12_isThere_9 : decode cX12_isThere 9 = .ok (.aload_n 0, 1) := by decide +kernel
theorem dX12_isThere_10 : decode cX12_isThere 10 = .ok (.getfield 112, 3) := by decide +kernel
theorem dX12_isThere_13 : decode cX12_isThere 13 = .ok (.iload_n 1, 1) := by decide +kernel
theorem dX12_isThere_14 : decode cX12_isThere 14 = .ok (.iaload, 1) := by decide +kernel
theorem dX12_isThere_15 : decode cX12_isThere 15 = .ok (.iload_n 2, 1) := by decide +kernel
theorem dX12_isThere_16 : decode cX12_isThere 16 = .ok (.if_icmp .gt 7, 3) := by decide +kernel
theorem dX12_isThere_19 : decode cX12_isThere 19 = .ok (.iconst 1, 1) := by decide +kernel
theorem dX12_isThere_20 : decode cX12_isThere 20 = .ok (.goto 4, 3) := by decide +kernel
theorem dX12_isThere_23 : decode cX12_isThere 23 = .ok (.iconst 0, 1) := by decide +kernel
theorem dX12_isThere_24 : decode cX12_isThere 24 = .ok (.ireturn, 1) := by decide +kernel
theorem dX12_comeForSale_0 : decode cX12_comeForSale 0 = .ok (.aload_n 0, 1) := by decide +kernel
theorem dX12_comeForSale_1 : decode cX12_comeForSale 1 = .ok (.iload_n 1, 1) := by decide +kernel
theorem dX12_comeForSale_2 : decode cX12_comeForSale 2 = .ok (.invokevirtual 187, 3) := by decide +kernel
theorem dX12_comeForSale_5 : decode cX12_comeForSale 5 = .ok (.iconst 1, 1) := by decide +kernel
theorem dX12_comeForSale_6 : decode cX12_comeForSale 6 = .ok (.iadd, 1) := by decide +kernel
theorem dX12_comeForSale_7 : decode cX12_comeForSale 7 = .ok (.aload_n 0, 1) := by decide +kernel
theorem dX12_comeForSale_8 : decode cX12_comeForSale 8 = .ok (.getfield 25, 3) := by decide +kernel
theorem dX12_comeForSale_11 : decode cX12_comeForSale 11 = .ok (.if_icmp .le 13, 3) := by decide +kernel
theorem dX12_comeForSale_14 : decode cX12_comeForSale 14 = .ok (.aload_n 0, 1) := by decide +kernel
theorem dX12_comeForSale_15 : decode cX12_comeForSale 15 = .ok (.iload_n 1, 1) := by decide +kernel
theorem dX12_comeForSale_16 : decode cX12_comeForSale 16 = .ok (.invokevirtual 187, 3) := by decide +kernel
theorem dX12_comeForSale_19 : decode cX12_comeForSale 19 = .ok (.iconst 1, 1) := by decide +kernel
theorem dX12_comeForSale_20 : decode cX12_comeForSale 20 = .ok (.iadd, 1) := by decide +kernel
theorem dX12_comeForSale_21 : decode cX12_comeForSale 21 = .ok (.goto 7, 3) := by decide +kernel
theorem dX12_comeForSale_24 : decode cX12_comeForSale 24 = .ok (.aload_n 0, 1) := by decide +kernel
theorem dX12_comeForSale_25 : decode cX12_comeForSale 25 = .ok (.getfield 25, 3) := by decide +kernel
theorem dX12_comeForSale_28 : decode cX12_comeForSale 28 = .ok (.istore_n 3, 1) := by decide +kernel
theorem dX12_comeForSale_29 : decode cX12_comeForSale 29 = .ok (.aload_n 0, 1) := by decide +kernel
theorem dX12_comeForSale_30 : decode cX12_comeForSale 30 = .ok (.getfield 90, 3) := by decide +kernel
theorem dX12_comeForSale_33 : decode cX12_comeForSale 33 = .ok (.iload_n 1, 1) := by decide +kernel
theorem dX12_comeForSale_34 : decode cX12_comeForSale 34 = .ok (.baload, 1) := by decide +kernel
theorem dX12_comeForSale_35 : decode cX12_comeForSale 35 = .ok (.ifCond .eq 8, 3) := by decide +kernel
theorem dX12_comeForSale_38 : decode cX12_comeForSale 38 = .ok (.iload_n 3, 1) := by decide +kernel
theorem dX12_comeForSale_39 : decode cX12_comeForSale 39 = .ok (.iload_n 2, 1) := by decide +kernel
theorem dX12_comeForSale_40 : decode cX12_comeForSale 40 = .ok (.if_icmp .eq 4, 3) := by decide +kernel
theorem dX12_comeForSale_43 : decode cX12_comeForSale 43 = .ok (.return_, 1) := by decide +kernel
theorem dX12_comeForSale_44 : decode cX12_comeForSale 44 = .ok (.aload_n 0, 1) := by decide +kernel
theorem dX12_comeForSale_45 : decode cX12_comeForSale 45 = .ok (.iload_n 1, 1) := by decide +kernel
theorem dX12_comeForSale_46 : decode cX12_comeForSale 46 = .ok (.aload_n 0, 1) := by decide +kernel
theorem dX12_comeForSale_47 : decode cX12_comeForSale 47 = .ok (.getfield 62, 3) := by decide +kernel
theorem dX12_comeForSale_50 : decode cX12_comeForSale 50 = .ok (.iload_n 1, 1) := by decide +kernel
theorem dX12_comeForSale_51 : decode cX12_comeForSale 51 = .ok (.iaload, 1) := by decide +kernel
theorem dX12_comeForSale_52 : decode cX12_comeForSale 52 = .ok (.aload_n 0, 1) := by decide +kernel
theorem dX12_comeForSale_53 : decode cX12_comeForSale 53 = .ok (.aload_n 0, 1) := by decide +kernel
theorem dX12_comeForSale_54 : decode cX12_comeForSale 54 = .ok (.getfield 56, 3) := by decide +kernel
theorem dX12_comeForSale_57 : decode cX12_comeForSale 57 = .ok (.iload_n 1, 1) := by decide +kernel
theorem dX12_comeForSale_58 : decode cX12_comeForSale 58 = .ok (.iaload, 1) := by decide +kernel
theorem dX12_comeForSale_59 : decode cX12_comeForSale 59 = .ok (.iload_n 2, 1) := by decide +kernel
theorem dX12_comeForSale_60 : decode cX12_comeForSale 60 = .ok (.invokevirtual 190, 3) := by decide +kernel
theorem dX12_comeForSale_63 : decode cX12_comeForSale 63 = .ok (.invokevirtual 194, 3) := by decide +kernel
theorem dX12_comeForSale_66 : decode cX12_comeForSale 66 = .ok (.istore 4, 2) := by decide +kernel
theorem dX12_comeForSale_68 : decode cX12_comeForSale 68 = .ok (.iload 4, 2) := by decide +kernel
theorem dX12_comeForSale_70 : decode cX12_comeForSale 70 = .ok (.invokestatic 198, 3) := by decide +kernel
theorem dX12_comeForSale_73 : decode cX12_comeForSale 73 = .ok (.istore 5, 2) := by decide +kernel
theorem dX12_comeForSale_75 : decode cX12_comeForSale 75 = .ok (.iload 5, 2) := by decide +kernel
theorem dX12_comeForSale_77 : decode cX12_comeForSale 77 = .ok (.ifCond .eq 49, 3) := by decide +kernel
theorem dX12_comeForSale_80 : decode cX12_comeForSale 80 = .ok (.iload 5, 2) := by decide +kernel
theorem dX12_comeForSale_82 : decode cX12_comeForSale 82 = .ok (.aload_n 0, 1) := by decide +kernel
theorem dX12_comeForSale_83 : decode cX12_comeForSale 83 = .ok (.getfield 94, 3) := by decide +kernel
theorem dX12_comeForSale_86 : decode cX12_comeForSale 86 = .ok (.iload_n 1, 1) := by decide +kernel
theorem dX12_comeForSale_87 : decode cX12_comeForSale 87 = .ok (.iaload, 1) := by decide +kernel
theorem dX12_comeForSale_88 : decode cX12_comeForSale 88 = .ok (.if_icmp .eq 38, 3) := by decide +kernel
theorem dX12_comeForSale_91 : decode cX12_comeForSale 91 = .ok (.aload_n 0, 1) := by decide +kernel
theorem dX12_comeForSale_92 : decode cX12_comeForSale 92 = .ok (.getfield 109, 3) := by decide +kernel
theorem dX12_comeForSale_95 : decode cX12_comeForSale 95 = .ok (.iload_n 1, 1) := by decide +kernel
theorem dX12_comeForSale_96 : decode cX12_comeForSale 96 = .ok (.iconst 1, 1) := by decide +kernel
theorem dX12_comeForSale_97 : decode cX12_comeForSale 97 = .ok (.bastore, 1) := by decide +kernel
theorem dX12_comeForSale_98 : decode cX12_comeForSale 98 = .ok (.aload_n 0, 1) := by decide +kernel
theorem dX12_comeForSale_99 : decode cX12_comeForSale 99 = .ok (.getfield 112, 3) := by decide +kernel
theorem dX12_comeForSale_102 : decode cX12_comeForSale 102 = .ok (.iload_n 1, 1) := by decide +kernel
theorem dX12_comeForSale_103 : decode cX12_comeForSale 103 = .ok (.iload_n 2, 1) := by decide +kernel
theorem dX12_comeForSale_104 : decode cX12_comeForSale 104 = .ok (.iastore, 1) := by decide +kernel
theorem dX12_comeForSale_105 : decode cX12_comeForSale 105 = .ok (.aload_n 0, 1) := by decide +kernel
theorem dX12_comeForSale_106 : decode cX12_comeForSale 106 = .ok (.getfield 115, 3) := by decide +kernel
theorem dX12_comeForSale_109 : decode cX12_comeForSale 109 = .ok (.iload_n 1, 1) := by decide +kernel
theorem dX12_comeForSale_110 : decode cX12_comeForSale 110 = .ok (.aload_n 0, 1) := by decide +kernel
theorem dX12_comeForSale_111 : decode cX12_comeForSale 111 = .ok (.iload_n 1, 1) := by decide +kernel
theorem dX12_comeForSale_112 : decode cX12_comeForSale 112 = .ok (.iload 4, 2) := by decide +kernel
theorem dX12_comeForSale_114 : decode cX12_comeForSale 114 = .ok (.invokevirtual 201, 3) := by decide +kernel
theorem dX12_comeForSale_117 : decode cX12_comeForSale 117 = .ok (.iastore, 1) := by decide +kernel
theorem dX12_comeForSale_118 : decode cX12_comeForSale 118 = .ok (.aload_n 0, 1) := by decide +kernel
theorem dX12_comeForSale_119 : decode cX12_comeForSale 119 = .ok (.getfield 118, 3) := by decide +kernel
theorem dX12_comeForSale_122 : decode cX12_comeForSale 122 = .ok (.iload_n 1, 1) := by decide +kernel
theorem dX12_comeForSale_123 : decode cX12_comeForSale 123 = .ok (.iload 5, 2) := by decide +kernel
theorem dX12_comeForSale_125 : decode cX12_comeForSale 125 = .ok (.iastore, 1) := by decide +kernel
theorem dX12_comeForSale_126 : decode cX12_comeForSale 126 = .ok (.return_, 1) := by decide +kernel
theorem dX12_askedFor_0 : decode cX12_askedFor 0 = .ok (.iload_n 1, 1) := by decide +kernel
theorem dX12_askedFor_1 : decode cX12_askedFor 1 = .ok (.bipush 8, 2) := by decide +kernel
theorem dX12_askedFor_3 : decode cX12_askedFor 3 = .ok (.if_icmp .ge 17, 3) := by decide +kernel
theorem dX12_askedFor_6 : decode cX12_askedFor 6 = .ok (.aload_n 0, 1) := by decide +kernel
theorem dX12_askedFor_7 : decode cX12_askedFor 7 = .ok (.iload_n 1, 1) := by decide +kernel
theorem dX12_askedFor_8 : decode cX12_askedFor 8 = .ok (.aload_n 0, 1) := by decide +kernel
theorem dX12_askedFor_9 : decode cX12_askedFor 9 = .ok (.iload_n 1, 1) := by decide +kernel
theorem dX12_askedFor_10 : decode cX12_askedFor 10 = .ok (.iload_n 2, 1) := by decide +kernel
theorem dX12_askedFor_11 : decode cX12_askedFor 11 = .ok (.invokevirtual 204, 3) := by decide +kernel
theorem dX12_askedFor_14 : decode cX12_askedFor 14 = .ok (.invokevirtual 207, 3) := by decide +kernel
theorem dX12_askedFor_17 : decode cX12_askedFor 17 = .ok (.goto 12, 3) := by decide +kernel
theorem dX12_askedFor_20 : decode cX12_askedFor 20 = .ok (.aload_n 0, 1) := by decide +kernel
theorem dX12_askedFor_21 : decode cX12_askedFor 21 = .ok (.getfield 44, 3) := by decide +kernel
theorem dX12_askedFor_24 : decode cX12_askedFor 24 = .ok (.iload_n 1, 1) := by decide +kernel
theorem dX12_askedFor_25 : decode cX12_askedFor 25 = .ok (.bipush 8, 2) := by decide +kernel
theorem dX12_askedFor_27 : decode cX12_askedFor 27 = .ok (.isub, 1) := by decide +kernel
theorem dX12_askedFor_28 : decode cX12_askedFor 28 = .ok (.iaload, 1) := by decide +kernel
theorem dX12_askedFor_29 : decode cX12_askedFor 29 = .ok (.ireturn, 1) := by decide +kernel
def b_X12_thrown_0 (S : St) : Option Int32 := some (gi S 136 28)
def L_X12_thrown (S : St) : Option Int32 := b_X12_thrown_0 S
def b_X12_in_17 (S : St) : Option Int32 := some 0
def b_X12_in_0 (v0 : Int64) (v2 : Int64) (v4 : Int64) (S : St) : Option Int32 := (if (lg_cmp v0 v2 : Int32) < 0 then (b_X12_in_17 S) else (if (0 : Int32) < (lg_cmp v0 v4) then (b_X12_in_17 S) else some 1))
def L_X12_in (a0 : Int64) (a2 : Int64) (a4 : Int64) (S : St) : Option Int32 := b_X12_in_0 a0 a2 a4 S
def b_X12_isCase_0 (v0 : Int32) (S : St) : Option Int32 := (L_X12_in v0.toInt64 0 3 S).bind fun r1 => gd ((r1 : Int32) == 0 || (r1 : Int32) == 1) (some r1)
def L_X12_isCase (a0 : Int32) (S : St) : Option Int32 := b_X12_isCase_0 a0 S
def b_X12_isHour_0 (v0 : Int32) (S : St) : Option Int32 := (L_X12_in v0.toInt64 0 23 S).bind fun r1 => gd ((r1 : Int32) == 0 || (r1 : Int32) == 1) (some r1)
def L_X12_isHour (a0 : Int32) (S : St) : Option Int32 := b_X12_isHour_0 a0 S
def b_X12_isOne_0 (v1 : Int32) (S : St) : Option Int32 := (L_X12_in v1.toInt64 0 (((gi S 136 15) - 1).toInt64) S).bind fun r1 => gd ((r1 : Int32) == 0 || (r1 : Int32) == 1) (some r1)
def L_X12_isOne (a1 : Int32) (S : St) : Option Int32 := b_X12_isOne_0 a1 S
def b_X12_plainly_0 (v0 : Int32) (S : St) : Option Int32 := (if (0 : Int32) ≤ v0 then some v0 else some (-v0))
def L_X12_plainly (a0 : Int32) (S : St) : Option Int32 := b_X12_plainly_0 a0 S
def b_X12_atLeast_0 (v0 : Int32) (S : St) : Option Int32 := (if (0 : Int32) ≤ v0 then some v0 else some 0)
def L_X12_atLeast (a0 : Int32) (S : St) : Option Int32 := b_X12_atLeast_0 a0 S
def b_X12_dueOf_26 (v1 : Int32) (S : St) : Option Int32 := gd (inb v1 8) (some (gi S 150 v1.toNatClampNeg))
def b_X12_dueOf_0 (v1 : Int32) (S : St) : Option Int32 := gd (inb v1 8) ((if (gi S 147 v1.toNatClampNeg : Int32) = 1 then gd (inb v1 8) ((if (gi S 150 v1.toNatClampNeg : Int32) ≤ 12 then (b_X12_dueOf_26 v1 S) else some 12)) else (b_X12_dueOf_26 v1 S)))
def L_X12_dueOf (a1 : Int32) (S : St) : Option Int32 := b_X12_dueOf_0 a1 S
def b_X12_sumOf_52 (v2 : Int32) (v3 : Int32) (S : St) : Option Int32 := some (v2 + v3)
def b_X12_sumOf_0 (v1 : Int32) (v2 : Int32) (v3 : Int32) (S : St) : Option Int32 := gd (inb v1 8) ((if (gi S 147 v1.toNatClampNeg : Int32) = 4 then some (v2 + (2 * v3)) else if (gi S 147 v1.toNatClampNeg : Int32) = 5 then some (2 * v3) else if (gi S 147 v1.toNatClampNeg : Int32) = 6 then (b_X12_sumOf_52 v2 v3 S) else if (gi S 147 v1.toNatClampNeg : Int32) = 7 then some ((2 * v2) + v3) else (b_X12_sumOf_52 v2 v3 S)))
def L_X12_sumOf (a1 : Int32) (a2 : Int32) (a3 : Int32) (S : St) : Option Int32 := b_X12_sumOf_0 a1 a2 a3 S
def b_X12_strengthOf_0 (v1 : Int32) (v2 : Int32) (S : St) : Option Int32 := (L_X12_plainly v2 S).bind fun r1 => gd (inb v1 8) ((if (gi S 147 v1.toNatClampNeg : Int32) = 2 then gd (inb v1 8) (some (r1 + (gi S 148 v1.toNatClampNeg))) else gd (inb v1 8) ((if (gi S 147 v1.toNatClampNeg : Int32) = 3 then gd (inb v1 8) (some (2 * (r1 + (gi S 148 v1.toNatClampNeg)))) else some r1))))
def L_X12_strengthOf (a1 : Int32) (a2 : Int32) (S : St) : Option Int32 := b_X12_strengthOf_0 a1 a2 S
def b_X12_priceOf_0 (v1 : Int32) (v2 : Int32) (S : St) : Option Int32 := gd (inb v1 8) ((if (gi S 147 v1.toNatClampNeg : Int32) = 6 then some ((((v2 * (gi S 136 8)) + 3) / 4) / 2) else gd (inb v1 8) ((if (gi S 147 v1.toNatClampNeg : Int32) = 7 then (L_X12_atLeast (((((v2 * (gi S 136 8)) + 3) / 4) / 2) - 1) S).bind fun r7 => some r7 else some (((v2 * (gi S 136 8)) + 3) / 4)))))
def L_X12_priceOf (a1 : Int32) (a2 : Int32) (S : St) : Option Int32 := b_X12_priceOf_0 a1 a2 S
def b_X12_buys_0 (v1 : Int32) (v2 : Int32) (v3 : Int32) (S : St) : Option Int32 := gd (inb v1 8) ((if (gi S 147 v1.toNatClampNeg : Int32) = 3 then some 0 else gd (inb v1 8) ((if (gi S 147 v1.toNatClampNeg : Int32) ≤ 5 then (if (v2 : Int32) ≤ v3 then some 0 else some 1) else (if (v2 : Int32) < v3 then some 0 else some 1)))))
def L_X12_buys (a1 : Int32) (a2 : Int32) (a3 : Int32) (S : St) : Option Int32 := b_X12_buys_0 a1 a2 a3 S
def b_X12_fadeOf_20 (S : St) : Option Int32 := (L_X12_atLeast ((gi S 136 7) - 1) S).bind fun r1 => some r1
def b_X12_fadeOf_0 (v1 : Int32) (S : St) : Option Int32 := gd (inb v1 8) ((if (gi S 147 v1.toNatClampNeg : Int32) = 2 then (b_X12_fadeOf_20 S) else gd (inb v1 8) ((if (gi S 147 v1.toNatClampNeg : Int32) = 3 then (b_X12_fadeOf_20 S) else gd (inb v1 8) ((if (gi S 147 v1.toNatClampNeg : Int32) = 7 then some (2 * (gi S 136 7)) else some (gi S 136 7)))))))
def L_X12_fadeOf (a1 : Int32) (S : St) : Option Int32 := b_X12_fadeOf_0 a1 S
def b_X12_sideOf_0 (v0 : Int32) (S : St) : Option Int32 := (if (v0 : Int32) ≤ 0 then (if (0 : Int32) ≤ v0 then some 0 else some ((-1))) else some 1)
def L_X12_sideOf (a0 : Int32) (S : St) : Option Int32 := b_X12_sideOf_0 a0 S
def b_X12_factsBy_73 (v1 : Int32) (v2 : Int32) (v4 : Int32) (s0 : Int32) (s1 : Int32) (S : St) : Option ((Int32 × Int32 × Int32 × Int32) ⊕ Int32) := some (.inl (v1, v2, (s1 + s0), (v4 + 1)))
def b_X12_factsBy_54 (v1 : Int32) (v2 : Int32) (v3 : Int32) (v4 : Int32) (s0 : Int32) (S : St) : Option ((Int32 × Int32 × Int32 × Int32) ⊕ Int32) := (if (s0 : Int32) = 0 then (b_X12_factsBy_73 v1 v2 v4 0 v3 S) else gd (inb v4 6) ((b_X12_factsBy_73 v1 v2 v4 (gi S 139 v4.toNatClampNeg) v3 S)))
def b_X12_factsBy_53 (v1 : Int32) (v2 : Int32) (v3 : Int32) (v4 : Int32) (S : St) : Option ((Int32 × Int32 × Int32 × Int32) ⊕ Int32) := (b_X12_factsBy_54 v1 v2 v3 v4 0 S)
def b_X12_factsBy_5 (v1 : Int32) (v2 : Int32) (v3 : Int32) (v4 : Int32) (S : St) : Option ((Int32 × Int32 × Int32 × Int32) ⊕ Int32) := (if (gi S 136 1 : Int32) ≤ v4 then some (.inr v3) else (if (((gi S 136 29) >>> (v4 &&& 31)) &&& 1 : Int32) = 1 then gd (inb v4 6) ((if (gi S 138 v4.toNatClampNeg : Int32) = v1 then gd (inb v4 6) ((if (v2 : Int32) < (gi S 140 v4.toNatClampNeg) then (b_X12_factsBy_53 v1 v2 v3 v4 S) else (b_X12_factsBy_54 v1 v2 v3 v4 1 S))) else (b_X12_factsBy_53 v1 v2 v3 v4 S))) else (b_X12_factsBy_53 v1 v2 v3 v4 S)))
def l_X12_factsBy_5 (S : St) (x : (Int32 × Int32 × Int32 × Int32)) : Option ((Int32 × Int32 × Int32 × Int32) ⊕ Int32) := b_X12_factsBy_5 x.1 x.2.1 x.2.2.1 x.2.2.2 S
def b_X12_factsBy_0 (v1 : Int32) (v2 : Int32) (S : St) : Option Int32 := (lp 1000 (l_X12_factsBy_5 S) (v1, v2, 0, 0))
def L_X12_factsBy (a1 : Int32) (a2 : Int32) (S : St) : Option Int32 := b_X12_factsBy_0 a1 a2 S
def b_X12_caseOf_0 (v1 : Int32) (S : St) : Option Int32 := (if (8 : Int32) ≤ v1 then gd (inb (v1 - 8) 4) (some (gi S 142 (v1 - 8).toNatClampNeg)) else gd (inb v1 8) (some (gi S 149 v1.toNatClampNeg)))
def L_X12_caseOf (a1 : Int32) (S : St) : Option Int32 := b_X12_caseOf_0 a1 S
def b_X12_leftOf_18 (v1 : Int32) (v2 : Int32) (s0 : Int32) (S : St) : Option Int32 := gd (inb v1 11) (gd (inb v1 11) ((L_X12_atLeast ((gi S 167 v1.toNatClampNeg) - (s0 * (v2 - (gi S 166 v1.toNatClampNeg)))) S).bind fun r3 => some r3))
def b_X12_leftOf_0 (v1 : Int32) (v2 : Int32) (S : St) : Option Int32 := (if (8 : Int32) ≤ v1 then (b_X12_leftOf_18 v1 v2 (gi S 136 7) S) else (L_X12_fadeOf v1 S).bind fun r2 => (b_X12_leftOf_18 v1 v2 r2 S))
def L_X12_leftOf (a1 : Int32) (a2 : Int32) (S : St) : Option Int32 := b_X12_leftOf_0 a1 a2 S
def b_X12_isThere_23 (S : St) : Option Int32 := some 0
def b_X12_isThere_0 (v1 : Int32) (v2 : Int32) (S : St) : Option Int32 := gd (inb v1 11) ((if (gi S 166 v1.toNatClampNeg : Int32) < 0 then (b_X12_isThere_23 S) else gd (inb v1 11) ((if (v2 : Int32) < (gi S 166 v1.toNatClampNeg) then (b_X12_isThere_23 S) else some 1))))
def L_X12_isThere (a1 : Int32) (a2 : Int32) (S : St) : Option Int32 := b_X12_isThere_0 a1 a2 S
def b_X12_comeForSale_28 (v1 : Int32) (v2 : Int32) (s0 : Int32) (S : St) : Option St := gd (inb v1 8) ((if (gi S 159 v1.toNatClampNeg : Int32) = 0 then some S else (if (s0 : Int32) = v2 then gd (inb v1 8) (gd (inb v1 8) ((L_X12_factsBy (gi S 149 v1.toNatClampNeg) v2 S).bind fun r6 => (L_X12_sumOf v1 (gi S 151 v1.toNatClampNeg) r6 S).bind fun r7 => (L_X12_sideOf r7 S).bind fun r8 => (if (r8 : Int32) = 0 then some S else gd (inb v1 8) ((if (r8 : Int32) = (gi S 160 v1.toNatClampNeg) then some S else gd (inb v1 8) (nm (si S 165 v1.toNatClampNeg 1) fun S13 => gd (inb v1 11) (nm (si S13 166 v1.toNatClampNeg v2) fun S15 => (L_X12_strengthOf v1 r7 S15).bind fun r16 => gd (inb v1 11) (nm (si S15 167 v1.toNatClampNeg r16) fun S18 => gd (inb v1 11) (nm (si S18 168 v1.toNatClampNeg r8) fun S20 => some S20))))))))) else some S)))
def b_X12_comeForSale_0 (v1 : Int32) (v2 : Int32) (S : St) : Option St := (L_X12_dueOf v1 S).bind fun r1 => (if (r1 + 1 : Int32) ≤ (gi S 136 6) then (b_X12_comeForSale_28 v1 v2 (gi S 136 6) S) else (L_X12_dueOf v1 S).bind fun r3 => (b_X12_comeForSale_28 v1 v2 (r3 + 1) S))
def L_X12_comeForSale (a1 : Int32) (a2 : Int32) (S : St) : Option St := b_X12_comeForSale_0 a1 a2 S
def b_X12_askedFor_0 (v1 : Int32) (v2 : Int32) (S : St) : Option Int32 := (if (8 : Int32) ≤ v1 then gd (inb (v1 - 8) 4) (some (gi S 145 (v1 - 8).toNatClampNeg)) else (L_X12_leftOf v1 v2 S).bind fun r3 => (L_X12_priceOf v1 r3 S).bind fun r4 => some r4)
def L_X12_askedFor (a1 : Int32) (a2 : Int32) (S : St) : Option Int32 := b_X12_askedFor_0 a1 a2 S
section WALKS
variable {p : Program} {e : Env} {s : State} {m : MethodId} {args : Array Value} {below : List Frame} {meth : Method} {c : Code} {D : va_G} {ct : Nat → ClassId} {B : Nat} {Hb : Heap}
set_option maxRecDepth 100000 in
set_option maxHeartbeats 4000000 in
theorem w_X12_thrown_0 (l : Launch) {V : Int32} (C0 : XC D ct p s m args meth c cX12_thrown 1 (some .int) RX12) (S : St) {H : Heap} {locs : List Loc} {ls : Array Slot} (h : (b_X12_thrown_0 S).bind some = some V) (hP : MP D ct B Hb S H) (hS : va_S (AB B) s.heap H locs) (hl : lv_has ls 1 [(0, .ref (B + 136))]) : W p l e { frames := 0, cells := 0, slots := 0, locals := 0 } s m args below meth c H locs 0 0 (MQ below (qI D ct B Hb S V) args s 0 0 (AB B)) (F0 m 0 ls []) := by
  obtain ⟨hx, hb, hr, hml, hown, hts, hK, hlocks, hN⟩ := id C0
  unfold b_X12_thrown_0 at h
  refine lv_aload_n hx hb dX12_thrown_0 rfl (lv_at hl 0 rfl) ?_
  refine x_get C0 hP (lay_X12 B ct S) rfl inG12 28 (by decide) wd_1169 (fun _ h => h) rfl dX12_thrown_1 ?_
  exact r_I C0 hP hS h dX12_thrown_4
set_option maxRecDepth 100000 in
set_option maxHeartbeats 4000000 in
theorem c_X12_thrown (l : Launch) {D : va_G} {ct : Nat → ClassId} {B : Nat} {Hb : Heap} {S : St} {V : Int32} (h : L_X12_thrown S = some V) : Met l yX12_thrown (Cond.code yX12_thrown cX12_thrown 1 (some .int) :: tG) { frames := 0, cells := 0, slots := 0, locals := 0 } (va_Pc [.ref (B + 136)] (MPK D ct B Hb S)) (qI D ct B Hb S V) 0 0 (AB B) := by
  refine mk_met (by decide +kernel) (Nat.le_of_ble_eq_true rfl) (fun p e s m args below meth c ls C0 hP hl _ => ?_)
  have h := ob_of h
  exact w_X12_thrown_0 l C0 S h hP va_S.rf (lv_sub hl [0] rfl)
set_option maxRecDepth 100000 in
set_option maxHeartbeats 4000000 in
theorem w_X12_in_17 (l : Launch) {V : Int32} (C0 : XC D ct p s m args meth c cX12_in 6 (some .boolean) RX12) (S : St) {H : Heap} {locs : List Loc} {ls : Array Slot} (h : (b_X12_in_17 S).bind some = some V) (hP : MP D ct B Hb S H) (hS : va_S (AB B) s.heap H locs) (hl : lv_has ls 6 []) : W p l e { frames := 0, cells := 0, slots := 0, locals := 0 } s m args below meth c H locs 0 0 (MQ below (qI D ct B Hb S V) args s 0 0 (AB B)) (F0 m 17 ls []) := by
  obtain ⟨hx, hb, hr, hml, hown, hts, hK, hlocks, hN⟩ := id C0
  unfold b_X12_in_17 at h
  refine lv_iconst (v := 0) hx hb dX12_in_17 (by decide) ?_
  exact r_Z C0 hP hS bool_0 h dX12_in_18
set_option maxRecDepth 100000 in
set_option maxHeartbeats 4000000 in
theorem w_X12_in_0 (l : Launch) {V : Int32} (C0 : XC D ct p s m args meth c cX12_in 6 (some .boolean) RX12) (v0 : Int64) (v2 : Int64) (v4 : Int64) (S : St) {H : Heap} {locs : List Loc} {ls : Array Slot} (h : (b_X12_in_0 v0 v2 v4 S).bind some = some V) (hP : MP D ct B Hb S H) (hS : va_S (AB B) s.heap H locs) (hl : lv_has ls 6 [(0, .long v0), (2, .long v2), (4, .long v4)]) : W p l e { frames := 0, cells := 0, slots := 0, locals := 0 } s m args below meth c H locs 0 0 (MQ below (qI D ct B Hb S V) args s 0 0 (AB B)) (F0 m 0 ls []) := by
  obtain ⟨hx, hb, hr, hml, hown, hts, hK, hlocks, hN⟩ := id C0
  unfold b_X12_in_0 at h
  refine lv_lload_n hx hb dX12_in_0 rfl (lv_at hl 0 rfl) ?_
  refine lv_lload_n hx hb dX12_in_1 rfl (lv_at hl 1 rfl) ?_
  refine W.lcmp hx hb dX12_in_2 ?_
  refine lv_if_lt (tgt := 17) hx hb dX12_in_3 (by decide) (fun z1 => ?_) (fun z1 => ?_)
  · have h := ob_t h z1
    exact w_X12_in_17 l C0 S h hP hS (lv_sub hl [] rfl)
  · have h := ob_f h z1
    refine lv_lload_n hx hb dX12_in_6 rfl (lv_at hl 0 rfl) ?_
    refine lv_lload hx hb dX12_in_7 (lv_at hl 2 rfl) ?_
    refine W.lcmp hx hb dX12_in_9 ?_
    refine lv_if_gt (tgt := 17) hx hb dX12_in_10 (by decide) (fun z2 => ?_) (fun z2 => ?_)
    · have h := ob_t h z2
      exact w_X12_in_17 l C0 S h hP hS (lv_sub hl [] rfl)
    · have h := ob_f h z2
      refine lv_iconst (v := 1) hx hb dX12_in_13 (by decide) ?_
      refine lv_goto (tgt := 18) hx hb dX12_in_14 (by decide) ?_
      exact r_Z C0 hP hS bool_1 h dX12_in_18
set_option maxRecDepth 100000 in
set_option maxHeartbeats 4000000 in
theorem c_X12_in (l : Launch) (a0 : Int64) (a2 : Int64) (a4 : Int64) {D : va_G} {ct : Nat → ClassId} {B : Nat} {Hb : Heap} {S : St} {V : Int32} (h : L_X12_in a0 a2 a4 S = some V) : Met l yX12_in (Cond.code yX12_in cX12_in 6 (some .boolean) :: tG) { frames := 0, cells := 0, slots := 0, locals := 0 } (va_Pc [.long a0, .long a2, .long a4] (MPK D ct B Hb S)) (qI D ct B Hb S V) 0 0 (AB B) := by
  refine mk_met (by decide +kernel) (Nat.le_of_ble_eq_true rfl) (fun p e s m args below meth c ls C0 hP hl _ => ?_)
  have h := ob_of h
  exact w_X12_in_0 l C0 a0 a2 a4 S h hP va_S.rf (lv_sub hl [0, 1, 2] rfl)
set_option maxRecDepth 100000 in
set_option maxHeartbeats 4000000 in
theorem w_X12_isCase_0 (l : Launch) {V : Int32} (C0 : XC D ct p s m args meth c cX12_isCase 1 (some .boolean) RX12) (v0 : Int32) (S : St) {H : Heap} {locs : List Loc} {ls : Array Slot} (h : (b_X12_isCase_0 v0 S).bind some = some V) (hP : MP D ct B Hb S H) (hS : va_S (AB B) s.heap H locs) (hl : lv_has ls 1 [(0, .int v0)]) : W p l e { frames := 1, cells := 0, slots := 0, locals := 25 } s m args below meth c H locs 0 0 (MQ below (qI D ct B Hb S V) args s 0 0 (AB B)) (F0 m 0 ls []) := by
  obtain ⟨hx, hb, hr, hml, hown, hts, hK, hlocks, hN⟩ := id C0
  unfold b_X12_isCase_0 at h
  refine lv_iload_n hx hb dX12_isCase_0 rfl (lv_at hl 0 rfl) ?_
  refine lv_i2l hx hb dX12_isCase_1 rfl ?_
  refine lv_lconst (v := 0) hx hb dX12_isCase_2 (by decide) ?_
  refine lv_ldc2 (v := 3) hx hb hown (hts _ wd_1411) dX12_isCase_3 ?_
  obtain ⟨r1, hr1, h⟩ := ob_bd h
  refine n_I (kS (As := [.long v0.toInt64, .long 0, .long 3]) C0 (c_X12_in l v0.toInt64 0 3 hr1) ⟨wd_1370, wd_1368, wd_1369, wd_6⟩ kd_X12_in ⟨Nat.le_of_ble_eq_true rfl, Nat.le_of_ble_eq_true rfl⟩ hP rfl hl.1 rfl (Nat.le_of_ble_eq_true rfl) dX12_isCase_6 ⟨Nat.le_of_ble_eq_true rfl, Nat.le_of_ble_eq_true rfl⟩) hS (fun H locs hP hS => ?_)
  obtain ⟨g2, h⟩ := ob_gd h
  exact r_Z C0 hP hS (bool_n g2) h dX12_isCase_9
set_option maxRecDepth 100000 in
set_option maxHeartbeats 4000000 in
theorem c_X12_isCase (l : Launch) (a0 : Int32) {D : va_G} {ct : Nat → ClassId} {B : Nat} {Hb : Heap} {S : St} {V : Int32} (h : L_X12_isCase a0 S = some V) : Met l yX12_isCase (Cond.code yX12_isCase cX12_isCase 1 (some .boolean) :: tG) { frames := 1, cells := 0, slots := 0, locals := 25 } (va_Pc [.int a0] (MPK D ct B Hb S)) (qI D ct B Hb S V) 0 0 (AB B) := by
  refine mk_met (by decide +kernel) (Nat.le_of_ble_eq_true rfl) (fun p e s m args below meth c ls C0 hP hl _ => ?_)
  have h := ob_of h
  exact w_X12_isCase_0 l C0 a0 S h hP va_S.rf (lv_sub hl [0] rfl)
set_option maxRecDepth 100000 in
set_option maxHeartbeats 4000000 in
theorem w_X12_isHour_0 (l : Launch) {V : Int32} (C0 : XC D ct p s m args meth c cX12_isHour 1 (some .boolean) RX12) (v0 : Int32) (S : St) {H : Heap} {locs : List Loc} {ls : Array Slot} (h : (b_X12_isHour_0 v0 S).bind some = some V) (hP : MP D ct B Hb S H) (hS : va_S (AB B) s.heap H locs) (hl : lv_has ls 1 [(0, .int v0)]) : W p l e { frames := 1, cells := 0, slots := 0, locals := 25 } s m args below meth c H locs 0 0 (MQ below (qI D ct B Hb S V) args s 0 0 (AB B)) (F0 m 0 ls []) := by
  obtain ⟨hx, hb, hr, hml, hown, hts, hK, hlocks, hN⟩ := id C0
  unfold b_X12_isHour_0 at h
  refine lv_iload_n hx hb dX12_isHour_0 rfl (lv_at hl 0 rfl) ?_
  refine lv_i2l hx hb dX12_isHour_1 rfl ?_
  refine lv_lconst (v := 0) hx hb dX12_isHour_2 (by decide) ?_
  refine lv_ldc2 (v := 23) hx hb hown (hts _ wd_1415) dX12_isHour_3 ?_
  obtain ⟨r1, hr1, h⟩ := ob_bd h
  refine n_I (kS (As := [.long v0.toInt64, .long 0, .long 23]) C0 (c_X12_in l v0.toInt64 0 23 hr1) ⟨wd_1370, wd_1368, wd_1369, wd_6⟩ kd_X12_in ⟨Nat.le_of_ble_eq_true rfl, Nat.le_of_ble_eq_true rfl⟩ hP rfl hl.1 rfl (Nat.le_of_ble_eq_true rfl) dX12_isHour_6 ⟨Nat.le_of_ble_eq_true rfl, Nat.le_of_ble_eq_true rfl⟩) hS (fun H locs hP hS => ?_)
  obtain ⟨g2, h⟩ := ob_gd h
  exact r_Z C0 hP hS (bool_n g2) h dX12_isHour_9
set_option maxRecDepth 100000 in
set_option maxHeartbeats 4000000 in
theorem c_X12_isHour (l : Launch) (a0 : Int32) {D : va_G} {ct : Nat → ClassId} {B : Nat} {Hb : Heap} {S : St} {V : Int32} (h : L_X12_isHour a0 S = some V) : Met l yX12_isHour (Cond.code yX12_isHour cX12_isHour 1 (some .boolean) :: tG) { frames := 1, cells := 0, slots := 0, locals := 25 } (va_Pc [.int a0] (MPK D ct B Hb S)) (qI D ct B Hb S V) 0 0 (AB B) := by
  refine mk_met (by decide +kernel) (Nat.le_of_ble_eq_true rfl) (fun p e s m args below meth c ls C0 hP hl _ => ?_)
  have h := ob_of h
  exact w_X12_isHour_0 l C0 a0 S h hP va_S.rf (lv_sub hl [0] rfl)
set_option maxRecDepth 100000 in
set_option maxHeartbeats 4000000 in
theorem w_X12_isOne_0 (l : Launch) {V : Int32} (C0 : XC D ct p s m args meth c cX12_isOne 2 (some .boolean) RX12) (v1 : Int32) (S : St) {H : Heap} {locs : List Loc} {ls : Array Slot} (h : (b_X12_isOne_0 v1 S).bind some = some V) (hP : MP D ct B Hb S H) (hS : va_S (AB B) s.heap H locs) (hl : lv_has ls 2 [(0, .ref (B + 136)), (1, .int v1)]) : W p l e { frames := 1, cells := 0, slots := 0, locals := 25 } s m args below meth c H locs 0 0 (MQ below (qI D ct B Hb S V) args s 0 0 (AB B)) (F0 m 0 ls []) := by
  obtain ⟨hx, hb, hr, hml, hown, hts, hK, hlocks, hN⟩ := id C0
  unfold b_X12_isOne_0 at h
  refine lv_iload_n hx hb dX12_isOne_0 rfl (lv_at hl 1 rfl) ?_
  refine lv_i2l hx hb dX12_isOne_1 rfl ?_
  refine lv_lconst (v := 0) hx hb dX12_isOne_2 (by decide) ?_
  refine lv_aload_n hx hb dX12_isOne_3 rfl (lv_at hl 0 rfl) ?_
  refine x_get C0 hP (lay_X12 B ct S) rfl inG12 15 (by decide) wd_1156 (fun _ h => h) rfl dX12_isOne_4 ?_
  refine lv_iconst (v := 1) hx hb dX12_isOne_7 (by decide) ?_
  refine lv_isub hx hb dX12_isOne_8 ?_
  refine lv_i2l hx hb dX12_isOne_9 rfl ?_
  obtain ⟨r1, hr1, h⟩ := ob_bd h
  refine n_I (kS (As := [.long v1.toInt64, .long 0, .long (((gi S 136 15) - 1).toInt64)]) C0 (c_X12_in l v1.toInt64 0 (((gi S 136 15) - 1).toInt64) hr1) ⟨wd_1370, wd_1368, wd_1369, wd_6⟩ kd_X12_in ⟨Nat.le_of_ble_eq_true rfl, Nat.le_of_ble_eq_true rfl⟩ hP rfl hl.1 rfl (Nat.le_of_ble_eq_true rfl) dX12_isOne_10 ⟨Nat.le_of_ble_eq_true rfl, Nat.le_of_ble_eq_true rfl⟩) hS (fun H locs hP hS => ?_)
  obtain ⟨g2, h⟩ := ob_gd h
  exact r_Z C0 hP hS (bool_n g2) h dX12_isOne_13
set_option maxRecDepth 100000 in
set_option maxHeartbeats 4000000 in
theorem c_X12_isOne (l : Launch) (a1 : Int32) {D : va_G} {ct : Nat → ClassId} {B : Nat} {Hb : Heap} {S : St} {V : Int32} (h : L_X12_isOne a1 S = some V) : Met l yX12_isOne (Cond.code yX12_isOne cX12_isOne 2 (some .boolean) :: tG) { frames := 1, cells := 0, slots := 0, locals := 25 } (va_Pc [.ref (B + 136), .int a1] (MPK D ct B Hb S)) (qI D ct B Hb S V) 0 0 (AB B) := by
  refine mk_met (by decide +kernel) (Nat.le_of_ble_eq_true rfl) (fun p e s m args below meth c ls C0 hP hl _ => ?_)
  have h := ob_of h
  exact w_X12_isOne_0 l C0 a1 S h hP va_S.rf (lv_sub hl [0, 1] rfl)
set_option maxRecDepth 100000 in
set_option maxHeartbeats 4000000 in
theorem w_X12_plainly_0 (l : Launch) {V : Int32} (C0 : XC D ct p s m args meth c cX12_plainly 1 (some .int) RX12) (v0 : Int32) (S : St) {H : Heap} {locs : List Loc} {ls : Array Slot} (h : (b_X12_plainly_0 v0 S).bind some = some V) (hP : MP D ct B Hb S H) (hS : va_S (AB B) s.heap H locs) (hl : lv_has ls 1 [(0, .int v0)]) : W p l e { frames := 0, cells := 0, slots := 0, locals := 0 } s m args below meth c H locs 0 0 (MQ below (qI D ct B Hb S V) args s 0 0 (AB B)) (F0 m 0 ls []) := by
  obtain ⟨hx, hb, hr, hml, hown, hts, hK, hlocks, hN⟩ := id C0
  unfold b_X12_plainly_0 at h
  refine lv_iload_n hx hb dX12_plainly_0 rfl (lv_at hl 0 rfl) ?_
  refine lv_if_ge (tgt := 9) hx hb dX12_plainly_1 (by decide) (fun z1 => ?_) (fun z1 => ?_)
  · have h := ob_t h z1
    refine lv_iload_n hx hb dX12_plainly_9 rfl (lv_at hl 0 rfl) ?_
    exact r_I C0 hP hS h dX12_plainly_10
  · have h := ob_f h z1
    refine lv_iload_n hx hb dX12_plainly_4 rfl (lv_at hl 0 rfl) ?_
    refine lv_ineg hx hb dX12_plainly_5 ?_
    refine lv_goto (tgt := 10) hx hb dX12_plainly_6 (by decide) ?_
    exact r_I C0 hP hS h dX12_plainly_10
set_option maxRecDepth 100000 in
set_option maxHeartbeats 4000000 in
theorem c_X12_plainly (l : Launch) (a0 : Int32) {D : va_G} {ct : Nat → ClassId} {B : Nat} {Hb : Heap} {S : St} {V : Int32} (h : L_X12_plainly a0 S = some V) : Met l yX12_plainly (Cond.code yX12_plainly cX12_plainly 1 (some .int) :: tG) { frames := 0, cells := 0, slots := 0, locals := 0 } (va_Pc [.int a0] (MPK D ct B Hb S)) (qI D ct B Hb S V) 0 0 (AB B) := by
  refine mk_met (by decide +kernel) (Nat.le_of_ble_eq_true rfl) (fun p e s m args below meth c ls C0 hP hl _ => ?_)
  have h := ob_of h
  exact w_X12_plainly_0 l C0 a0 S h hP va_S.rf (lv_sub hl [0] rfl)
set_option maxRecDepth 100000 in
set_option maxHeartbeats 4000000 in
theorem w_X12_atLeast_0 (l : Launch) {V : Int32} (C0 : XC D ct p s m args meth c cX12_atLeast 1 (some .int) RX12) (v0 : Int32) (S : St) {H : Heap} {locs : List Loc} {ls : Array Slot} (h : (b_X12_atLeast_0 v0 S).bind some = some V) (hP : MP D ct B Hb S H) (hS : va_S (AB B) s.heap H locs) (hl : lv_has ls 1 [(0, .int v0)]) : W p l e { frames := 0, cells := 0, slots := 0, locals := 0 } s m args below meth c H locs 0 0 (MQ below (qI D ct B Hb S V) args s 0 0 (AB B)) (F0 m 0 ls []) := by
  obtain ⟨hx, hb, hr, hml, hown, hts, hK, hlocks, hN⟩ := id C0
  unfold b_X12_atLeast_0 at h
  refine lv_iload_n hx hb dX12_atLeast_0 rfl (lv_at hl 0 rfl) ?_
  refine lv_if_ge (tgt := 8) hx hb dX12_atLeast_1 (by decide) (fun z1 => ?_) (fun z1 => ?_)
  · have h := ob_t h z1
    refine lv_iload_n hx hb dX12_atLeast_8 rfl (lv_at hl 0 rfl) ?_
    exact r_I C0 hP hS h dX12_atLeast_9
  · have h := ob_f h z1
    refine lv_iconst (v := 0) hx hb dX12_atLeast_4 (by decide) ?_
    refine lv_goto (tgt := 9) hx hb dX12_atLeast_5 (by decide) ?_
    exact r_I C0 hP hS h dX12_atLeast_9
set_option maxRecDepth 100000 in
set_option maxHeartbeats 4000000 in
theorem c_X12_atLeast (l : Launch) (a0 : Int32) {D : va_G} {ct : Nat → ClassId} {B : Nat} {Hb : Heap} {S : St} {V : Int32} (h : L_X12_atLeast a0 S = some V) : Met l yX12_atLeast (Cond.code yX12_atLeast cX12_atLeast 1 (some .int) :: tG) { frames := 0, cells := 0, slots := 0, locals := 0 } (va_Pc [.int a0] (MPK D ct B Hb S)) (qI D ct B Hb S V) 0 0 (AB B) := by
  refine mk_met (by decide +kernel) (Nat.le_of_ble_eq_true rfl) (fun p e s m args below meth c ls C0 hP hl _ => ?_)
  have h := ob_of h
  exact w_X12_atLeast_0 l C0 a0 S h hP va_S.rf (lv_sub hl [0] rfl)
set_option maxRecDepth 100000 in
set_option maxHeartbeats 4000000 in
theorem w_X12_dueOf_26 (l : Launch) {V : Int32} (C0 : XC D ct p s m args meth c cX12_dueOf 2 (some .int) RX12) (v1 : Int32) (S : St) {H : Heap} {locs : List Loc} {ls : Array Slot} (h : (b_X12_dueOf_26 v1 S).bind some = some V) (hP : MP D ct B Hb S H) (hS : va_S (AB B) s.heap H locs) (hl : lv_has ls 2 [(0, .ref (B + 136)), (1, .int v1)]) : W p l e { frames := 0, cells := 0, slots := 0, locals := 0 } s m args below meth c H locs 0 0 (MQ below (qI D ct B Hb S V) args s 0 0 (AB B)) (F0 m 26 ls []) := by
  obtain ⟨hx, hb, hr, hml, hown, hts, hK, hlocks, hN⟩ := id C0
  unfold b_X12_dueOf_26 at h
  refine lv_aload_n hx hb dX12_dueOf_26 rfl (lv_at hl 0 rfl) ?_
  refine x_get C0 hP (lay_X12 B ct S) rfl inG12 19 (by decide) wd_1160 (fun _ h => h) rfl dX12_dueOf_27 ?_
  refine lv_iload_n hx hb dX12_dueOf_30 rfl (lv_at hl 1 rfl) ?_
  obtain ⟨g1, h⟩ := ob_gd h
  refine x_iald C0 hP ((fun S => lay_150 B ct S) S) g1 dX12_dueOf_31 ?_
  exact r_I C0 hP hS h dX12_dueOf_32
set_option maxRecDepth 100000 in
set_option maxHeartbeats 4000000 in
theorem w_X12_dueOf_0 (l : Launch) {V : Int32} (C0 : XC D ct p s m args meth c cX12_dueOf 2 (some .int) RX12) (v1 : Int32) (S : St) {H : Heap} {locs : List Loc} {ls : Array Slot} (h : (b_X12_dueOf_0 v1 S).bind some = some V) (hP : MP D ct B Hb S H) (hS : va_S (AB B) s.heap H locs) (hl : lv_has ls 2 [(0, .ref (B + 136)), (1, .int v1)]) : W p l e { frames := 0, cells := 0, slots := 0, locals := 0 } s m args below meth c H locs 0 0 (MQ below (qI D ct B Hb S V) args s 0 0 (AB B)) (F0 m 0 ls []) := by
  obtain ⟨hx, hb, hr, hml, hown, hts, hK, hlocks, hN⟩ := id C0
  unfold b_X12_dueOf_0 at h
  refine lv_aload_n hx hb dX12_dueOf_0 rfl (lv_at hl 0 rfl) ?_
  refine x_get C0 hP (lay_X12 B ct S) rfl inG12 16 (by decide) wd_1157 (fun _ h => h) rfl dX12_dueOf_1 ?_
  refine lv_iload_n hx hb dX12_dueOf_4 rfl (lv_at hl 1 rfl) ?_
  obtain ⟨g1, h⟩ := ob_gd h
  refine x_iald C0 hP ((fun S => lay_147 B ct S) S) g1 dX12_dueOf_5 ?_
  refine lv_iconst (v := 1) hx hb dX12_dueOf_6 (by decide) ?_
  refine lv_icmp_ne (tgt := 26) hx hb dX12_dueOf_7 (by decide) (fun z2 => ?_) (fun z2 => ?_)
  · have h := ob_f h z2
    exact w_X12_dueOf_26 l C0 v1 S h hP hS (lv_sub hl [0, 1] rfl)
  · have h := ob_t h z2
    refine lv_aload_n hx hb dX12_dueOf_10 rfl (lv_at hl 0 rfl) ?_
    refine x_get C0 hP (lay_X12 B ct S) rfl inG12 19 (by decide) wd_1160 (fun _ h => h) rfl dX12_dueOf_11 ?_
    refine lv_iload_n hx hb dX12_dueOf_14 rfl (lv_at hl 1 rfl) ?_
    obtain ⟨g3, h⟩ := ob_gd h
    refine x_iald C0 hP ((fun S => lay_150 B ct S) S) g3 dX12_dueOf_15 ?_
    refine lv_bipush (v := 12) hx hb dX12_dueOf_16 (by decide) ?_
    refine lv_icmp_le (tgt := 26) hx hb dX12_dueOf_18 (by decide) (fun z4 => ?_) (fun z4 => ?_)
    · have h := ob_t h z4
      exact w_X12_dueOf_26 l C0 v1 S h hP hS (lv_sub hl [0, 1] rfl)
    · have h := ob_f h z4
      refine lv_bipush (v := 12) hx hb dX12_dueOf_21 (by decide) ?_
      refine lv_goto (tgt := 32) hx hb dX12_dueOf_23 (by decide) ?_
      exact r_I C0 hP hS h dX12_dueOf_32
set_option maxRecDepth 100000 in
set_option maxHeartbeats 4000000 in
theorem c_X12_dueOf (l : Launch) (a1 : Int32) {D : va_G} {ct : Nat → ClassId} {B : Nat} {Hb : Heap} {S : St} {V : Int32} (h : L_X12_dueOf a1 S = some V) : Met l yX12_dueOf (Cond.code yX12_dueOf cX12_dueOf 2 (some .int) :: tG) { frames := 0, cells := 0, slots := 0, locals := 0 } (va_Pc [.ref (B + 136), .int a1] (MPK D ct B Hb S)) (qI D ct B Hb S V) 0 0 (AB B) := by
  refine mk_met (by decide +kernel) (Nat.le_of_ble_eq_true rfl) (fun p e s m args below meth c ls C0 hP hl _ => ?_)
  have h := ob_of h
  exact w_X12_dueOf_0 l C0 a1 S h hP va_S.rf (lv_sub hl [0, 1] rfl)
set_option maxRecDepth 100000 in
set_option maxHeartbeats 4000000 in
theorem w_X12_sumOf_52 (l : Launch) {V : Int32} (C0 : XC D ct p s m args meth c cX12_sumOf 4 (some .int) RX12) (v2 : Int32) (v3 : Int32) (S : St) {H : Heap} {locs : List Loc} {ls : Array Slot} (h : (b_X12_sumOf_52 v2 v3 S).bind some = some V) (hP : MP D ct B Hb S H) (hS : va_S (AB B) s.heap H locs) (hl : lv_has ls 4 [(2, .int v2), (3, .int v3)]) : W p l e { frames := 0, cells := 0, slots := 0, locals := 0 } s m args below meth c H locs 0 0 (MQ below (qI D ct B Hb S V) args s 0 0 (AB B)) (F0 m 52 ls []) := by
  obtain ⟨hx, hb, hr, hml, hown, hts, hK, hlocks, hN⟩ := id C0
  unfold b_X12_sumOf_52 at h
  refine lv_iload_n hx hb dX12_sumOf_52 rfl (lv_at hl 0 rfl) ?_
  refine lv_iload_n hx hb dX12_sumOf_53 rfl (lv_at hl 1 rfl) ?_
  refine lv_iadd hx hb dX12_sumOf_54 ?_
  exact r_I C0 hP hS h dX12_sumOf_55
set_option maxRecDepth 100000 in
set_option maxHeartbeats 4000000 in
theorem w_X12_sumOf_0 (l : Launch) {V : Int32} (C0 : XC D ct p s m args meth c cX12_sumOf 4 (some .int) RX12) (v1 : Int32) (v2 : Int32) (v3 : Int32) (S : St) {H : Heap} {locs : List Loc} {ls : Array Slot} (h : (b_X12_sumOf_0 v1 v2 v3 S).bind some = some V) (hP : MP D ct B Hb S H) (hS : va_S (AB B) s.heap H locs) (hl : lv_has ls 4 [(0, .ref (B + 136)), (1, .int v1), (2, .int v2), (3, .int v3)]) : W p l e { frames := 0, cells := 0, slots := 0, locals := 0 } s m args below meth c H locs 0 0 (MQ below (qI D ct B Hb S V) args s 0 0 (AB B)) (F0 m 0 ls []) := by
  obtain ⟨hx, hb, hr, hml, hown, hts, hK, hlocks, hN⟩ := id C0
  unfold b_X12_sumOf_0 at h
  refine lv_aload_n hx hb dX12_sumOf_0 rfl (lv_at hl 0 rfl) ?_
  refine x_get C0 hP (lay_X12 B ct S) rfl inG12 16 (by decide) wd_1157 (fun _ h => h) rfl dX12_sumOf_1 ?_
  refine lv_iload_n hx hb dX12_sumOf_4 rfl (lv_at hl 1 rfl) ?_
  obtain ⟨g1, h⟩ := ob_gd h
  refine x_iald C0 hP ((fun S => lay_147 B ct S) S) g1 dX12_sumOf_5 ?_
  rcases Decidable.em ((gi S 147 v1.toNatClampNeg : Int32) = 4) with z2 | z2
  · have h := ob_t h z2
    refine lv_tableIn (x := gi S 147 v1.toNatClampNeg) (off := 30) (tgt := 36) hx hb dX12_sumOf_6 (by rw [z2]; decide) (by rw [z2]; decide) (by rw [z2]; decide) (by decide) ?_
    refine lv_iload_n hx hb dX12_sumOf_36 rfl (lv_at hl 2 rfl) ?_
    refine lv_iconst (v := 2) hx hb dX12_sumOf_37 (by decide) ?_
    refine lv_iload_n hx hb dX12_sumOf_38 rfl (lv_at hl 3 rfl) ?_
    refine lv_imul hx hb dX12_sumOf_39 ?_
    refine lv_iadd hx hb dX12_sumOf_40 ?_
    exact r_I C0 hP hS h dX12_sumOf_41
  · have h := ob_f h z2
    rcases Decidable.em ((gi S 147 v1.toNatClampNeg : Int32) = 5) with z3 | z3
    · have h := ob_t h z3
      refine lv_tableIn (x := gi S 147 v1.toNatClampNeg) (off := 36) (tgt := 42) hx hb dX12_sumOf_6 (by rw [z3]; decide) (by rw [z3]; decide) (by rw [z3]; decide) (by decide) ?_
      refine lv_iconst (v := 2) hx hb dX12_sumOf_42 (by decide) ?_
      refine lv_iload_n hx hb dX12_sumOf_43 rfl (lv_at hl 3 rfl) ?_
      refine lv_imul hx hb dX12_sumOf_44 ?_
      exact r_I C0 hP hS h dX12_sumOf_45
    · have h := ob_f h z3
      rcases Decidable.em ((gi S 147 v1.toNatClampNeg : Int32) = 6) with z4 | z4
      · have h := ob_t h z4
        refine lv_tableIn (x := gi S 147 v1.toNatClampNeg) (off := 46) (tgt := 52) hx hb dX12_sumOf_6 (by rw [z4]; decide) (by rw [z4]; decide) (by rw [z4]; decide) (by decide) ?_
        exact w_X12_sumOf_52 l C0 v2 v3 S h hP hS (lv_sub hl [2, 3] rfl)
      · have h := ob_f h z4
        rcases Decidable.em ((gi S 147 v1.toNatClampNeg : Int32) = 7) with z5 | z5
        · have h := ob_t h z5
          refine lv_tableIn (x := gi S 147 v1.toNatClampNeg) (off := 40) (tgt := 46) hx hb dX12_sumOf_6 (by rw [z5]; decide) (by rw [z5]; decide) (by rw [z5]; decide) (by decide) ?_
          refine lv_iconst (v := 2) hx hb dX12_sumOf_46 (by decide) ?_
          refine lv_iload_n hx hb dX12_sumOf_47 rfl (lv_at hl 2 rfl) ?_
          refine lv_imul hx hb dX12_sumOf_48 ?_
          refine lv_iload_n hx hb dX12_sumOf_49 rfl (lv_at hl 3 rfl) ?_
          refine lv_iadd hx hb dX12_sumOf_50 ?_
          exact r_I C0 hP hS h dX12_sumOf_51
        · have h := ob_f h z5
          refine lv_tableOut (x := gi S 147 v1.toNatClampNeg) (tgt := 52) hx hb dX12_sumOf_6 (sw_4_4 z2 z3 z4 z5) (by decide) ?_
          exact w_X12_sumOf_52 l C0 v2 v3 S h hP hS (lv_sub hl [2, 3] rfl)
set_option maxRecDepth 100000 in
set_option maxHeartbeats 4000000 in
theorem c_X12_sumOf (l : Launch) (a1 : Int32) (a2 : Int32) (a3 : Int32) {D : va_G} {ct : Nat → ClassId} {B : Nat} {Hb : Heap} {S : St} {V : Int32} (h : L_X12_sumOf a1 a2 a3 S = some V) : Met l yX12_sumOf (Cond.code yX12_sumOf cX12_sumOf 4 (some .int) :: tG) { frames := 0, cells := 0, slots := 0, locals := 0 } (va_Pc [.ref (B + 136), .int a1, .int a2, .int a3] (MPK D ct B Hb S)) (qI D ct B Hb S V) 0 0 (AB B) := by
  refine mk_met (by decide +kernel) (Nat.le_of_ble_eq_true rfl) (fun p e s m args below meth c ls C0 hP hl _ => ?_)
  have h := ob_of h
  exact w_X12_sumOf_0 l C0 a1 a2 a3 S h hP va_S.rf (lv_sub hl [0, 1, 2, 3] rfl)
set_option maxRecDepth 100000 in
set_option maxHeartbeats 4000000 in
theorem w_X12_strengthOf_0 (l : Launch) {V : Int32} (C0 : XC D ct p s m args meth c cX12_strengthOf 4 (some .int) RX12) (v1 : Int32) (v2 : Int32) (S : St) {H : Heap} {locs : List Loc} {ls : Array Slot} (h : (b_X12_strengthOf_0 v1 v2 S).bind some = some V) (hP : MP D ct B Hb S H) (hS : va_S (AB B) s.heap H locs) (hl : lv_has ls 4 [(0, .ref (B + 136)), (1, .int v1), (2, .int v2)]) : W p l e { frames := 1, cells := 0, slots := 0, locals := 20 } s m args below meth c H locs 0 0 (MQ below (qI D ct B Hb S V) args s 0 0 (AB B)) (F0 m 0 ls []) := by
  obtain ⟨hx, hb, hr, hml, hown, hts, hK, hlocks, hN⟩ := id C0
  unfold b_X12_strengthOf_0 at h
  refine lv_iload_n hx hb dX12_strengthOf_0 rfl (lv_at hl 2 rfl) ?_
  obtain ⟨r1, hr1, h⟩ := ob_bd h
  refine n_I (kS (As := [.int v2]) C0 (c_X12_plainly l v2 hr1) ⟨wd_1478, wd_1476, wd_1477, wd_6⟩ kd_X12_plainly ⟨Nat.le_of_ble_eq_true rfl, Nat.le_of_ble_eq_true rfl⟩ hP rfl hl.1 rfl (Nat.le_of_ble_eq_true rfl) dX12_strengthOf_1 ⟨Nat.le_of_ble_eq_true rfl, Nat.le_of_ble_eq_true rfl⟩) hS (fun H locs hP hS => ?_)
  refine lv_istore_n (lv' := [(3, .int r1), (0, .ref (B + 136)), (1, .int v1), (2, .int v2)]) hx hb dX12_strengthOf_4 rfl hl (by decide) rfl (fun ls hl => ?_)
  refine lv_aload_n hx hb dX12_strengthOf_5 rfl (lv_at hl 1 rfl) ?_
  refine x_get C0 hP (lay_X12 B ct S) rfl inG12 16 (by decide) wd_1157 (fun _ h => h) rfl dX12_strengthOf_6 ?_
  refine lv_iload_n hx hb dX12_strengthOf_9 rfl (lv_at hl 2 rfl) ?_
  obtain ⟨g2, h⟩ := ob_gd h
  refine x_iald C0 hP ((fun S => lay_147 B ct S) S) g2 dX12_strengthOf_10 ?_
  refine lv_iconst (v := 2) hx hb dX12_strengthOf_11 (by decide) ?_
  refine lv_icmp_ne (tgt := 26) hx hb dX12_strengthOf_12 (by decide) (fun z3 => ?_) (fun z3 => ?_)
  · have h := ob_f h z3
    refine lv_aload_n hx hb dX12_strengthOf_26 rfl (lv_at hl 1 rfl) ?_
    refine x_get C0 hP (lay_X12 B ct S) rfl inG12 16 (by decide) wd_1157 (fun _ h => h) rfl dX12_strengthOf_27 ?_
    refine lv_iload_n hx hb dX12_strengthOf_30 rfl (lv_at hl 2 rfl) ?_
    obtain ⟨g4, h⟩ := ob_gd h
    refine x_iald C0 hP ((fun S => lay_147 B ct S) S) g4 dX12_strengthOf_31 ?_
    refine lv_iconst (v := 3) hx hb dX12_strengthOf_32 (by decide) ?_
    refine lv_icmp_ne (tgt := 49) hx hb dX12_strengthOf_33 (by decide) (fun z5 => ?_) (fun z5 => ?_)
    · have h := ob_f h z5
      refine lv_iload_n hx hb dX12_strengthOf_49 rfl (lv_at hl 0 rfl) ?_
      exact r_I C0 hP hS h dX12_strengthOf_50
    · have h := ob_t h z5
      refine lv_iconst (v := 2) hx hb dX12_strengthOf_36 (by decide) ?_
      refine lv_iload_n hx hb dX12_strengthOf_37 rfl (lv_at hl 0 rfl) ?_
      refine lv_aload_n hx hb dX12_strengthOf_38 rfl (lv_at hl 1 rfl) ?_
      refine x_get C0 hP (lay_X12 B ct S) rfl inG12 17 (by decide) wd_1158 (fun _ h => h) rfl dX12_strengthOf_39 ?_
      refine lv_iload_n hx hb dX12_strengthOf_42 rfl (lv_at hl 2 rfl) ?_
      obtain ⟨g6, h⟩ := ob_gd h
      refine x_iald C0 hP ((fun S => lay_148 B ct S) S) g6 dX12_strengthOf_43 ?_
      refine lv_iadd hx hb dX12_strengthOf_44 ?_
      refine lv_imul hx hb dX12_strengthOf_45 ?_
      refine lv_goto (tgt := 50) hx hb dX12_strengthOf_46 (by decide) ?_
      exact r_I C0 hP hS h dX12_strengthOf_50
  · have h := ob_t h z3
    refine lv_iload_n hx hb dX12_strengthOf_15 rfl (lv_at hl 0 rfl) ?_
    refine lv_aload_n hx hb dX12_strengthOf_16 rfl (lv_at hl 1 rfl) ?_
    refine x_get C0 hP (lay_X12 B ct S) rfl inG12 17 (by decide) wd_1158 (fun _ h => h) rfl dX12_strengthOf_17 ?_
    refine lv_iload_n hx hb dX12_strengthOf_20 rfl (lv_at hl 2 rfl) ?_
    obtain ⟨g7, h⟩ := ob_gd h
    refine x_iald C0 hP ((fun S => lay_148 B ct S) S) g7 dX12_strengthOf_21 ?_
    refine lv_iadd hx hb dX12_strengthOf_22 ?_
    refine lv_goto (tgt := 50) hx hb dX12_strengthOf_23 (by decide) ?_
    exact r_I C0 hP hS h dX12_strengthOf_50
set_option maxRecDepth 100000 in
set_option maxHeartbeats 4000000 in
theorem c_X12_strengthOf (l : Launch) (a1 : Int32) (a2 : Int32) {D : va_G} {ct : Nat → ClassId} {B : Nat} {Hb : Heap} {S : St} {V : Int32} (h : L_X12_strengthOf a1 a2 S = some V) : Met l yX12_strengthOf (Cond.code yX12_strengthOf cX12_strengthOf 4 (some .int) :: tG) { frames := 1, cells := 0, slots := 0, locals := 20 } (va_Pc [.ref (B + 136), .int a1, .int a2] (MPK D ct B Hb S)) (qI D ct B Hb S V) 0 0 (AB B) := by
  refine mk_met (by decide +kernel) (Nat.le_of_ble_eq_true rfl) (fun p e s m args below meth c ls C0 hP hl _ => ?_)
  have h := ob_of h
  exact w_X12_strengthOf_0 l C0 a1 a2 S h hP va_S.rf (lv_sub hl [0, 1, 2] rfl)
set_option maxRecDepth 100000 in
set_option maxHeartbeats 4000000 in
theorem w_X12_priceOf_0 (l : Launch) {V : Int32} (C0 : XC D ct p s m args meth c cX12_priceOf 4 (some .int) RX12) (v1 : Int32) (v2 : Int32) (S : St) {H : Heap} {locs : List Loc} {ls : Array Slot} (h : (b_X12_priceOf_0 v1 v2 S).bind some = some V) (hP : MP D ct B Hb S H) (hS : va_S (AB B) s.heap H locs) (hl : lv_has ls 4 [(0, .ref (B + 136)), (1, .int v1), (2, .int v2)]) : W p l e { frames := 1, cells := 0, slots := 0, locals := 20 } s m args below meth c H locs 0 0 (MQ below (qI D ct B Hb S V) args s 0 0 (AB B)) (F0 m 0 ls []) := by
  obtain ⟨hx, hb, hr, hml, hown, hts, hK, hlocks, hN⟩ := id C0
  unfold b_X12_priceOf_0 at h
  refine lv_iload_n hx hb dX12_priceOf_0 rfl (lv_at hl 2 rfl) ?_
  refine lv_aload_n hx hb dX12_priceOf_1 rfl (lv_at hl 0 rfl) ?_
  refine x_get C0 hP (lay_X12 B ct S) rfl inG12 8 (by decide) wd_1149 (fun _ h => h) rfl dX12_priceOf_2 ?_
  refine lv_imul hx hb dX12_priceOf_5 ?_
  refine lv_iconst (v := 3) hx hb dX12_priceOf_6 (by decide) ?_
  refine lv_iadd hx hb dX12_priceOf_7 ?_
  refine lv_iconst (v := 4) hx hb dX12_priceOf_8 (by decide) ?_
  refine lv_idiv hx hb dX12_priceOf_9 (by decide) ?_
  refine lv_istore_n (lv' := [(3, .int (((v2 * (gi S 136 8)) + 3) / 4)), (0, .ref (B + 136)), (1, .int v1), (2, .int v2)]) hx hb dX12_priceOf_10 rfl hl (by decide) rfl (fun ls hl => ?_)
  refine lv_aload_n hx hb dX12_priceOf_11 rfl (lv_at hl 1 rfl) ?_
  refine x_get C0 hP (lay_X12 B ct S) rfl inG12 16 (by decide) wd_1157 (fun _ h => h) rfl dX12_priceOf_12 ?_
  refine lv_iload_n hx hb dX12_priceOf_15 rfl (lv_at hl 2 rfl) ?_
  obtain ⟨g2, h⟩ := ob_gd h
  refine x_iald C0 hP ((fun S => lay_147 B ct S) S) g2 dX12_priceOf_16 ?_
  refine lv_bipush (v := 6) hx hb dX12_priceOf_17 (by decide) ?_
  refine lv_icmp_ne (tgt := 28) hx hb dX12_priceOf_19 (by decide) (fun z3 => ?_) (fun z3 => ?_)
  · have h := ob_f h z3
    refine lv_aload_n hx hb dX12_priceOf_28 rfl (lv_at hl 1 rfl) ?_
    refine x_get C0 hP (lay_X12 B ct S) rfl inG12 16 (by decide) wd_1157 (fun _ h => h) rfl dX12_priceOf_29 ?_
    refine lv_iload_n hx hb dX12_priceOf_32 rfl (lv_at hl 2 rfl) ?_
    obtain ⟨g4, h⟩ := ob_gd h
    refine x_iald C0 hP ((fun S => lay_147 B ct S) S) g4 dX12_priceOf_33 ?_
    refine lv_bipush (v := 7) hx hb dX12_priceOf_34 (by decide) ?_
    refine lv_icmp_ne (tgt := 50) hx hb dX12_priceOf_36 (by decide) (fun z5 => ?_) (fun z5 => ?_)
    · have h := ob_f h z5
      refine lv_iload_n hx hb dX12_priceOf_50 rfl (lv_at hl 0 rfl) ?_
      exact r_I C0 hP hS h dX12_priceOf_51
    · have h := ob_t h z5
      refine lv_iload_n hx hb dX12_priceOf_39 rfl (lv_at hl 0 rfl) ?_
      refine lv_iconst (v := 2) hx hb dX12_priceOf_40 (by decide) ?_
      refine lv_idiv hx hb dX12_priceOf_41 (by decide) ?_
      refine lv_iconst (v := 1) hx hb dX12_priceOf_42 (by decide) ?_
      refine lv_isub hx hb dX12_priceOf_43 ?_
      obtain ⟨r7, hr7, h⟩ := ob_bd h
      refine n_I (kS (As := [.int (((((v2 * (gi S 136 8)) + 3) / 4) / 2) - 1)]) C0 (c_X12_atLeast l (((((v2 * (gi S 136 8)) + 3) / 4) / 2) - 1) hr7) ⟨wd_1489, wd_1487, wd_1488, wd_6⟩ kd_X12_atLeast ⟨Nat.le_of_ble_eq_true rfl, Nat.le_of_ble_eq_true rfl⟩ hP rfl hl.1 rfl (Nat.le_of_ble_eq_true rfl) dX12_priceOf_44 ⟨Nat.le_of_ble_eq_true rfl, Nat.le_of_ble_eq_true rfl⟩) hS (fun H locs hP hS => ?_)
      refine lv_goto (tgt := 51) hx hb dX12_priceOf_47 (by decide) ?_
      exact r_I C0 hP hS h dX12_priceOf_51
  · have h := ob_t h z3
    refine lv_iload_n hx hb dX12_priceOf_22 rfl (lv_at hl 0 rfl) ?_
    refine lv_iconst (v := 2) hx hb dX12_priceOf_23 (by decide) ?_
    refine lv_idiv hx hb dX12_priceOf_24 (by decide) ?_
    refine lv_goto (tgt := 51) hx hb dX12_priceOf_25 (by decide) ?_
    exact r_I C0 hP hS h dX12_priceOf_51
set_option maxRecDepth 100000 in
set_option maxHeartbeats 4000000 in
theorem c_X12_priceOf (l : Launch) (a1 : Int32) (a2 : Int32) {D : va_G} {ct : Nat → ClassId} {B : Nat} {Hb : Heap} {S : St} {V : Int32} (h : L_X12_priceOf a1 a2 S = some V) : Met l yX12_priceOf (Cond.code yX12_priceOf cX12_priceOf 4 (some .int) :: tG) { frames := 1, cells := 0, slots := 0, locals := 20 } (va_Pc [.ref (B + 136), .int a1, .int a2] (MPK D ct B Hb S)) (qI D ct B Hb S V) 0 0 (AB B) := by
  refine mk_met (by decide +kernel) (Nat.le_of_ble_eq_true rfl) (fun p e s m args below meth c ls C0 hP hl _ => ?_)
  have h := ob_of h
  exact w_X12_priceOf_0 l C0 a1 a2 S h hP va_S.rf (lv_sub hl [0, 1, 2] rfl)
set_option maxRecDepth 100000 in
set_option maxHeartbeats 4000000 in
theorem w_X12_buys_0 (l : Launch) {V : Int32} (C0 : XC D ct p s m args meth c cX12_buys 4 (some .boolean) RX12) (v1 : Int32) (v2 : Int32) (v3 : Int32) (S : St) {H : Heap} {locs : List Loc} {ls : Array Slot} (h : (b_X12_buys_0 v1 v2 v3 S).bind some = some V) (hP : MP D ct B Hb S H) (hS : va_S (AB B) s.heap H locs) (hl : lv_has ls 4 [(0, .ref (B + 136)), (1, .int v1), (2, .int v2), (3, .int v3)]) : W p l e { frames := 0, cells := 0, slots := 0, locals := 0 } s m args below meth c H locs 0 0 (MQ below (qI D ct B Hb S V) args s 0 0 (AB B)) (F0 m 0 ls []) := by
  obtain ⟨hx, hb, hr, hml, hown, hts, hK, hlocks, hN⟩ := id C0
  unfold b_X12_buys_0 at h
  refine lv_aload_n hx hb dX12_buys_0 rfl (lv_at hl 0 rfl) ?_
  refine x_get C0 hP (lay_X12 B ct S) rfl inG12 16 (by decide) wd_1157 (fun _ h => h) rfl dX12_buys_1 ?_
  refine lv_iload_n hx hb dX12_buys_4 rfl (lv_at hl 1 rfl) ?_
  obtain ⟨g1, h⟩ := ob_gd h
  refine x_iald C0 hP ((fun S => lay_147 B ct S) S) g1 dX12_buys_5 ?_
  refine lv_iconst (v := 3) hx hb dX12_buys_6 (by decide) ?_
  refine lv_icmp_ne (tgt := 14) hx hb dX12_buys_7 (by decide) (fun z2 => ?_) (fun z2 => ?_)
  · have h := ob_f h z2
    refine lv_aload_n hx hb dX12_buys_14 rfl (lv_at hl 0 rfl) ?_
    refine x_get C0 hP (lay_X12 B ct S) rfl inG12 16 (by decide) wd_1157 (fun _ h => h) rfl dX12_buys_15 ?_
    refine lv_iload_n hx hb dX12_buys_18 rfl (lv_at hl 1 rfl) ?_
    obtain ⟨g3, h⟩ := ob_gd h
    refine x_iald C0 hP ((fun S => lay_147 B ct S) S) g3 dX12_buys_19 ?_
    refine lv_iconst (v := 5) hx hb dX12_buys_20 (by decide) ?_
    refine lv_icmp_le (tgt := 37) hx hb dX12_buys_21 (by decide) (fun z4 => ?_) (fun z4 => ?_)
    · have h := ob_t h z4
      refine lv_iload_n hx hb dX12_buys_37 rfl (lv_at hl 2 rfl) ?_
      refine lv_iload_n hx hb dX12_buys_38 rfl (lv_at hl 3 rfl) ?_
      refine lv_icmp_le (tgt := 46) hx hb dX12_buys_39 (by decide) (fun z5 => ?_) (fun z5 => ?_)
      · have h := ob_t h z5
        refine lv_iconst (v := 0) hx hb dX12_buys_46 (by decide) ?_
        exact r_Z C0 hP hS bool_0 h dX12_buys_47
      · have h := ob_f h z5
        refine lv_iconst (v := 1) hx hb dX12_buys_42 (by decide) ?_
        refine lv_goto (tgt := 47) hx hb dX12_buys_43 (by decide) ?_
        exact r_Z C0 hP hS bool_1 h dX12_buys_47
    · have h := ob_f h z4
      refine lv_iload_n hx hb dX12_buys_24 rfl (lv_at hl 2 rfl) ?_
      refine lv_iload_n hx hb dX12_buys_25 rfl (lv_at hl 3 rfl) ?_
      refine lv_icmp_lt (tgt := 33) hx hb dX12_buys_26 (by decide) (fun z6 => ?_) (fun z6 => ?_)
      · have h := ob_t h z6
        refine lv_iconst (v := 0) hx hb dX12_buys_33 (by decide) ?_
        refine lv_goto (tgt := 47) hx hb dX12_buys_34 (by decide) ?_
        exact r_Z C0 hP hS bool_0 h dX12_buys_47
      · have h := ob_f h z6
        refine lv_iconst (v := 1) hx hb dX12_buys_29 (by decide) ?_
        refine lv_goto (tgt := 47) hx hb dX12_buys_30 (by decide) ?_
        exact r_Z C0 hP hS bool_1 h dX12_buys_47
  · have h := ob_t h z2
    refine lv_iconst (v := 0) hx hb dX12_buys_10 (by decide) ?_
    refine lv_goto (tgt := 47) hx hb dX12_buys_11 (by decide) ?_
    exact r_Z C0 hP hS bool_0 h dX12_buys_47
set_option maxRecDepth 100000 in
set_option maxHeartbeats 4000000 in
theorem c_X12_buys (l : Launch) (a1 : Int32) (a2 : Int32) (a3 : Int32) {D : va_G} {ct : Nat → ClassId} {B : Nat} {Hb : Heap} {S : St} {V : Int32} (h : L_X12_buys a1 a2 a3 S = some V) : Met l yX12_buys (Cond.code yX12_buys cX12_buys 4 (some .boolean) :: tG) { frames := 0, cells := 0, slots := 0, locals := 0 } (va_Pc [.ref (B + 136), .int a1, .int a2, .int a3] (MPK D ct B Hb S)) (qI D ct B Hb S V) 0 0 (AB B) := by
  refine mk_met (by decide +kernel) (Nat.le_of_ble_eq_true rfl) (fun p e s m args below meth c ls C0 hP hl _ => ?_)
  have h := ob_of h
  exact w_X12_buys_0 l C0 a1 a2 a3 S h hP va_S.rf (lv_sub hl [0, 1, 2, 3] rfl)
set_option maxRecDepth 100000 in
set_option maxHeartbeats 4000000 in
theorem w_X12_fadeOf_20 (l : Launch) {V : Int32} (C0 : XC D ct p s m args meth c cX12_fadeOf 2 (some .int) RX12) (S : St) {H : Heap} {locs : List Loc} {ls : Array Slot} (h : (b_X12_fadeOf_20 S).bind some = some V) (hP : MP D ct B Hb S H) (hS : va_S (AB B) s.heap H locs) (hl : lv_has ls 2 [(0, .ref (B + 136))]) : W p l e { frames := 1, cells := 0, slots := 0, locals := 20 } s m args below meth c H locs 0 0 (MQ below (qI D ct B Hb S V) args s 0 0 (AB B)) (F0 m 20 ls []) := by
  obtain ⟨hx, hb, hr, hml, hown, hts, hK, hlocks, hN⟩ := id C0
  unfold b_X12_fadeOf_20 at h
  refine lv_aload_n hx hb dX12_fadeOf_20 rfl (lv_at hl 0 rfl) ?_
  refine x_get C0 hP (lay_X12 B ct S) rfl inG12 7 (by decide) wd_1148 (fun _ h => h) rfl dX12_fadeOf_21 ?_
  refine lv_iconst (v := 1) hx hb dX12_fadeOf_24 (by decide) ?_
  refine lv_isub hx hb dX12_fadeOf_25 ?_
  obtain ⟨r1, hr1, h⟩ := ob_bd h
  refine n_I (kS (As := [.int ((gi S 136 7) - 1)]) C0 (c_X12_atLeast l ((gi S 136 7) - 1) hr1) ⟨wd_1489, wd_1487, wd_1488, wd_6⟩ kd_X12_atLeast ⟨Nat.le_of_ble_eq_true rfl, Nat.le_of_ble_eq_true rfl⟩ hP rfl hl.1 rfl (Nat.le_of_ble_eq_true rfl) dX12_fadeOf_26 ⟨Nat.le_of_ble_eq_true rfl, Nat.le_of_ble_eq_true rfl⟩) hS (fun H locs hP hS => ?_)
  refine lv_goto (tgt := 56) hx hb dX12_fadeOf_29 (by decide) ?_
  exact r_I C0 hP hS h dX12_fadeOf_56
set_option maxRecDepth 100000 in
set_option maxHeartbeats 4000000 in
theorem w_X12_fadeOf_0 (l : Launch) {V : Int32} (C0 : XC D ct p s m args meth c cX12_fadeOf 2 (some .int) RX12) (v1 : Int32) (S : St) {H : Heap} {locs : List Loc} {ls : Array Slot} (h : (b_X12_fadeOf_0 v1 S).bind some = some V) (hP : MP D ct B Hb S H) (hS : va_S (AB B) s.heap H locs) (hl : lv_has ls 2 [(0, .ref (B + 136)), (1, .int v1)]) : W p l e { frames := 1, cells := 0, slots := 0, locals := 20 } s m args below meth c H locs 0 0 (MQ below (qI D ct B Hb S V) args s 0 0 (AB B)) (F0 m 0 ls []) := by
  obtain ⟨hx, hb, hr, hml, hown, hts, hK, hlocks, hN⟩ := id C0
  unfold b_X12_fadeOf_0 at h
  refine lv_aload_n hx hb dX12_fadeOf_0 rfl (lv_at hl 0 rfl) ?_
  refine x_get C0 hP (lay_X12 B ct S) rfl inG12 16 (by decide) wd_1157 (fun _ h => h) rfl dX12_fadeOf_1 ?_
  refine lv_iload_n hx hb dX12_fadeOf_4 rfl (lv_at hl 1 rfl) ?_
  obtain ⟨g1, h⟩ := ob_gd h
  refine x_iald C0 hP ((fun S => lay_147 B ct S) S) g1 dX12_fadeOf_5 ?_
  refine lv_iconst (v := 2) hx hb dX12_fadeOf_6 (by decide) ?_
  refine lv_icmp_eq (tgt := 20) hx hb dX12_fadeOf_7 (by decide) (fun z2 => ?_) (fun z2 => ?_)
  · have h := ob_t h z2
    exact w_X12_fadeOf_20 l C0 S h hP hS (lv_sub hl [0] rfl)
  · have h := ob_f h z2
    refine lv_aload_n hx hb dX12_fadeOf_10 rfl (lv_at hl 0 rfl) ?_
    refine x_get C0 hP (lay_X12 B ct S) rfl inG12 16 (by decide) wd_1157 (fun _ h => h) rfl dX12_fadeOf_11 ?_
    refine lv_iload_n hx hb dX12_fadeOf_14 rfl (lv_at hl 1 rfl) ?_
    obtain ⟨g3, h⟩ := ob_gd h
    refine x_iald C0 hP ((fun S => lay_147 B ct S) S) g3 dX12_fadeOf_15 ?_
    refine lv_iconst (v := 3) hx hb dX12_fadeOf_16 (by decide) ?_
    refine lv_icmp_ne (tgt := 32) hx hb dX12_fadeOf_17 (by decide) (fun z4 => ?_) (fun z4 => ?_)
    · have h := ob_f h z4
      refine lv_aload_n hx hb dX12_fadeOf_32 rfl (lv_at hl 0 rfl) ?_
      refine x_get C0 hP (lay_X12 B ct S) rfl inG12 16 (by decide) wd_1157 (fun _ h => h) rfl dX12_fadeOf_33 ?_
      refine lv_iload_n hx hb dX12_fadeOf_36 rfl (lv_at hl 1 rfl) ?_
      obtain ⟨g5, h⟩ := ob_gd h
      refine x_iald C0 hP ((fun S => lay_147 B ct S) S) g5 dX12_fadeOf_37 ?_
      refine lv_bipush (v := 7) hx hb dX12_fadeOf_38 (by decide) ?_
      refine lv_icmp_ne (tgt := 52) hx hb dX12_fadeOf_40 (by decide) (fun z6 => ?_) (fun z6 => ?_)
      · have h := ob_f h z6
        refine lv_aload_n hx hb dX12_fadeOf_52 rfl (lv_at hl 0 rfl) ?_
        refine x_get C0 hP (lay_X12 B ct S) rfl inG12 7 (by decide) wd_1148 (fun _ h => h) rfl dX12_fadeOf_53 ?_
        exact r_I C0 hP hS h dX12_fadeOf_56
      · have h := ob_t h z6
        refine lv_iconst (v := 2) hx hb dX12_fadeOf_43 (by decide) ?_
        refine lv_aload_n hx hb dX12_fadeOf_44 rfl (lv_at hl 0 rfl) ?_
        refine x_get C0 hP (lay_X12 B ct S) rfl inG12 7 (by decide) wd_1148 (fun _ h => h) rfl dX12_fadeOf_45 ?_
        refine lv_imul hx hb dX12_fadeOf_48 ?_
        refine lv_goto (tgt := 56) hx hb dX12_fadeOf_49 (by decide) ?_
        exact r_I C0 hP hS h dX12_fadeOf_56
    · have h := ob_t h z4
      exact w_X12_fadeOf_20 l C0 S h hP hS (lv_sub hl [0] rfl)
set_option maxRecDepth 100000 in
set_option maxHeartbeats 4000000 in
theorem c_X12_fadeOf (l : Launch) (a1 : Int32) {D : va_G} {ct : Nat → ClassId} {B : Nat} {Hb : Heap} {S : St} {V : Int32} (h : L_X12_fadeOf a1 S = some V) : Met l yX12_fadeOf (Cond.code yX12_fadeOf cX12_fadeOf 2 (some .int) :: tG) { frames := 1, cells := 0, slots := 0, locals := 20 } (va_Pc [.ref (B + 136), .int a1] (MPK D ct B Hb S)) (qI D ct B Hb S V) 0 0 (AB B) := by
  refine mk_met (by decide +kernel) (Nat.le_of_ble_eq_true rfl) (fun p e s m args below meth c ls C0 hP hl _ => ?_)
  have h := ob_of h
  exact w_X12_fadeOf_0 l C0 a1 S h hP va_S.rf (lv_sub hl [0, 1] rfl)
set_option maxRecDepth 100000 in
set_option maxHeartbeats 4000000 in
theorem w_X12_sideOf_0 (l : Launch) {V : Int32} (C0 : XC D ct p s m args meth c cX12_sideOf 1 (some .int) RX12) (v0 : Int32) (S : St) {H : Heap} {locs : List Loc} {ls : Array Slot} (h : (b_X12_sideOf_0 v0 S).bind some = some V) (hP : MP D ct B Hb S H) (hS : va_S (AB B) s.heap H locs) (hl : lv_has ls 1 [(0, .int v0)]) : W p l e { frames := 0, cells := 0, slots := 0, locals := 0 } s m args below meth c H locs 0 0 (MQ below (qI D ct B Hb S V) args s 0 0 (AB B)) (F0 m 0 ls []) := by
  obtain ⟨hx, hb, hr, hml, hown, hts, hK, hlocks, hN⟩ := id C0
  unfold b_X12_sideOf_0 at h
  refine lv_iload_n hx hb dX12_sideOf_0 rfl (lv_at hl 0 rfl) ?_
  refine lv_if_le (tgt := 8) hx hb dX12_sideOf_1 (by decide) (fun z1 => ?_) (fun z1 => ?_)
  · have h := ob_t h z1
    refine lv_iload_n hx hb dX12_sideOf_8 rfl (lv_at hl 0 rfl) ?_
    refine lv_if_ge (tgt := 16) hx hb dX12_sideOf_9 (by decide) (fun z2 => ?_) (fun z2 => ?_)
    · have h := ob_t h z2
      refine lv_iconst (v := 0) hx hb dX12_sideOf_16 (by decide) ?_
      exact r_I C0 hP hS h dX12_sideOf_17
    · have h := ob_f h z2
      refine lv_iconst (v := (-1)) hx hb dX12_sideOf_12 (by decide) ?_
      refine lv_goto (tgt := 17) hx hb dX12_sideOf_13 (by decide) ?_
      exact r_I C0 hP hS h dX12_sideOf_17
  · have h := ob_f h z1
    refine lv_iconst (v := 1) hx hb dX12_sideOf_4 (by decide) ?_
    refine lv_goto (tgt := 17) hx hb dX12_sideOf_5 (by decide) ?_
    exact r_I C0 hP hS h dX12_sideOf_17
set_option maxRecDepth 100000 in
set_option maxHeartbeats 4000000 in
theorem c_X12_sideOf (l : Launch) (a0 : Int32) {D : va_G} {ct : Nat → ClassId} {B : Nat} {Hb : Heap} {S : St} {V : Int32} (h : L_X12_sideOf a0 S = some V) : Met l yX12_sideOf (Cond.code yX12_sideOf cX12_sideOf 1 (some .int) :: tG) { frames := 0, cells := 0, slots := 0, locals := 0 } (va_Pc [.int a0] (MPK D ct B Hb S)) (qI D ct B Hb S V) 0 0 (AB B) := by
  refine mk_met (by decide +kernel) (Nat.le_of_ble_eq_true rfl) (fun p e s m args below meth c ls C0 hP hl _ => ?_)
  have h := ob_of h
  exact w_X12_sideOf_0 l C0 a0 S h hP va_S.rf (lv_sub hl [0] rfl)
set_option maxRecDepth 100000 in
set_option maxHeartbeats 4000000 in
theorem w_X12_factsBy_73 (l : Launch) {V : Int32} (C0 : XC D ct p s m args meth c cX12_factsBy 6 (some .int) RX12) (v1 : Int32) (v2 : Int32) (v4 : Int32) (s0 : Int32) (s1 : Int32) (S : St) (n0 : Nat) (ih0 : ∀ (v1 : Int32) (v2 : Int32) (v3 : Int32) (v4 : Int32) (H : Heap) (locs : List Loc) (ls : Array Slot), (lp n0 (l_X12_factsBy_5 S) (v1, v2, v3, v4)).bind some = some V → MP D ct B Hb S H → va_S (AB B) s.heap H locs → lv_has ls 6 [(0, .ref (B + 136)), (1, .int v1), (2, .int v2), (3, .int v3), (4, .int v4)] → W p l e { frames := 0, cells := 0, slots := 0, locals := 0 } s m args below meth c H locs 0 0 (MQ below (qI D ct B Hb S V) args s 0 0 (AB B)) (F0 m 5 ls [])) {H : Heap} {locs : List Loc} {ls : Array Slot} (h : (b_X12_factsBy_73 v1 v2 v4 s0 s1 S).bind (lpF n0 (l_X12_factsBy_5 S) some) = some V) (hP : MP D ct B Hb S H) (hS : va_S (AB B) s.heap H locs) (hl : lv_has ls 6 [(0, .ref (B + 136)), (1, .int v1), (2, .int v2), (4, .int v4)]) : W p l e { frames := 0, cells := 0, slots := 0, locals := 0 } s m args below meth c H locs 0 0 (MQ below (qI D ct B Hb S V) args s 0 0 (AB B)) (F0 m 73 ls [.int s0, .int s1]) := by
  obtain ⟨hx, hb, hr, hml, hown, hts, hK, hlocks, hN⟩ := id C0
  unfold b_X12_factsBy_73 at h
  refine lv_iadd hx hb dX12_factsBy_73 ?_
  refine lv_istore_n (lv' := [(3, .int (s1 + s0)), (0, .ref (B + 136)), (1, .int v1), (2, .int v2), (4, .int v4)]) hx hb dX12_factsBy_74 rfl hl (by decide) rfl (fun ls hl => ?_)
  refine lv_iinc (v := v4 + 1) (lv' := [(4, .int (v4 + 1)), (3, .int (s1 + s0)), (0, .ref (B + 136)), (1, .int v1), (2, .int v2)]) hx hb dX12_factsBy_75 hl (k := 4) rfl rfl (by decide) rfl (fun ls hl => ?_)
  refine lv_goto (tgt := 5) hx hb dX12_factsBy_78 (by decide) ?_
  exact ih0 v1 v2 (s1 + s0) (v4 + 1) _ _ _ h hP hS (lv_sub hl [2, 3, 4, 1, 0] rfl)
set_option maxRecDepth 100000 in
set_option maxHeartbeats 4000000 in
theorem w_X12_factsBy_54 (l : Launch) {V : Int32} (C0 : XC D ct p s m args meth c cX12_factsBy 6 (some .int) RX12) (v1 : Int32) (v2 : Int32) (v3 : Int32) (v4 : Int32) (s0 : Int32) (S : St) (n0 : Nat) (ih0 : ∀ (v1 : Int32) (v2 : Int32) (v3 : Int32) (v4 : Int32) (H : Heap) (locs : List Loc) (ls : Array Slot), (lp n0 (l_X12_factsBy_5 S) (v1, v2, v3, v4)).bind some = some V → MP D ct B Hb S H → va_S (AB B) s.heap H locs → lv_has ls 6 [(0, .ref (B + 136)), (1, .int v1), (2, .int v2), (3, .int v3), (4, .int v4)] → W p l e { frames := 0, cells := 0, slots := 0, locals := 0 } s m args below meth c H locs 0 0 (MQ below (qI D ct B Hb S V) args s 0 0 (AB B)) (F0 m 5 ls [])) {H : Heap} {locs : List Loc} {ls : Array Slot} (h : (b_X12_factsBy_54 v1 v2 v3 v4 s0 S).bind (lpF n0 (l_X12_factsBy_5 S) some) = some V) (hP : MP D ct B Hb S H) (hS : va_S (AB B) s.heap H locs) (hl : lv_has ls 6 [(0, .ref (B + 136)), (1, .int v1), (2, .int v2), (3, .int v3), (4, .int v4)]) : W p l e { frames := 0, cells := 0, slots := 0, locals := 0 } s m args below meth c H locs 0 0 (MQ below (qI D ct B Hb S V) args s 0 0 (AB B)) (F0 m 54 ls [.int s0]) := by
  obtain ⟨hx, hb, hr, hml, hown, hts, hK, hlocks, hN⟩ := id C0
  unfold b_X12_factsBy_54 at h
  refine lv_istore (lv' := [(5, .int s0), (0, .ref (B + 136)), (1, .int v1), (2, .int v2), (3, .int v3), (4, .int v4)]) hx hb dX12_factsBy_54 hl (by decide) rfl (fun ls hl => ?_)
  refine lv_iload_n hx hb dX12_factsBy_56 rfl (lv_at hl 4 rfl) ?_
  refine lv_iload hx hb dX12_factsBy_57 (lv_at hl 0 rfl) ?_
  refine lv_if_eq (tgt := 72) hx hb dX12_factsBy_59 (by decide) (fun z1 => ?_) (fun z1 => ?_)
  · have h := ob_t h z1
    refine lv_iconst (v := 0) hx hb dX12_factsBy_72 (by decide) ?_
    exact w_X12_factsBy_73 l C0 v1 v2 v4 0 v3 S n0 ih0 h hP hS (lv_sub hl [1, 2, 3, 5] rfl)
  · have h := ob_f h z1
    refine lv_aload_n hx hb dX12_factsBy_62 rfl (lv_at hl 1 rfl) ?_
    refine x_get C0 hP (lay_X12 B ct S) rfl inG12 3 (by decide) wd_1144 (fun _ h => h) rfl dX12_factsBy_63 ?_
    refine lv_iload hx hb dX12_factsBy_66 (lv_at hl 5 rfl) ?_
    obtain ⟨g2, h⟩ := ob_gd h
    refine x_iald C0 hP ((fun S => lay_139 B ct S) S) g2 dX12_factsBy_68 ?_
    refine lv_goto (tgt := 73) hx hb dX12_factsBy_69 (by decide) ?_
    exact w_X12_factsBy_73 l C0 v1 v2 v4 (gi S 139 v4.toNatClampNeg) v3 S n0 ih0 h hP hS (lv_sub hl [1, 2, 3, 5] rfl)
set_option maxRecDepth 100000 in
set_option maxHeartbeats 4000000 in
theorem w_X12_factsBy_53 (l : Launch) {V : Int32} (C0 : XC D ct p s m args meth c cX12_factsBy 6 (some .int) RX12) (v1 : Int32) (v2 : Int32) (v3 : Int32) (v4 : Int32) (S : St) (n0 : Nat) (ih0 : ∀ (v1 : Int32) (v2 : Int32) (v3 : Int32) (v4 : Int32) (H : Heap) (locs : List Loc) (ls : Array Slot), (lp n0 (l_X12_factsBy_5 S) (v1, v2, v3, v4)).bind some = some V → MP D ct B Hb S H → va_S (AB B) s.heap H locs → lv_has ls 6 [(0, .ref (B + 136)), (1, .int v1), (2, .int v2), (3, .int v3), (4, .int v4)] → W p l e { frames := 0, cells := 0, slots := 0, locals := 0 } s m args below meth c H locs 0 0 (MQ below (qI D ct B Hb S V) args s 0 0 (AB B)) (F0 m 5 ls [])) {H : Heap} {locs : List Loc} {ls : Array Slot} (h : (b_X12_factsBy_53 v1 v2 v3 v4 S).bind (lpF n0 (l_X12_factsBy_5 S) some) = some V) (hP : MP D ct B Hb S H) (hS : va_S (AB B) s.heap H locs) (hl : lv_has ls 6 [(0, .ref (B + 136)), (1, .int v1), (2, .int v2), (3, .int v3), (4, .int v4)]) : W p l e { frames := 0, cells := 0, slots := 0, locals := 0 } s m args below meth c H locs 0 0 (MQ below (qI D ct B Hb S V) args s 0 0 (AB B)) (F0 m 53 ls []) := by
  obtain ⟨hx, hb, hr, hml, hown, hts, hK, hlocks, hN⟩ := id C0
  unfold b_X12_factsBy_53 at h
  refine lv_iconst (v := 0) hx hb dX12_factsBy_53 (by decide) ?_
  exact w_X12_factsBy_54 l C0 v1 v2 v3 v4 0 S n0 ih0 h hP hS (lv_sub hl [0, 1, 2, 3, 4] rfl)
set_option maxRecDepth 100000 in
set_option maxHeartbeats 4000000 in
theorem w_X12_factsBy_5 (l : Launch) {V : Int32} (C0 : XC D ct p s m args meth c cX12_factsBy 6 (some .int) RX12) (v1 : Int32) (v2 : Int32) (v3 : Int32) (v4 : Int32) (S : St) (n0 : Nat) (ih0 : ∀ (v1 : Int32) (v2 : Int32) (v3 : Int32) (v4 : Int32) (H : Heap) (locs : List Loc) (ls : Array Slot), (lp n0 (l_X12_factsBy_5 S) (v1, v2, v3, v4)).bind some = some V → MP D ct B Hb S H → va_S (AB B) s.heap H locs → lv_has ls 6 [(0, .ref (B + 136)), (1, .int v1), (2, .int v2), (3, .int v3), (4, .int v4)] → W p l e { frames := 0, cells := 0, slots := 0, locals := 0 } s m args below meth c H locs 0 0 (MQ below (qI D ct B Hb S V) args s 0 0 (AB B)) (F0 m 5 ls [])) {H : Heap} {locs : List Loc} {ls : Array Slot} (h : (b_X12_factsBy_5 v1 v2 v3 v4 S).bind (lpF n0 (l_X12_factsBy_5 S) some) = some V) (hP : MP D ct B Hb S H) (hS : va_S (AB B) s.heap H locs) (hl : lv_has ls 6 [(0, .ref (B + 136)), (1, .int v1), (2, .int v2), (3, .int v3), (4, .int v4)]) : W p l e { frames := 0, cells := 0, slots := 0, locals := 0 } s m args below meth c H locs 0 0 (MQ below (qI D ct B Hb S V) args s 0 0 (AB B)) (F0 m 5 ls []) := by
  obtain ⟨hx, hb, hr, hml, hown, hts, hK, hlocks, hN⟩ := id C0
  unfold b_X12_factsBy_5 at h
  refine lv_iload hx hb dX12_factsBy_5 (lv_at hl 4 rfl) ?_
  refine lv_aload_n hx hb dX12_factsBy_7 rfl (lv_at hl 0 rfl) ?_
  refine x_get C0 hP (lay_X12 B ct S) rfl inG12 1 (by decide) wd_1142 (fun _ h => h) rfl dX12_factsBy_8 ?_
  refine lv_icmp_ge (tgt := 81) hx hb dX12_factsBy_11 (by decide) (fun z1 => ?_) (fun z1 => ?_)
  · have h := ob_t h z1
    refine lv_iload_n hx hb dX12_factsBy_81 rfl (lv_at hl 3 rfl) ?_
    exact r_I C0 hP hS h dX12_factsBy_82
  · have h := ob_f h z1
    refine lv_aload_n hx hb dX12_factsBy_14 rfl (lv_at hl 0 rfl) ?_
    refine x_get C0 hP (lay_X12 B ct S) rfl inG12 29 (by decide) wd_1170 (fun _ h => h) rfl dX12_factsBy_15 ?_
    refine lv_iload hx hb dX12_factsBy_18 (lv_at hl 4 rfl) ?_
    refine lv_ishr hx hb dX12_factsBy_20 ?_
    refine lv_iconst (v := 1) hx hb dX12_factsBy_21 (by decide) ?_
    refine lv_iand hx hb dX12_factsBy_22 ?_
    refine lv_iconst (v := 1) hx hb dX12_factsBy_23 (by decide) ?_
    refine lv_icmp_ne (tgt := 53) hx hb dX12_factsBy_24 (by decide) (fun z2 => ?_) (fun z2 => ?_)
    · have h := ob_f h z2
      exact w_X12_factsBy_53 l C0 v1 v2 v3 v4 S n0 ih0 h hP hS (lv_sub hl [0, 1, 2, 3, 4] rfl)
    · have h := ob_t h z2
      refine lv_aload_n hx hb dX12_factsBy_27 rfl (lv_at hl 0 rfl) ?_
      refine x_get C0 hP (lay_X12 B ct S) rfl inG12 2 (by decide) wd_1143 (fun _ h => h) rfl dX12_factsBy_28 ?_
      refine lv_iload hx hb dX12_factsBy_31 (lv_at hl 4 rfl) ?_
      obtain ⟨g3, h⟩ := ob_gd h
      refine x_iald C0 hP ((fun S => lay_138 B ct S) S) g3 dX12_factsBy_33 ?_
      refine lv_iload_n hx hb dX12_factsBy_34 rfl (lv_at hl 1 rfl) ?_
      refine lv_icmp_ne (tgt := 53) hx hb dX12_factsBy_35 (by decide) (fun z4 => ?_) (fun z4 => ?_)
      · have h := ob_f h z4
        exact w_X12_factsBy_53 l C0 v1 v2 v3 v4 S n0 ih0 h hP hS (lv_sub hl [0, 1, 2, 3, 4] rfl)
      · have h := ob_t h z4
        refine lv_aload_n hx hb dX12_factsBy_38 rfl (lv_at hl 0 rfl) ?_
        refine x_get C0 hP (lay_X12 B ct S) rfl inG12 4 (by decide) wd_1145 (fun _ h => h) rfl dX12_factsBy_39 ?_
        refine lv_iload hx hb dX12_factsBy_42 (lv_at hl 4 rfl) ?_
        obtain ⟨g5, h⟩ := ob_gd h
        refine x_iald C0 hP ((fun S => lay_140 B ct S) S) g5 dX12_factsBy_44 ?_
        refine lv_iload_n hx hb dX12_factsBy_45 rfl (lv_at hl 2 rfl) ?_
        refine lv_icmp_gt (tgt := 53) hx hb dX12_factsBy_46 (by decide) (fun z6 => ?_) (fun z6 => ?_)
        · have h := ob_t h z6
          exact w_X12_factsBy_53 l C0 v1 v2 v3 v4 S n0 ih0 h hP hS (lv_sub hl [0, 1, 2, 3, 4] rfl)
        · have h := ob_f h z6
          refine lv_iconst (v := 1) hx hb dX12_factsBy_49 (by decide) ?_
          refine lv_goto (tgt := 54) hx hb dX12_factsBy_50 (by decide) ?_
          exact w_X12_factsBy_54 l C0 v1 v2 v3 v4 1 S n0 ih0 h hP hS (lv_sub hl [0, 1, 2, 3, 4] rfl)
set_option maxRecDepth 100000 in
set_option maxHeartbeats 4000000 in
theorem wl_X12_factsBy_5 (l : Launch) {V : Int32} (C0 : XC D ct p s m args meth c cX12_factsBy 6 (some .int) RX12) (S : St)  : ∀ (n0 : Nat) (v1 : Int32) (v2 : Int32) (v3 : Int32) (v4 : Int32) {H : Heap} {locs : List Loc} {ls : Array Slot}, (lp n0 (l_X12_factsBy_5 S) (v1, v2, v3, v4)).bind some = some V → MP D ct B Hb S H → va_S (AB B) s.heap H locs → lv_has ls 6 [(0, .ref (B + 136)), (1, .int v1), (2, .int v2), (3, .int v3), (4, .int v4)] → W p l e { frames := 0, cells := 0, slots := 0, locals := 0 } s m args below meth c H locs 0 0 (MQ below (qI D ct B Hb S V) args s 0 0 (AB B)) (F0 m 5 ls []) := by
  intro n0
  induction n0 with
  | zero =>
    intro v1 v2 v3 v4 H locs ls h hP hS hl
    exact (lp_0 h).elim
  | succ n0 ih0 =>
    intro v1 v2 v3 v4 H locs ls h hP hS hl
    have h := lp_s h
    exact w_X12_factsBy_5 l C0 v1 v2 v3 v4 S n0 (fun v1 v2 v3 v4 H locs ls h hP hS hl => ih0 v1 v2 v3 v4 h hP hS hl) h hP hS hl
set_option maxRecDepth 100000 in
set_option maxHeartbeats 4000000 in
theorem w_X12_factsBy_0 (l : Launch) {V : Int32} (C0 : XC D ct p s m args meth c cX12_factsBy 6 (some .int) RX12) (v1 : Int32) (v2 : Int32) (S : St) {H : Heap} {locs : List Loc} {ls : Array Slot} (h : (b_X12_factsBy_0 v1 v2 S).bind some = some V) (hP : MP D ct B Hb S H) (hS : va_S (AB B) s.heap H locs) (hl : lv_has ls 6 [(0, .ref (B + 136)), (1, .int v1), (2, .int v2)]) : W p l e { frames := 0, cells := 0, slots := 0, locals := 0 } s m args below meth c H locs 0 0 (MQ below (qI D ct B Hb S V) args s 0 0 (AB B)) (F0 m 0 ls []) := by
  obtain ⟨hx, hb, hr, hml, hown, hts, hK, hlocks, hN⟩ := id C0
  unfold b_X12_factsBy_0 at h
  refine lv_iconst (v := 0) hx hb dX12_factsBy_0 (by decide) ?_
  refine lv_istore_n (lv' := [(3, .int 0), (0, .ref (B + 136)), (1, .int v1), (2, .int v2)]) hx hb dX12_factsBy_1 rfl hl (by decide) rfl (fun ls hl => ?_)
  refine lv_iconst (v := 0) hx hb dX12_factsBy_2 (by decide) ?_
  refine lv_istore (lv' := [(4, .int 0), (3, .int 0), (0, .ref (B + 136)), (1, .int v1), (2, .int v2)]) hx hb dX12_factsBy_3 hl (by decide) rfl (fun ls hl => ?_)
  exact wl_X12_factsBy_5 l C0 S 1000 v1 v2 0 0 h hP hS (lv_sub hl [2, 3, 4, 1, 0] rfl)
set_option maxRecDepth 100000 in
set_option maxHeartbeats 4000000 in
theorem c_X12_factsBy (l : Launch) (a1 : Int32) (a2 : Int32) {D : va_G} {ct : Nat → ClassId} {B : Nat} {Hb : Heap} {S : St} {V : Int32} (h : L_X12_factsBy a1 a2 S = some V) : Met l yX12_factsBy (Cond.code yX12_factsBy cX12_factsBy 6 (some .int) :: tG) { frames := 0, cells := 0, slots := 0, locals := 0 } (va_Pc [.ref (B + 136), .int a1, .int a2] (MPK D ct B Hb S)) (qI D ct B Hb S V) 0 0 (AB B) := by
  refine mk_met (by decide +kernel) (Nat.le_of_ble_eq_true rfl) (fun p e s m args below meth c ls C0 hP hl _ => ?_)
  have h := ob_of h
  exact w_X12_factsBy_0 l C0 a1 a2 S h hP va_S.rf (lv_sub hl [0, 1, 2] rfl)
set_option maxRecDepth 100000 in
set_option maxHeartbeats 4000000 in
theorem w_X12_caseOf_0 (l : Launch) {V : Int32} (C0 : XC D ct p s m args meth c cX12_caseOf 2 (some .int) RX12) (v1 : Int32) (S : St) {H : Heap} {locs : List Loc} {ls : Array Slot} (h : (b_X12_caseOf_0 v1 S).bind some = some V) (hP : MP D ct B Hb S H) (hS : va_S (AB B) s.heap H locs) (hl : lv_has ls 2 [(0, .ref (B + 136)), (1, .int v1)]) : W p l e { frames := 0, cells := 0, slots := 0, locals := 0 } s m args below meth c H locs 0 0 (MQ below (qI D ct B Hb S V) args s 0 0 (AB B)) (F0 m 0 ls []) := by
  obtain ⟨hx, hb, hr, hml, hown, hts, hK, hlocks, hN⟩ := id C0
  unfold b_X12_caseOf_0 at h
  refine lv_iload_n hx hb dX12_caseOf_0 rfl (lv_at hl 1 rfl) ?_
  refine lv_bipush (v := 8) hx hb dX12_caseOf_1 (by decide) ?_
  refine lv_icmp_ge (tgt := 15) hx hb dX12_caseOf_3 (by decide) (fun z1 => ?_) (fun z1 => ?_)
  · have h := ob_t h z1
    refine lv_aload_n hx hb dX12_caseOf_15 rfl (lv_at hl 0 rfl) ?_
    refine x_get C0 hP (lay_X12 B ct S) rfl inG12 10 (by decide) wd_1151 (fun _ h => h) rfl dX12_caseOf_16 ?_
    refine lv_iload_n hx hb dX12_caseOf_19 rfl (lv_at hl 1 rfl) ?_
    refine lv_bipush (v := 8) hx hb dX12_caseOf_20 (by decide) ?_
    refine lv_isub hx hb dX12_caseOf_22 ?_
    obtain ⟨g2, h⟩ := ob_gd h
    refine x_iald C0 hP ((fun S => lay_142 B ct S) S) g2 dX12_caseOf_23 ?_
    exact r_I C0 hP hS h dX12_caseOf_24
  · have h := ob_f h z1
    refine lv_aload_n hx hb dX12_caseOf_6 rfl (lv_at hl 0 rfl) ?_
    refine x_get C0 hP (lay_X12 B ct S) rfl inG12 18 (by decide) wd_1159 (fun _ h => h) rfl dX12_caseOf_7 ?_
    refine lv_iload_n hx hb dX12_caseOf_10 rfl (lv_at hl 1 rfl) ?_
    obtain ⟨g3, h⟩ := ob_gd h
    refine x_iald C0 hP ((fun S => lay_149 B ct S) S) g3 dX12_caseOf_11 ?_
    refine lv_goto (tgt := 24) hx hb dX12_caseOf_12 (by decide) ?_
    exact r_I C0 hP hS h dX12_caseOf_24
set_option maxRecDepth 100000 in
set_option maxHeartbeats 4000000 in
theorem c_X12_caseOf (l : Launch) (a1 : Int32) {D : va_G} {ct : Nat → ClassId} {B : Nat} {Hb : Heap} {S : St} {V : Int32} (h : L_X12_caseOf a1 S = some V) : Met l yX12_caseOf (Cond.code yX12_caseOf cX12_caseOf 2 (some .int) :: tG) { frames := 0, cells := 0, slots := 0, locals := 0 } (va_Pc [.ref (B + 136), .int a1] (MPK D ct B Hb S)) (qI D ct B Hb S V) 0 0 (AB B) := by
  refine mk_met (by decide +kernel) (Nat.le_of_ble_eq_true rfl) (fun p e s m args below meth c ls C0 hP hl _ => ?_)
  have h := ob_of h
  exact w_X12_caseOf_0 l C0 a1 S h hP va_S.rf (lv_sub hl [0, 1] rfl)
set_option maxRecDepth 100000 in
set_option maxHeartbeats 4000000 in
theorem w_X12_leftOf_18 (l : Launch) {V : Int32} (C0 : XC D ct p s m args meth c cX12_leftOf 4 (some .int) RX12) (v1 : Int32) (v2 : Int32) (s0 : Int32) (S : St) {H : Heap} {locs : List Loc} {ls : Array Slot} (h : (b_X12_leftOf_18 v1 v2 s0 S).bind some = some V) (hP : MP D ct B Hb S H) (hS : va_S (AB B) s.heap H locs) (hl : lv_has ls 4 [(0, .ref (B + 136)), (1, .int v1), (2, .int v2)]) : W p l e { frames := 2, cells := 0, slots := 0, locals := 41 } s m args below meth c H locs 0 0 (MQ below (qI D ct B Hb S V) args s 0 0 (AB B)) (F0 m 18 ls [.int s0]) := by
  obtain ⟨hx, hb, hr, hml, hown, hts, hK, hlocks, hN⟩ := id C0
  unfold b_X12_leftOf_18 at h
  refine lv_istore_n (lv' := [(3, .int s0), (0, .ref (B + 136)), (1, .int v1), (2, .int v2)]) hx hb dX12_leftOf_18 rfl hl (by decide) rfl (fun ls hl => ?_)
  refine lv_aload_n hx hb dX12_leftOf_19 rfl (lv_at hl 1 rfl) ?_
  refine x_get C0 hP (lay_X12 B ct S) rfl inG12 39 (by decide) wd_1180 (fun _ h => h) rfl dX12_leftOf_20 ?_
  refine lv_iload_n hx hb dX12_leftOf_23 rfl (lv_at hl 2 rfl) ?_
  obtain ⟨g1, h⟩ := ob_gd h
  refine x_iald C0 hP ((fun S => lay_167 B ct S) S) g1 dX12_leftOf_24 ?_
  refine lv_iload_n hx hb dX12_leftOf_25 rfl (lv_at hl 0 rfl) ?_
  refine lv_iload_n hx hb dX12_leftOf_26 rfl (lv_at hl 3 rfl) ?_
  refine lv_aload_n hx hb dX12_leftOf_27 rfl (lv_at hl 1 rfl) ?_
  refine x_get C0 hP (lay_X12 B ct S) rfl inG12 38 (by decide) wd_1179 (fun _ h => h) rfl dX12_leftOf_28 ?_
  refine lv_iload_n hx hb dX12_leftOf_31 rfl (lv_at hl 2 rfl) ?_
  obtain ⟨g2, h⟩ := ob_gd h
  refine x_iald C0 hP ((fun S => lay_166 B ct S) S) g2 dX12_leftOf_32 ?_
  refine lv_isub hx hb dX12_leftOf_33 ?_
  refine lv_imul hx hb dX12_leftOf_34 ?_
  refine lv_isub hx hb dX12_leftOf_35 ?_
  obtain ⟨r3, hr3, h⟩ := ob_bd h
  refine n_I (kS (As := [.int ((gi S 167 v1.toNatClampNeg) - (s0 * (v2 - (gi S 166 v1.toNatClampNeg))))]) C0 (c_X12_atLeast l ((gi S 167 v1.toNatClampNeg) - (s0 * (v2 - (gi S 166 v1.toNatClampNeg)))) hr3) ⟨wd_1489, wd_1487, wd_1488, wd_6⟩ kd_X12_atLeast ⟨Nat.le_of_ble_eq_true rfl, Nat.le_of_ble_eq_true rfl⟩ hP rfl hl.1 rfl (Nat.le_of_ble_eq_true rfl) dX12_leftOf_36 ⟨Nat.le_of_ble_eq_true rfl, Nat.le_of_ble_eq_true rfl⟩) hS (fun H locs hP hS => ?_)
  exact r_I C0 hP hS h dX12_leftOf_39
set_option maxRecDepth 100000 in
set_option maxHeartbeats 4000000 in
theorem w_X12_leftOf_0 (l : Launch) {V : Int32} (C0 : XC D ct p s m args meth c cX12_leftOf 4 (some .int) RX12) (v1 : Int32) (v2 : Int32) (S : St) {H : Heap} {locs : List Loc} {ls : Array Slot} (h : (b_X12_leftOf_0 v1 v2 S).bind some = some V) (hP : MP D ct B Hb S H) (hS : va_S (AB B) s.heap H locs) (hl : lv_has ls 4 [(0, .ref (B + 136)), (1, .int v1), (2, .int v2)]) : W p l e { frames := 2, cells := 0, slots := 0, locals := 41 } s m args below meth c H locs 0 0 (MQ below (qI D ct B Hb S V) args s 0 0 (AB B)) (F0 m 0 ls []) := by
  obtain ⟨hx, hb, hr, hml, hown, hts, hK, hlocks, hN⟩ := id C0
  unfold b_X12_leftOf_0 at h
  refine lv_iload_n hx hb dX12_leftOf_0 rfl (lv_at hl 1 rfl) ?_
  refine lv_bipush (v := 8) hx hb dX12_leftOf_1 (by decide) ?_
  refine lv_icmp_ge (tgt := 14) hx hb dX12_leftOf_3 (by decide) (fun z1 => ?_) (fun z1 => ?_)
  · have h := ob_t h z1
    refine lv_aload_n hx hb dX12_leftOf_14 rfl (lv_at hl 0 rfl) ?_
    refine x_get C0 hP (lay_X12 B ct S) rfl inG12 7 (by decide) wd_1148 (fun _ h => h) rfl dX12_leftOf_15 ?_
    exact w_X12_leftOf_18 l C0 v1 v2 (gi S 136 7) S h hP hS (lv_sub hl [0, 1, 2] rfl)
  · have h := ob_f h z1
    refine lv_aload_n hx hb dX12_leftOf_6 rfl (lv_at hl 0 rfl) ?_
    refine lv_iload_n hx hb dX12_leftOf_7 rfl (lv_at hl 1 rfl) ?_
    obtain ⟨r2, hr2, h⟩ := ob_bd h
    refine n_I (kV (As := [.int v1]) C0 (c_X12_fadeOf l v1 hr2) ⟨wd_1574, wd_1571, wd_1573, wp_51, wd_6⟩ kd_X12_fadeOf ⟨Nat.le_of_ble_eq_true rfl, Nat.le_of_ble_eq_true rfl⟩ hP (lay_X12 B ct S) rfl rfl hl.1 rfl (Nat.le_of_ble_eq_true rfl) dX12_leftOf_8 ⟨Nat.le_of_ble_eq_true rfl, Nat.le_of_ble_eq_true rfl⟩) hS (fun H locs hP hS => ?_)
    refine lv_goto (tgt := 18) hx hb dX12_leftOf_11 (by decide) ?_
    exact w_X12_leftOf_18 l C0 v1 v2 r2 S h hP hS (lv_sub hl [0, 1, 2] rfl)
set_option maxRecDepth 100000 in
set_option maxHeartbeats 4000000 in
theorem c_X12_leftOf (l : Launch) (a1 : Int32) (a2 : Int32) {D : va_G} {ct : Nat → ClassId} {B : Nat} {Hb : Heap} {S : St} {V : Int32} (h : L_X12_leftOf a1 a2 S = some V) : Met l yX12_leftOf (Cond.code yX12_leftOf cX12_leftOf 4 (some .int) :: tG) { frames := 2, cells := 0, slots := 0, locals := 41 } (va_Pc [.ref (B + 136), .int a1, .int a2] (MPK D ct B Hb S)) (qI D ct B Hb S V) 0 0 (AB B) := by
  refine mk_met (by decide +kernel) (Nat.le_of_ble_eq_true rfl) (fun p e s m args below meth c ls C0 hP hl _ => ?_)
  have h := ob_of h
  exact w_X12_leftOf_0 l C0 a1 a2 S h hP va_S.rf (lv_sub hl [0, 1, 2] rfl)
set_option maxRecDepth 100000 in
set_option maxHeartbeats 4000000 in
theorem w_X12_isThere_23 (l : Launch) {V : Int32} (C0 : XC D ct p s m args meth c cX12_isThere 3 (some .boolean) RX12) (S : St) {H : Heap} {locs : List Loc} {ls : Array Slot} (h : (b_X12_isThere_23 S).bind some = some V) (hP : MP D ct B Hb S H) (hS : va_S (AB B) s.heap H locs) (hl : lv_has ls 3 []) : W p l e { frames := 0, cells := 0, slots := 0, locals := 0 } s m args below meth c H locs 0 0 (MQ below (qI D ct B Hb S V) args s 0 0 (AB B)) (F0 m 23 ls []) := by
  obtain ⟨hx, hb, hr, hml, hown, hts, hK, hlocks, hN⟩ := id C0
  unfold b_X12_isThere_23 at h
  refine lv_iconst (v := 0) hx hb dX12_isThere_23 (by decide) ?_
  exact r_Z C0 hP hS bool_0 h dX12_isThere_24
set_option maxRecDepth 100000 in
set_option maxHeartbeats 4000000 in
theorem w_X12_isThere_0 (l : Launch) {V : Int32} (C0 : XC D ct p s m args meth c cX12_isThere 3 (some .boolean) RX12) (v1 : Int32) (v2 : Int32) (S : St) {H : Heap} {locs : List Loc} {ls : Array Slot} (h : (b_X12_isThere_0 v1 v2 S).bind some = some V) (hP : MP D ct B Hb S H) (hS : va_S (AB B) s.heap H locs) (hl : lv_has ls 3 [(0, .ref (B + 136)), (1, .int v1), (2, .int v2)]) : W p l e { frames := 0, cells := 0, slots := 0, locals := 0 } s m args below meth c H locs 0 0 (MQ below (qI D ct B Hb S V) args s 0 0 (AB B)) (F0 m 0 ls []) := by
  obtain ⟨hx, hb, hr, hml, hown, hts, hK, hlocks, hN⟩ := id C0
  unfold b_X12_isThere_0 at h
  refine lv_aload_n hx hb dX12_isThere_0 rfl (lv_at hl 0 rfl) ?_
  refine x_get C0 hP (lay_X12 B ct S) rfl inG12 38 (by decide) wd_1179 (fun _ h => h) rfl dX12_isThere_1 ?_
  refine lv_iload_n hx hb dX12_isThere_4 rfl (lv_at hl 1 rfl) ?_
  obtain ⟨g1, h⟩ := ob_gd h
  refine x_iald C0 hP ((fun S => lay_166 B ct S) S) g1 dX12_isThere_5 ?_
  refine lv_if_lt (tgt := 23) hx hb dX12_isThere_6 (by decide) (fun z2 => ?_) (fun z2 => ?_)
  · have h := ob_t h z2
    exact w_X12_isThere_23 l C0 S h hP hS (lv_sub hl [] rfl)
  · have h := ob_f h z2
    refine lv_aload_n hx hb dX12_isThere_9 rfl (lv_at hl 0 rfl) ?_
    refine x_get C0 hP (lay_X12 B ct S) rfl inG12 38 (by decide) wd_1179 (fun _ h => h) rfl dX12_isThere_10 ?_
    refine lv_iload_n hx hb dX12_isThere_13 rfl (lv_at hl 1 rfl) ?_
    obtain ⟨g3, h⟩ := ob_gd h
    refine x_iald C0 hP ((fun S => lay_166 B ct S) S) g3 dX12_isThere_14 ?_
    refine lv_iload_n hx hb dX12_isThere_15 rfl (lv_at hl 2 rfl) ?_
    refine lv_icmp_gt (tgt := 23) hx hb dX12_isThere_16 (by decide) (fun z4 => ?_) (fun z4 => ?_)
    · have h := ob_t h z4
      exact w_X12_isThere_23 l C0 S h hP hS (lv_sub hl [] rfl)
    · have h := ob_f h z4
      refine lv_iconst (v := 1) hx hb dX12_isThere_19 (by decide) ?_
      refine lv_goto (tgt := 24) hx hb dX12_isThere_20 (by decide) ?_
      exact r_Z C0 hP hS bool_1 h dX12_isThere_24
set_option maxRecDepth 100000 in
set_option maxHeartbeats 4000000 in
theorem c_X12_isThere (l : Launch) (a1 : Int32) (a2 : Int32) {D : va_G} {ct : Nat → ClassId} {B : Nat} {Hb : Heap} {S : St} {V : Int32} (h : L_X12_isThere a1 a2 S = some V) : Met l yX12_isThere (Cond.code yX12_isThere cX12_isThere 3 (some .boolean) :: tG) { frames := 0, cells := 0, slots := 0, locals := 0 } (va_Pc [.ref (B + 136), .int a1, .int a2] (MPK D ct B Hb S)) (qI D ct B Hb S V) 0 0 (AB B) := by
  refine mk_met (by decide +kernel) (Nat.le_of_ble_eq_true rfl) (fun p e s m args below meth c ls C0 hP hl _ => ?_)
  have h := ob_of h
  exact w_X12_isThere_0 l C0 a1 a2 S h hP va_S.rf (lv_sub hl [0, 1, 2] rfl)
set_option maxRecDepth 100000 in
set_option maxHeartbeats 4000000 in
theorem w_X12_comeForSale_28 (l : Launch) {V : St} (C0 : XC D ct p s m args meth c cX12_comeForSale 6 none RX12) (v1 : Int32) (v2 : Int32) (s0 : Int32) (S : St) {H : Heap} {locs : List Loc} {ls : Array Slot} (h : (b_X12_comeForSale_28 v1 v2 s0 S).bind some = some V) (hP : MP D ct B Hb S H) (hS : va_S (AB B) s.heap H locs) (hl : lv_has ls 6 [(0, .ref (B + 136)), (1, .int v1), (2, .int v2)]) : W p l e { frames := 2, cells := 0, slots := 0, locals := 43 } s m args below meth c H locs 0 0 (MQ below (qVw D ct B Hb V) args s 0 0 (AB B)) (F0 m 28 ls [.int s0]) := by
  obtain ⟨hx, hb, hr, hml, hown, hts, hK, hlocks, hN⟩ := id C0
  unfold b_X12_comeForSale_28 at h
  refine lv_istore_n (lv' := [(3, .int s0), (0, .ref (B + 136)), (1, .int v1), (2, .int v2)]) hx hb dX12_comeForSale_28 rfl hl (by decide) rfl (fun ls hl => ?_)
  refine lv_aload_n hx hb dX12_comeForSale_29 rfl (lv_at hl 1 rfl) ?_
  refine x_get C0 hP (lay_X12 B ct S) rfl inG12 31 (by decide) wd_1172 (fun _ h => h) rfl dX12_comeForSale_30 ?_
  refine lv_iload_n hx hb dX12_comeForSale_33 rfl (lv_at hl 2 rfl) ?_
  obtain ⟨g1, h⟩ := ob_gd h
  refine x_zald C0 hP ((fun S => lay_159 B ct S) S) g1 dX12_comeForSale_34 ?_
  refine lv_if_eq (tgt := 43) hx hb dX12_comeForSale_35 (by decide) (fun z2 => ?_) (fun z2 => ?_)
  · have h := ob_t h z2
    exact r_Vw C0 hP hS h dX12_comeForSale_43
  · have h := ob_f h z2
    refine lv_iload_n hx hb dX12_comeForSale_38 rfl (lv_at hl 0 rfl) ?_
    refine lv_iload_n hx hb dX12_comeForSale_39 rfl (lv_at hl 3 rfl) ?_
    refine lv_icmp_eq (tgt := 44) hx hb dX12_comeForSale_40 (by decide) (fun z3 => ?_) (fun z3 => ?_)
    · have h := ob_t h z3
      refine lv_aload_n hx hb dX12_comeForSale_44 rfl (lv_at hl 1 rfl) ?_
      refine lv_iload_n hx hb dX12_comeForSale_45 rfl (lv_at hl 2 rfl) ?_
      refine lv_aload_n hx hb dX12_comeForSale_46 rfl (lv_at hl 1 rfl) ?_
      refine x_get C0 hP (lay_X12 B ct S) rfl inG12 20 (by decide) wd_1161 (fun _ h => h) rfl dX12_comeForSale_47 ?_
      refine lv_iload_n hx hb dX12_comeForSale_50 rfl (lv_at hl 2 rfl) ?_
      obtain ⟨g4, h⟩ := ob_gd h
      refine x_iald C0 hP ((fun S => lay_151 B ct S) S) g4 dX12_comeForSale_51 ?_
      refine lv_aload_n hx hb dX12_comeForSale_52 rfl (lv_at hl 1 rfl) ?_
      refine lv_aload_n hx hb dX12_comeForSale_53 rfl (lv_at hl 1 rfl) ?_
      refine x_get C0 hP (lay_X12 B ct S) rfl inG12 18 (by decide) wd_1159 (fun _ h => h) rfl dX12_comeForSale_54 ?_
      refine lv_iload_n hx hb dX12_comeForSale_57 rfl (lv_at hl 2 rfl) ?_
      obtain ⟨g5, h⟩ := ob_gd h
      refine x_iald C0 hP ((fun S => lay_149 B ct S) S) g5 dX12_comeForSale_58 ?_
      refine lv_iload_n hx hb dX12_comeForSale_59 rfl (lv_at hl 3 rfl) ?_
      obtain ⟨r6, hr6, h⟩ := ob_bd h
      refine n_I (kV (As := [.int (gi S 149 v1.toNatClampNeg), .int v2]) C0 (c_X12_factsBy l (gi S 149 v1.toNatClampNeg) v2 hr6) ⟨wd_1547, wd_1544, wd_1546, wp_45, wd_6⟩ kd_X12_factsBy ⟨Nat.le_of_ble_eq_true rfl, Nat.le_of_ble_eq_true rfl⟩ hP (lay_X12 B ct S) rfl rfl hl.1 rfl (Nat.le_of_ble_eq_true rfl) dX12_comeForSale_60 ⟨Nat.le_of_ble_eq_true rfl, Nat.le_of_ble_eq_true rfl⟩) hS (fun H locs hP hS => ?_)
      obtain ⟨r7, hr7, h⟩ := ob_bd h
      refine n_I (kV (As := [.int v1, .int (gi S 151 v1.toNatClampNeg), .int r6]) C0 (c_X12_sumOf l v1 (gi S 151 v1.toNatClampNeg) r6 hr7) ⟨wd_1464, wd_1461, wd_1463, wp_39, wd_6⟩ kd_X12_sumOf ⟨Nat.le_of_ble_eq_true rfl, Nat.le_of_ble_eq_true rfl⟩ hP (lay_X12 B ct S) rfl rfl hl.1 rfl (Nat.le_of_ble_eq_true rfl) dX12_comeForSale_63 ⟨Nat.le_of_ble_eq_true rfl, Nat.le_of_ble_eq_true rfl⟩) hS (fun H locs hP hS => ?_)
      refine lv_istore (lv' := [(4, .int r7), (3, .int s0), (0, .ref (B + 136)), (1, .int v1), (2, .int v2)]) hx hb dX12_comeForSale_66 hl (by decide) rfl (fun ls hl => ?_)
      refine lv_iload hx hb dX12_comeForSale_68 (lv_at hl 0 rfl) ?_
      obtain ⟨r8, hr8, h⟩ := ob_bd h
      refine n_I (kS (As := [.int r7]) C0 (c_X12_sideOf l r7 hr8) ⟨wd_1550, wd_1548, wd_1549, wd_6⟩ kd_X12_sideOf ⟨Nat.le_of_ble_eq_true rfl, Nat.le_of_ble_eq_true rfl⟩ hP rfl hl.1 rfl (Nat.le_of_ble_eq_true rfl) dX12_comeForSale_70 ⟨Nat.le_of_ble_eq_true rfl, Nat.le_of_ble_eq_true rfl⟩) hS (fun H locs hP hS => ?_)
      refine lv_istore (lv' := [(5, .int r8), (4, .int r7), (3, .int s0), (0, .ref (B + 136)), (1, .int v1), (2, .int v2)]) hx hb dX12_comeForSale_73 hl (by decide) rfl (fun ls hl => ?_)
      refine lv_iload hx hb dX12_comeForSale_75 (lv_at hl 0 rfl) ?_
      refine lv_if_eq (tgt := 126) hx hb dX12_comeForSale_77 (by decide) (fun z9 => ?_) (fun z9 => ?_)
      · have h := ob_t h z9
        exact r_Vw C0 hP hS h dX12_comeForSale_126
      · have h := ob_f h z9
        refine lv_iload hx hb dX12_comeForSale_80 (lv_at hl 0 rfl) ?_
        refine lv_aload_n hx hb dX12_comeForSale_82 rfl (lv_at hl 3 rfl) ?_
        refine x_get C0 hP (lay_X12 B ct S) rfl inG12 32 (by decide) wd_1173 (fun _ h => h) rfl dX12_comeForSale_83 ?_
        refine lv_iload_n hx hb dX12_comeForSale_86 rfl (lv_at hl 4 rfl) ?_
        obtain ⟨g10, h⟩ := ob_gd h
        refine x_iald C0 hP ((fun S => lay_160 B ct S) S) g10 dX12_comeForSale_87 ?_
        refine lv_icmp_eq (tgt := 126) hx hb dX12_comeForSale_88 (by decide) (fun z11 => ?_) (fun z11 => ?_)
        · have h := ob_t h z11
          exact r_Vw C0 hP hS h dX12_comeForSale_126
        · have h := ob_f h z11
          refine lv_aload_n hx hb dX12_comeForSale_91 rfl (lv_at hl 3 rfl) ?_
          refine x_get C0 hP (lay_X12 B ct S) rfl inG12 37 (by decide) wd_1178 (fun _ h => h) rfl dX12_comeForSale_92 ?_
          refine lv_iload_n hx hb dX12_comeForSale_95 rfl (lv_at hl 4 rfl) ?_
          refine lv_iconst (v := 1) hx hb dX12_comeForSale_96 (by decide) ?_
          obtain ⟨g12, h⟩ := ob_gd h
          obtain ⟨S13, eS13, h⟩ := ob_nm h
          refine x_zast C0 hP hS (fun S => lay_165 B ct S) bool_1 g12 dX12_comeForSale_97 (fun H locs hP hS => ?_)
          rw [← eS13] at hP
          refine lv_aload_n hx hb dX12_comeForSale_98 rfl (lv_at hl 3 rfl) ?_
          refine x_get C0 hP (lay_X12 B ct S13) rfl inG12 38 (by decide) wd_1179 (fun _ h => h) rfl dX12_comeForSale_99 ?_
          refine lv_iload_n hx hb dX12_comeForSale_102 rfl (lv_at hl 4 rfl) ?_
          refine lv_iload_n hx hb dX12_comeForSale_103 rfl (lv_at hl 5 rfl) ?_
          obtain ⟨g14, h⟩ := ob_gd h
          obtain ⟨S15, eS15, h⟩ := ob_nm h
          refine x_iast C0 hP hS (fun S => lay_166 B ct S) g14 dX12_comeForSale_104 (fun H locs hP hS => ?_)
          rw [← eS15] at hP
          refine lv_aload_n hx hb dX12_comeForSale_105 rfl (lv_at hl 3 rfl) ?_
          refine x_get C0 hP (lay_X12 B ct S15) rfl inG12 39 (by decide) wd_1180 (fun _ h => h) rfl dX12_comeForSale_106 ?_
          refine lv_iload_n hx hb dX12_comeForSale_109 rfl (lv_at hl 4 rfl) ?_
          refine lv_aload_n hx hb dX12_comeForSale_110 rfl (lv_at hl 3 rfl) ?_
          refine lv_iload_n hx hb dX12_comeForSale_111 rfl (lv_at hl 4 rfl) ?_
          refine lv_iload hx hb dX12_comeForSale_112 (lv_at hl 1 rfl) ?_
          obtain ⟨r16, hr16, h⟩ := ob_bd h
          refine n_I (kV (As := [.int v1, .int r7]) C0 (c_X12_strengthOf l v1 r7 hr16) ⟨wd_1475, wd_1472, wd_1474, wp_40, wd_6⟩ kd_X12_strengthOf ⟨Nat.le_of_ble_eq_true rfl, Nat.le_of_ble_eq_true rfl⟩ hP (lay_X12 B ct S15) rfl rfl hl.1 rfl (Nat.le_of_ble_eq_true rfl) dX12_comeForSale_114 ⟨Nat.le_of_ble_eq_true rfl, Nat.le_of_ble_eq_true rfl⟩) hS (fun H locs hP hS => ?_)
          obtain ⟨g17, h⟩ := ob_gd h
          obtain ⟨S18, eS18, h⟩ := ob_nm h
          refine x_iast C0 hP hS (fun S => lay_167 B ct S) g17 dX12_comeForSale_117 (fun H locs hP hS => ?_)
          rw [← eS18] at hP
          refine lv_aload_n hx hb dX12_comeForSale_118 rfl (lv_at hl 3 rfl) ?_
          refine x_get C0 hP (lay_X12 B ct S18) rfl inG12 40 (by decide) wd_1181 (fun _ h => h) rfl dX12_comeForSale_119 ?_
          refine lv_iload_n hx hb dX12_comeForSale_122 rfl (lv_at hl 4 rfl) ?_
          refine lv_iload hx hb dX12_comeForSale_123 (lv_at hl 0 rfl) ?_
          obtain ⟨g19, h⟩ := ob_gd h
          obtain ⟨S20, eS20, h⟩ := ob_nm h
          refine x_iast C0 hP hS (fun S => lay_168 B ct S) g19 dX12_comeForSale_125 (fun H locs hP hS => ?_)
          rw [← eS20] at hP
          exact r_Vw C0 hP hS h dX12_comeForSale_126
    · have h := ob_f h z3
      exact r_Vw C0 hP hS h dX12_comeForSale_43
set_option maxRecDepth 100000 in
set_option maxHeartbeats 4000000 in
theorem w_X12_comeForSale_0 (l : Launch) {V : St} (C0 : XC D ct p s m args meth c cX12_comeForSale 6 none RX12) (v1 : Int32) (v2 : Int32) (S : St) {H : Heap} {locs : List Loc} {ls : Array Slot} (h : (b_X12_comeForSale_0 v1 v2 S).bind some = some V) (hP : MP D ct B Hb S H) (hS : va_S (AB B) s.heap H locs) (hl : lv_has ls 6 [(0, .ref (B + 136)), (1, .int v1), (2, .int v2)]) : W p l e { frames := 2, cells := 0, slots := 0, locals := 43 } s m args below meth c H locs 0 0 (MQ below (qVw D ct B Hb V) args s 0 0 (AB B)) (F0 m 0 ls []) := by
  obtain ⟨hx, hb, hr, hml, hown, hts, hK, hlocks, hN⟩ := id C0
  unfold b_X12_comeForSale_0 at h
  refine lv_aload_n hx hb dX12_comeForSale_0 rfl (lv_at hl 0 rfl) ?_
  refine lv_iload_n hx hb dX12_comeForSale_1 rfl (lv_at hl 1 rfl) ?_
  obtain ⟨r1, hr1, h⟩ := ob_bd h
  refine n_I (kV (As := [.int v1]) C0 (c_X12_dueOf l v1 hr1) ⟨wd_1452, wd_1449, wd_1451, wp_38, wd_6⟩ kd_X12_dueOf ⟨Nat.le_of_ble_eq_true rfl, Nat.le_of_ble_eq_true rfl⟩ hP (lay_X12 B ct S) rfl rfl hl.1 rfl (Nat.le_of_ble_eq_true rfl) dX12_comeForSale_2 ⟨Nat.le_of_ble_eq_true rfl, Nat.le_of_ble_eq_true rfl⟩) hS (fun H locs hP hS => ?_)
  refine lv_iconst (v := 1) hx hb dX12_comeForSale_5 (by decide) ?_
  refine lv_iadd hx hb dX12_comeForSale_6 ?_
  refine lv_aload_n hx hb dX12_comeForSale_7 rfl (lv_at hl 0 rfl) ?_
  refine x_get C0 hP (lay_X12 B ct S) rfl inG12 6 (by decide) wd_1147 (fun _ h => h) rfl dX12_comeForSale_8 ?_
  refine lv_icmp_le (tgt := 24) hx hb dX12_comeForSale_11 (by decide) (fun z2 => ?_) (fun z2 => ?_)
  · have h := ob_t h z2
    refine lv_aload_n hx hb dX12_comeForSale_24 rfl (lv_at hl 0 rfl) ?_
    refine x_get C0 hP (lay_X12 B ct S) rfl inG12 6 (by decide) wd_1147 (fun _ h => h) rfl dX12_comeForSale_25 ?_
    exact w_X12_comeForSale_28 l C0 v1 v2 (gi S 136 6) S h hP hS (lv_sub hl [0, 1, 2] rfl)
  · have h := ob_f h z2
    refine lv_aload_n hx hb dX12_comeForSale_14 rfl (lv_at hl 0 rfl) ?_
    refine lv_iload_n hx hb dX12_comeForSale_15 rfl (lv_at hl 1 rfl) ?_
    obtain ⟨r3, hr3, h⟩ := ob_bd h
    refine n_I (kV (As := [.int v1]) C0 (c_X12_dueOf l v1 hr3) ⟨wd_1452, wd_1449, wd_1451, wp_38, wd_6⟩ kd_X12_dueOf ⟨Nat.le_of_ble_eq_true rfl, Nat.le_of_ble_eq_true rfl⟩ hP (lay_X12 B ct S) rfl rfl hl.1 rfl (Nat.le_of_ble_eq_true rfl) dX12_comeForSale_16 ⟨Nat.le_of_ble_eq_true rfl, Nat.le_of_ble_eq_true rfl⟩) hS (fun H locs hP hS => ?_)
    refine lv_iconst (v := 1) hx hb dX12_comeForSale_19 (by decide) ?_
    refine lv_iadd hx hb dX12_comeForSale_20 ?_
    refine lv_goto (tgt := 28) hx hb dX12_comeForSale_21 (by decide) ?_
    exact w_X12_comeForSale_28 l C0 v1 v2 (r3 + 1) S h hP hS (lv_sub hl [0, 1, 2] rfl)
set_option maxRecDepth 100000 in
set_option maxHeartbeats 4000000 in
theorem c_X12_comeForSale (l : Launch) (a1 : Int32) (a2 : Int32) {D : va_G} {ct : Nat → ClassId} {B : Nat} {Hb : Heap} {S : St} {V : St} (h : L_X12_comeForSale a1 a2 S = some V) : Met l yX12_comeForSale (Cond.code yX12_comeForSale cX12_comeForSale 6 none :: tG) { frames := 2, cells := 0, slots := 0, locals := 43 } (va_Pc [.ref (B + 136), .int a1, .int a2] (MPK D ct B Hb S)) (qVw D ct B Hb V) 0 0 (AB B) := by
  refine mk_met (by decide +kernel) (Nat.le_of_ble_eq_true rfl) (fun p e s m args below meth c ls C0 hP hl _ => ?_)
  have h := ob_of h
  exact w_X12_comeForSale_0 l C0 a1 a2 S h hP va_S.rf (lv_sub hl [0, 1, 2] rfl)
set_option maxRecDepth 100000 in
set_option maxHeartbeats 4000000 in
theorem w_X12_askedFor_0 (l : Launch) {V : Int32} (C0 : XC D ct p s m args meth c cX12_askedFor 3 (some .int) RX12) (v1 : Int32) (v2 : Int32) (S : St) {H : Heap} {locs : List Loc} {ls : Array Slot} (h : (b_X12_askedFor_0 v1 v2 S).bind some = some V) (hP : MP D ct B Hb S H) (hS : va_S (AB B) s.heap H locs) (hl : lv_has ls 3 [(0, .ref (B + 136)), (1, .int v1), (2, .int v2)]) : W p l e { frames := 3, cells := 0, slots := 0, locals := 64 } s m args below meth c H locs 0 0 (MQ below (qI D ct B Hb S V) args s 0 0 (AB B)) (F0 m 0 ls []) := by
  obtain ⟨hx, hb, hr, hml, hown, hts, hK, hlocks, hN⟩ := id C0
  unfold b_X12_askedFor_0 at h
  refine lv_iload_n hx hb dX12_askedFor_0 rfl (lv_at hl 1 rfl) ?_
  refine lv_bipush (v := 8) hx hb dX12_askedFor_1 (by decide) ?_
  refine lv_icmp_ge (tgt := 20) hx hb dX12_askedFor_3 (by decide) (fun z1 => ?_) (fun z1 => ?_)
  · have h := ob_t h z1
    refine lv_aload_n hx hb dX12_askedFor_20 rfl (lv_at hl 0 rfl) ?_
    refine x_get C0 hP (lay_X12 B ct S) rfl inG12 13 (by decide) wd_1154 (fun _ h => h) rfl dX12_askedFor_21 ?_
    refine lv_iload_n hx hb dX12_askedFor_24 rfl (lv_at hl 1 rfl) ?_
    refine lv_bipush (v := 8) hx hb dX12_askedFor_25 (by decide) ?_
    refine lv_isub hx hb dX12_askedFor_27 ?_
    obtain ⟨g2, h⟩ := ob_gd h
    refine x_iald C0 hP ((fun S => lay_145 B ct S) S) g2 dX12_askedFor_28 ?_
    exact r_I C0 hP hS h dX12_askedFor_29
  · have h := ob_f h z1
    refine lv_aload_n hx hb dX12_askedFor_6 rfl (lv_at hl 0 rfl) ?_
    refine lv_iload_n hx hb dX12_askedFor_7 rfl (lv_at hl 1 rfl) ?_
    refine lv_aload_n hx hb dX12_askedFor_8 rfl (lv_at hl 0 rfl) ?_
    refine lv_iload_n hx hb dX12_askedFor_9 rfl (lv_at hl 1 rfl) ?_
    refine lv_iload_n hx hb dX12_askedFor_10 rfl (lv_at hl 2 rfl) ?_
    obtain ⟨r3, hr3, h⟩ := ob_bd h
    refine n_I (kV (As := [.int v1, .int v2]) C0 (c_X12_leftOf l v1 v2 hr3) ⟨wd_1570, wd_1567, wd_1569, wp_50, wd_6⟩ kd_X12_leftOf ⟨Nat.le_of_ble_eq_true rfl, Nat.le_of_ble_eq_true rfl⟩ hP (lay_X12 B ct S) rfl rfl hl.1 rfl (Nat.le_of_ble_eq_true rfl) dX12_askedFor_11 ⟨Nat.le_of_ble_eq_true rfl, Nat.le_of_ble_eq_true rfl⟩) hS (fun H locs hP hS => ?_)
    obtain ⟨r4, hr4, h⟩ := ob_bd h
    refine n_I (kV (As := [.int v1, .int r3]) C0 (c_X12_priceOf l v1 r3 hr4) ⟨wd_1486, wd_1483, wd_1485, wp_41, wd_6⟩ kd_X12_priceOf ⟨Nat.le_of_ble_eq_true rfl, Nat.le_of_ble_eq_true rfl⟩ hP (lay_X12 B ct S) rfl rfl hl.1 rfl (Nat.le_of_ble_eq_true rfl) dX12_askedFor_14 ⟨Nat.le_of_ble_eq_true rfl, Nat.le_of_ble_eq_true rfl⟩) hS (fun H locs hP hS => ?_)
    refine lv_goto (tgt := 29) hx hb dX12_askedFor_17 (by decide) ?_
    exact r_I C0 hP hS h dX12_askedFor_29
set_option maxRecDepth 100000 in
set_option maxHeartbeats 4000000 in
theorem c_X12_askedFor (l : Launch) (a1 : Int32) (a2 : Int32) {D : va_G} {ct : Nat → ClassId} {B : Nat} {Hb : Heap} {S : St} {V : Int32} (h : L_X12_askedFor a1 a2 S = some V) : Met l yX12_askedFor (Cond.code yX12_askedFor cX12_askedFor 3 (some .int) :: tG) { frames := 3, cells := 0, slots := 0, locals := 64 } (va_Pc [.ref (B + 136), .int a1, .int a2] (MPK D ct B Hb S)) (qI D ct B Hb S V) 0 0 (AB B) := by
  refine mk_met (by decide +kernel) (Nat.le_of_ble_eq_true rfl) (fun p e s m args below meth c ls C0 hP hl _ => ?_)
  have h := ob_of h
  exact w_X12_askedFor_0 l C0 a1 a2 S h hP va_S.rf (lv_sub hl [0, 1, 2] rfl)
end WALKS
