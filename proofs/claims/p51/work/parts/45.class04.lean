theorem dX11_comes_0 : decode cX11_comes 0 = .ok (.iload_n 1, 1) := by decide +kernel
theorem dX11_comes_1 : decode cX11_comes 1 = .ok (.invokestatic 127, 3) := by decide +kernel
theorem dX11_comes_4 : decode cX11_comes 4 = .ok (.ifCond .ne 15, 3) := by decide +kernel
theorem dX11_comes_7 : decode cX11_comes 7 = .ok (.iload_n 2, 1) := by decide +kernel
theorem dX11_comes_8 : decode cX11_comes 8 = .ok (.iload_n 3, 1) := by decide +kernel
theorem dX11_comes_9 : decode cX11_comes 9 = .ok (.iload 4, 2) := by decide +kernel
theorem dX11_comes_11 : decode cX11_comes 11 = .ok (.iload 5, 2) := by decide +kernel
theorem dX11_comes_13 : decode cX11_comes 13 = .ok (.invokestatic 130, 3) := by decide +kernel
theorem dX11_comes_16 : decode cX11_comes 16 = .ok (.ifCond .eq 5, 3) := by decide +kernel
theorem dX11_comes_19 : decode cX11_comes 19 = .ok (.iconst (-1), 1) := by decide +kernel
theorem dX11_comes_20 : decode cX11_comes 20 = .ok (.ireturn, 1) := by decide +kernel
theorem dX11_comes_21 : decode cX11_comes 21 = .ok (.aload_n 0, 1) := by decide +kernel
theorem dX11_comes_22 : decode cX11_comes 22 = .ok (.iload_n 1, 1) := by decide +kernel
theorem dX11_comes_23 : decode cX11_comes 23 = .ok (.iconst 1, 1) := by decide +kernel
theorem dX11_comes_24 : decode cX11_comes 24 = .ok (.invokevirtual 66, 3) := by decide +kernel
theorem dX11_comes_27 : decode cX11_comes 27 = .ok (.istore 6, 2) := by decide +kernel
theorem dX11_comes_29 : decode cX11_comes 29 = .ok (.iload 6, 2) := by decide +kernel
theorem dX11_comes_31 : decode cX11_comes 31 = .ok (.ifCond .eq 8, 3) := by decide +kernel
theorem dX11_comes_34 : decode cX11_comes 34 = .ok (.iload 6, 2) := by decide +kernel
theorem dX11_comes_36 : decode cX11_comes 36 = .ok (.goto 22, 3) := by decide +kernel
theorem dX11_comes_39 : decode cX11_comes 39 = .ok (.aload_n 0, 1) := by decide +kernel
theorem dX11_comes_40 : decode cX11_comes 40 = .ok (.getfield 12, 3) := by decide +kernel
theorem dX11_comes_43 : decode cX11_comes 43 = .ok (.aload_n 0, 1) := by decide +kernel
theorem dX11_comes_44 : decode cX11_comes 44 = .ok (.getfield 41, 3) := by decide +kernel
theorem dX11_comes_47 : decode cX11_comes 47 = .ok (.iload_n 1, 1) := by decide +kernel
theorem dX11_comes_48 : decode cX11_comes 48 = .ok (.aaload, 1) := by decide +kernel
theorem dX11_comes_49 : decode cX11_comes 49 = .ok (.iload_n 2, 1) := by decide +kernel
theorem dX11_comes_50 : decode cX11_comes 50 = .ok (.iload_n 3, 1) := by decide +kernel
theorem dX11_comes_51 : decode cX11_comes 51 = .ok (.iload 4, 2) := by decide +kernel
theorem dX11_comes_53 : decode cX11_comes 53 = .ok (.iload 5, 2) := by decide +kernel
theorem dX11_comes_55 : decode cX11_comes 55 = .ok (.invokevirtual 134, 3) := by decide +kernel
theorem dX11_comes_58 : decode cX11_comes 58 = .ok (.ireturn, 1) := by decide +kernel
theorem dX11_fact_0 : decode cX11_fact 0 = .ok (.aload_n 0, 1) := by decide +kernel
theorem dX11_fact_1 : decode cX11_fact 1 = .ok (.getfield 12, 3) := by decide +kernel
theorem dX11_fact_4 : decode cX11_fact 4 = .ok (.iload_n 1, 1) := by decide +kernel
theorem dX11_fact_5 : decode cX11_fact 5 = .ok (.iload_n 2, 1) := by decide +kernel
theorem dX11_fact_6 : decode cX11_fact 6 = .ok (.iload_n 3, 1) := by decide +kernel
theorem dX11_fact_7 : decode cX11_fact 7 = .ok (.invokevirtual 141, 3) := by decide +kernel
theorem dX11_fact_10 : decode cX11_fact 10 = .ok (.ireturn, 1) := by decide +kernel
theorem dX11_isNoFact_0 : decode cX11_isNoFact 0 = .ok (.iload_n 1, 1) := by decide +kernel
theorem dX11_isNoFact_1 : decode cX11_isNoFact 1 = .ok (.ifCond .lt 14, 3) := by decide +kernel
theorem dX11_isNoFact_4 : decode cX11_isNoFact 4 = .ok (.iload_n 1, 1) := by decide +kernel
theorem dX11_isNoFact_5 : decode cX11_isNoFact 5 = .ok (.aload_n 0, 1) := by decide +kernel
theorem dX11_isNoFact_6 : decode cX11_isNoFact 6 = .ok (.getfield 12, 3) := by decide +kernel
theorem dX11_isNoFact_9 : decode cX11_isNoFact 9 = .ok (.getfield 196, 3) := by decide +kernel
theorem dX11_isNoFact_12 : decode cX11_isNoFact 12 = .ok (.if_icmp .lt 7, 3) := by decide +kernel
theorem dX11_isNoFact_15 : decode cX11_isNoFact 15 = .ok (.iconst 1, 1) := by decide +kernel
theorem dX11_isNoFact_16 : decode cX11_isNoFact 16 = .ok (.goto 4, 3) := by decide +kernel
theorem dX11_isNoFact_19 : decode cX11_isNoFact 19 = .ok (.iconst 0, 1) := by decide +kernel
theorem dX11_isNoFact_20 : decode cX11_isNoFact 20 = .ok (.ireturn, 1) := by decide +kernel
theorem dX11_chance_0 : decode cX11_chance 0 = .ok (.aload_n 0, 1) := by decide +kernel
theorem dX11_chance_1 : decode cX11_chance 1 = .ok (.iload_n 1, 1) := by decide +kernel
theorem dX11_chance_2 : decode cX11_chance 2 = .ok (.invokevirtual 145, 3) := by decide +kernel
theorem dX11_chance_5 : decode cX11_chance 5 = .ok (.ifCond .ne 13, 3) := by decide +kernel
theorem dX11_chance_8 : decode cX11_chance 8 = .ok (.iload_n 2, 1) := by decide +kernel
theorem dX11_chance_9 : decode cX11_chance 9 = .ok (.iconst 0, 1) := by decide +kernel
theorem dX11_chance_10 : decode cX11_chance 10 = .ok (.bipush 10, 2) := by decide +kernel
theorem dX11_chance_12 : decode cX11_chance 12 = .ok (.invokestatic 110, 3) := by decide +kernel
theorem dX11_chance_15 : decode cX11_chance 15 = .ok (.ifCond .eq 5, 3) := by decide +kernel
theorem dX11_chance_18 : decode cX11_chance 18 = .ok (.iconst (-1), 1) := by decide +kernel
theorem dX11_chance_19 : decode cX11_chance 19 = .ok (.ireturn, 1) := by decide +kernel
theorem dX11_chance_20 : decode cX11_chance 20 = .ok (.aload_n 0, 1) := by decide +kernel
theorem dX11_chance_21 : decode cX11_chance 21 = .ok (.getfield 12, 3) := by decide +kernel
theorem dX11_chance_24 : decode cX11_chance 24 = .ok (.getfield 157, 3) := by decide +kernel
theorem dX11_chance_27 : decode cX11_chance 27 = .ok (.iload_n 1, 1) := by decide +kernel
theorem dX11_chance_28 : decode cX11_chance 28 = .ok (.iaload, 1) := by decide +kernel
theorem dX11_chance_29 : decode cX11_chance 29 = .ok (.istore_n 3, 1) := by decide +kernel
theorem dX11_chance_30 : decode cX11_chance 30 = .ok (.aload_n 0, 1) := by decide +kernel
theorem dX11_chance_31 : decode cX11_chance 31 = .ok (.getfield 12, 3) := by decide +kernel
theorem dX11_chance_34 : decode cX11_chance 34 = .ok (.getfield 157, 3) := by decide +kernel
theorem dX11_chance_37 : decode cX11_chance 37 = .ok (.iload_n 1, 1) := by decide +kernel
theorem dX11_chance_38 : decode cX11_chance 38 = .ok (.iload_n 2, 1) := by decide +kernel
theorem dX11_chance_39 : decode cX11_chance 39 = .ok (.iastore, 1) := by decide +kernel
theorem dX11_chance_40 : decode cX11_chance 40 = .ok (.iload_n 3, 1) := by decide +kernel
theorem dX11_chance_41 : decode cX11_chance 41 = .ok (.ireturn, 1) := by decide +kernel
theorem dX11_kin_0 : decode cX11_kin 0 = .ok (.aload_n 0, 1) := by decide +kernel
theorem dX11_kin_1 : decode cX11_kin 1 = .ok (.getfield 12, 3) := by decide +kernel
theorem dX11_kin_4 : decode cX11_kin 4 = .ok (.iload_n 1, 1) := by decide +kernel
theorem dX11_kin_5 : decode cX11_kin 5 = .ok (.iload_n 2, 1) := by decide +kernel
theorem dX11_kin_6 : decode cX11_kin 6 = .ok (.invokevirtual 160, 3) := by decide +kernel
theorem dX11_kin_9 : decode cX11_kin 9 = .ok (.ireturn, 1) := by decide +kernel
theorem dX11_set_0 : decode cX11_set 0 = .ok (.aload_n 0, 1) := by decide +kernel
theorem dX11_set_1 : decode cX11_set 1 = .ok (.getfield 12, 3) := by decide +kernel
theorem dX11_set_4 : decode cX11_set 4 = .ok (.iload_n 1, 1) := by decide +kernel
theorem dX11_set_5 : decode cX11_set 5 = .ok (.iload_n 2, 1) := by decide +kernel
theorem dX11_set_6 : decode cX11_set 6 = .ok (.invokevirtual 163, 3) := by decide +kernel
theorem dX11_set_9 : decode cX11_set 9 = .ok (.ireturn, 1) := by decide +kernel
theorem dX11_fate_0 : decode cX11_fate 0 = .ok (.aload_n 0, 1) := by decide +kernel
theorem dX11_fate_1 : decode cX11_fate 1 = .ok (.iload_n 1, 1) := by decide +kernel
theorem dX11_fate_2 : decode cX11_fate 2 = .ok (.invokevirtual 81, 3) := by decide +kernel
theorem dX11_fate_5 : decode cX11_fate 5 = .ok (.ifCond .ne 13, 3) := by decide +kernel
theorem dX11_fate_8 : decode cX11_fate 8 = .ok (.iload_n 2, 1) := by decide +kernel
theorem dX11_fate_9 : decode cX11_fate 9 = .ok (.iconst 0, 1) := by decide +kernel
theorem dX11_fate_10 : decode cX11_fate 10 = .ok (.bipush 8, 2) := by decide +kernel
theorem dX11_fate_12 : decode cX11_fate 12 = .ok (.invokestatic 110, 3) := by decide +kernel
theorem dX11_fate_15 : decode cX11_fate 15 = .ok (.ifCond .eq 5, 3) := by decide +kernel
theorem dX11_fate_18 : decode cX11_fate 18 = .ok (.iconst (-1), 1) := by decide +kernel
theorem dX11_fate_19 : decode cX11_fate 19 = .ok (.ireturn, 1) := by decide +kernel
theorem dX11_fate_20 : decode cX11_fate 20 = .ok (.aload_n 0, 1) := by decide +kernel
theorem dX11_fate_21 : decode cX11_fate 21 = .ok (.getfield 31, 3) := by decide +kernel
theorem dX11_fate_24 : decode cX11_fate 24 = .ok (.aload_n 0, 1) := by decide +kernel
theorem dX11_fate_25 : decode cX11_fate 25 = .ok (.getfield 12, 3) := by decide +kernel
theorem dX11_fate_28 : decode cX11_fate 28 = .ok (.iconst (-1), 1) := by decide +kernel
theorem dX11_fate_29 : decode cX11_fate 29 = .ok (.invokevirtual 166, 3) := by decide +kernel
theorem dX11_fate_32 : decode cX11_fate 32 = .ok (.aload_n 0, 1) := by decide +kernel
theorem dX11_fate_33 : decode cX11_fate 33 = .ok (.getfield 31, 3) := by decide +kernel
theorem dX11_fate_36 : decode cX11_fate 36 = .ok (.iload_n 1, 1) := by decide +kernel
theorem dX11_fate_37 : decode cX11_fate 37 = .ok (.iload_n 2, 1) := by decide +kernel
theorem dX11_fate_38 : decode cX11_fate 38 = .ok (.invokevirtual 170, 3) := by decide +kernel
theorem dX11_fate_41 : decode cX11_fate 41 = .ok (.ireturn, 1) := by decide +kernel
theorem dX11_sum_0 : decode cX11_sum 0 = .ok (.aload_n 0, 1) := by decide +kernel
theorem dX11_sum_1 : decode cX11_sum 1 = .ok (.iload_n 1, 1) := by decide +kernel
theorem dX11_sum_2 : decode cX11_sum 2 = .ok (.invokevirtual 81, 3) := by decide +kernel
theorem dX11_sum_5 : decode cX11_sum 5 = .ok (.ifCond .eq 6, 3) := by decide +kernel
theorem dX11_sum_8 : decode cX11_sum 8 = .ok (.ldc 114, 2) := by decide +kernel
theorem dX11_sum_10 : decode cX11_sum 10 = .ok (.ireturn, 1) := by decide +kernel
theorem dX11_sum_11 : decode cX11_sum 11 = .ok (.aload_n 0, 1) := by decide +kernel
theorem dX11_sum_12 : decode cX11_sum 12 = .ok (.getfield 31, 3) := by decide +kernel
theorem dX11_sum_15 : decode cX11_sum 15 = .ok (.aload_n 0, 1) := by decide +kernel
theorem dX11_sum_16 : decode cX11_sum 16 = .ok (.getfield 12, 3) := by decide +kernel
theorem dX11_sum_19 : decode cX11_sum 19 = .ok (.iconst (-1), 1) := by decide +kernel
theorem dX11_sum_20 : decode cX11_sum 20 = .ok (.invokevirtual 166, 3) := by decide +kernel
theorem dX11_sum_23 : decode cX11_sum 23 = .ok (.aload_n 0, 1) := by decide +kernel
theorem dX11_sum_24 : decode cX11_sum 24 = .ok (.getfield 31, 3) := by decide +kernel
theorem dX11_sum_27 : decode cX11_sum 27 = .ok (.getfield 173, 3) := by decide +kernel
theorem dX11_sum_30 : decode cX11_sum 30 = .ok (.iload_n 1, 1) := by decide +kernel
theorem dX11_sum_31 : decode cX11_sum 31 = .ok (.iaload, 1) := by decide +kernel
theorem dX11_sum_32 : decode cX11_sum 32 = .ok (.ireturn, 1) := by decide +kernel
theorem dX11_sums_0 : decode cX11_sums 0 = .ok (.iload_n 1, 1) := by decide +kernel
theorem dX11_sums_1 : decode cX11_sums 1 = .ok (.iconst 0, 1) := by decide +kernel
theorem dX11_sums_2 : decode cX11_sums 2 = .ok (.iconst 5, 1) := by decide +kernel
theorem dX11_sums_3 : decode cX11_sums 3 = .ok (.invokestatic 110, 3) := by decide +kernel
theorem dX11_sums_6 : decode cX11_sums 6 = .ok (.ifCond .eq 5, 3) := by decide +kernel
theorem dX11_sums_9 : decode cX11_sums 9 = .ok (.iconst (-1), 1) := by decide +kernel
theorem dX11_sums_10 : decode cX11_sums 10 = .ok (.ireturn, 1) := by decide +kernel
theorem dX11_sums_11 : decode cX11_sums 11 = .ok (.aload_n 0, 1) := by decide +kernel
theorem dX11_sums_12 : decode cX11_sums 12 = .ok (.getfield 31, 3) := by decide +kernel
theorem dX11_sums_15 : decode cX11_sums 15 = .ok (.aload_n 0, 1) := by decide +kernel
theorem dX11_sums_16 : decode cX11_sums 16 = .ok (.getfield 12, 3) := by decide +kernel
theorem dX11_sums_19 : decode cX11_sums 19 = .ok (.iconst (-1), 1) := by decide +kernel
theorem dX11_sums_20 : decode cX11_sums 20 = .ok (.invokevirtual 166, 3) := by decide +kernel
theorem dX11_sums_23 : decode cX11_sums 23 = .ok (.aload_n 0, 1) := by decide +kernel
theorem dX11_sums_24 : decode cX11_sums 24 = .ok (.getfield 31, 3) := by decide +kernel
theorem dX11_sums_27 : decode cX11_sums 27 = .ok (.iload_n 1, 1) := by decide +kernel
theorem dX11_sums_28 : decode cX11_sums 28 = .ok (.invokevirtual 176, 3) := by decide +kernel
theorem dX11_sums_31 : decode cX11_sums 31 = .ok (.ireturn, 1) := by decide +kernel
theorem dX11_chain_0 : decode cX11_chain 0 = .ok (.aload_n 0, 1) := by decide +kernel
theorem dX11_chain_1 : decode cX11_chain 1 = .ok (.iload_n 1, 1) := by decide +kernel
theorem dX11_chain_2 : decode cX11_chain 2 = .ok (.invokevirtual 81, 3) := by decide +kernel
theorem dX11_chain_5 : decode cX11_chain 5 = .ok (.ifCond .eq 5, 3) := by decide +kernel
theorem dX11_chain_8 : decode cX11_chain 8 = .ok (.iconst (-1), 1) := by decide +kernel
theorem dX11_chain_9 : decode cX11_chain 9 = .ok (.ireturn, 1) := by decide +kernel
theorem dX11_chain_10 : decode cX11_chain 10 = .ok (.aload_n 0, 1) := by decide +kernel
theorem dX11_chain_11 : decode cX11_chain 11 = .ok (.getfield 31, 3) := by decide +kernel
theorem dX11_chain_14 : decode cX11_chain 14 = .ok (.aload_n 0, 1) := by decide +kernel
theorem dX11_chain_15 : decode cX11_chain 15 = .ok (.getfield 12, 3) := by decide +kernel
theorem dX11_chain_18 : decode cX11_chain 18 = .ok (.iconst (-1), 1) := by decide +kernel
theorem dX11_chain_19 : decode cX11_chain 19 = .ok (.invokevirtual 166, 3) := by decide +kernel
theorem dX11_chain_22 : decode cX11_chain 22 = .ok (.aload_n 0, 1) := by decide +kernel
theorem dX11_chain_23 : decode cX11_chain 23 = .ok (.getfield 31, 3) := by decide +kernel
theorem dX11_chain_26 : decode cX11_chain 26 = .ok (.iload_n 1, 1) := by decide +kernel
theorem dX11_chain_27 : decode cX11_chain 27 = .ok (.invokevirtual 182, 3) := by decide +kernel
theorem dX11_chain_30 : decode cX11_chain 30 = .ok (.ireturn, 1) := by decide +kernel
theorem dX11_longest_0 : decode cX11_longest 0 = .ok (.aload_n 0, 1) := by decide +kernel
theorem dX11_longest_1 : decode cX11_longest 1 = .ok (.getfield 31, 3) := by decide +kernel
theorem dX11_longest_4 : decode cX11_longest 4 = .ok (.aload_n 0, 1) := by decide +kernel
theorem dX11_longest_5 : decode cX11_longest 5 = .ok (.getfield 12, 3) := by decide +kernel
theorem dX11_longest_8 : decode cX11_longest 8 = .ok (.iconst (-1), 1) := by decide +kernel
theorem dX11_longest_9 : decode cX11_longest 9 = .ok (.invokevirtual 166, 3) := by decide +kernel
theorem dX11_longest_12 : decode cX11_longest 12 = .ok (.iconst 0, 1) := by decide +kernel
theorem dX11_longest_13 : decode cX11_longest 13 = .ok (.istore_n 1, 1) := by decide +kernel
theorem dX11_longest_14 : decode cX11_longest 14 = .ok (.iconst 0, 1) := by decide +kernel
theorem dX11_longest_15 : decode cX11_longest 15 = .ok (.istore_n 2, 1) := by decide +kernel
theorem dX11_longest_16 : decode cX11_longest 16 = .ok (.iload_n 2, 1) := by decide +kernel
theorem dX11_longest_17 : decode cX11_longest 17 = .ok (.aload_n 0, 1) := by decide +kernel
theorem dX11_longest_18 : decode cX11_longest 18 = .ok (.getfield 12, 3) := by decide +kernel
theorem dX11_longest_21 : decode cX11_longest 21 = .ok (.getfield 185, 3) := by decide +kernel
theorem dX11_longest_24 : decode cX11_longest 24 = .ok (.if_icmp .ge 22, 3) := by decide +kernel
theorem dX11_longest_27 : decode cX11_longest 27 = .ok (.iload_n 1, 1) := by decide +kernel
theorem dX11_longest_28 : decode cX11_longest 28 = .ok (.aload_n 0, 1) := by decide +kernel
theorem dX11_longest_29 : decode cX11_longest 29 = .ok (.getfield 31, 3) := by decide +kernel
theorem dX11_longest_32 : decode cX11_longest 32 = .ok (.iload_n 2, 1) := by decide +kernel
theorem dX11_longest_33 : decode cX11_longest 33 = .ok (.invokevirtual 182, 3) := by decide +kernel
theorem dX11_longest_36 : decode cX11_longest 36 = .ok (.invokestatic 188, 3) := by decide +kernel
theorem dX11_longest_39 : decode cX11_longest 39 = .ok (.istore_n 1, 1) := by decide +kernel
theorem dX11_longest_40 : decode cX11_longest 40 = .ok (.iinc 2 1, 3) := by decide +kernel
theorem dX11_longest_43 : decode cX11_longest 43 = .ok (.goto (-27), 3) := by decide +kernel
theorem dX11_longest_46 : decode cX11_longest 46 = .ok (.iload_n 1, 1) := by decide +kernel
theorem dX11_longest_47 : decode cX11_longest 47 = .ok (.ireturn, 1) := by decide +kernel
theorem dX11_yes_0 : decode cX11_yes 0 = .ok (.aload_n 0, 1) := by decide +kernel
theorem dX11_yes_1 : decode cX11_yes 1 = .ok (.iload_n 1, 1) := by decide +kernel
theorem dX11_yes_2 : decode cX11_yes 2 = .ok (.invokevirtual 81, 3) := by decide +kernel
theorem dX11_yes_5 : decode cX11_yes 5 = .ok (.ifCond .eq 5, 3) := by decide +kernel
theorem dX11_yes_8 : decode cX11_yes 8 = .ok (.iconst (-1), 1) := by decide +kernel
theorem dX11_yes_9 : decode cX11_yes 9 = .ok (.ireturn, 1) := by decide +kernel
theorem dX11_yes_10 : decode cX11_yes 10 = .ok (.aload_n 0, 1) := by decide +kernel
theorem dX11_yes_11 : decode cX11_yes 11 = .ok (.getfield 16, 3) := by decide +kernel
theorem dX11_yes_14 : decode cX11_yes 14 = .ok (.aload_n 0, 1) := by decide +kernel
theorem dX11_yes_15 : decode cX11_yes 15 = .ok (.getfield 12, 3) := by decide +kernel
theorem dX11_yes_18 : decode cX11_yes 18 = .ok (.invokevirtual 74, 3) := by decide +kernel
theorem dX11_yes_21 : decode cX11_yes 21 = .ok (.iconst 0, 1) := by decide +kernel
theorem dX11_yes_22 : decode cX11_yes 22 = .ok (.istore_n 2, 1) := by decide +kernel
theorem dX11_yes_23 : decode cX11_yes 23 = .ok (.iconst 0, 1) := by decide +kernel
theorem dX11_yes_24 : decode cX11_yes 24 = .ok (.istore_n 3, 1) := by decide +kernel
theorem dX11_yes_25 : decode cX11_yes 25 = .ok (.iload_n 3, 1) := by decide +kernel
theorem dX11_yes_26 : decode cX11_yes 26 = .ok (.bipush 23, 2) := by decide +kernel
theorem dX11_yes_28 : decode cX11_yes 28 = .ok (.if_icmp .gt 49, 3) := by decide +kernel
theorem dX11_yes_31 : decode cX11_yes 31 = .ok (.aload_n 0, 1) := by decide +kernel
theorem dX11_yes_32 : decode cX11_yes 32 = .ok (.getfield 16, 3) := by decide +kernel
theorem dX11_yes_35 : decode cX11_yes 35 = .ok (.getfield 97, 3) := by decide +kernel
theorem dX11_yes_38 : decode cX11_yes 38 = .ok (.iload_n 1, 1) := by decide +kernel
theorem dX11_yes_39 : decode cX11_yes 39 = .ok (.iload_n 3, 1) := by decide +kernel
theorem dX11_yes_40 : decode cX11_yes 40 = .ok (.iastore, 1) := by decide +kernel
theorem dX11_yes_41 : decode cX11_yes 41 = .ok (.aload_n 0, 1) := by decide +kernel
theorem dX11_yes_42 : decode cX11_yes 42 = .ok (.getfield 31, 3) := by decide +kernel
theorem dX11_yes_45 : decode cX11_yes 45 = .ok (.aload_n 0, 1) := by decide +kernel
theorem dX11_yes_46 : decode cX11_yes 46 = .ok (.getfield 16, 3) := by decide +kernel
theorem dX11_yes_49 : decode cX11_yes 49 = .ok (.iconst (-1), 1) := by decide +kernel
theorem dX11_yes_50 : decode cX11_yes 50 = .ok (.invokevirtual 166, 3) := by decide +kernel
theorem dX11_yes_53 : decode cX11_yes 53 = .ok (.aload_n 0, 1) := by decide +kernel
theorem dX11_yes_54 : decode cX11_yes 54 = .ok (.getfield 31, 3) := by decide +kernel
theorem dX11_yes_57 : decode cX11_yes 57 = .ok (.getfield 193, 3) := by decide +kernel
theorem dX11_yes_60 : decode cX11_yes 60 = .ok (.iload_n 1, 1) := by decide +kernel
theorem dX11_yes_61 : decode cX11_yes 61 = .ok (.iaload, 1) := by decide +kernel
theorem dX11_yes_62 : decode cX11_yes 62 = .ok (.ifCond .le 9, 3) := by decide +kernel
theorem dX11_yes_65 : decode cX11_yes 65 = .ok (.iload_n 2, 1) := by decide +kernel
theorem dX11_yes_66 : decode cX11_yes 66 = .ok (.iconst 1, 1) := by decide +kernel
theorem dX11_yes_67 : decode cX11_yes 67 = .ok (.iload_n 3, 1) := by decide +kernel
theorem dX11_yes_68 : decode cX11_yes 68 = .ok (.ishl, 1) := by decide +kernel
theorem dX11_yes_69 : decode cX11_yes 69 = .ok (.ior, 1) := by decide +kernel
theorem dX11_yes_70 : decode cX11_yes 70 = .ok (.istore_n 2, 1) := by decide +kernel
theorem dX11_yes_71 : decode cX11_yes 71 = .ok (.iinc 3 1, 3) := by decide +kernel
theorem dX11_yes_74 : decode cX11_yes 74 = .ok (.goto (-49), 3) := by decide +kernel
theorem dX11_yes_77 : decode cX11_yes 77 = .ok (.iload_n 2, 1) := by decide +kernel
theorem dX11_yes_78 : decode cX11_yes 78 = .ok (.ireturn, 1) := by decide +kernel
theorem dX11_moods_0 : decode cX11_moods 0 = .ok (.aload_n 0, 1) := by decide +kernel
theorem dX11_moods_1 : decode cX11_moods 1 = .ok (.iload_n 1, 1) := by decide +kernel
theorem dX11_moods_2 : decode cX11_moods 2 = .ok (.invokevirtual 81, 3) := by decide +kernel
theorem dX11_moods_5 : decode cX11_moods 5 = .ok (.ifCond .ne 12, 3) := by decide +kernel
theorem dX11_moods_8 : decode cX11_moods 8 = .ok (.iload_n 2, 1) := by decide +kernel
theorem dX11_moods_9 : decode cX11_moods 9 = .ok (.iconst 0, 1) := by decide +kernel
theorem dX11_moods_10 : decode cX11_moods 10 = .ok (.iconst 1, 1) := by decide +kernel
theorem dX11_moods_11 : decode cX11_moods 11 = .ok (.invokestatic 110, 3) := by decide +kernel
theorem dX11_moods_14 : decode cX11_moods 14 = .ok (.ifCond .eq 5, 3) := by decide +kernel
theorem dX11_moods_17 : decode cX11_moods 17 = .ok (.iconst (-1), 1) := by decide +kernel
theorem dX11_moods_18 : decode cX11_moods 18 = .ok (.ireturn, 1) := by decide +kernel
theorem dX11_moods_19 : decode cX11_moods 19 = .ok (.aload_n 0, 1) := by decide +kernel
theorem dX11_moods_20 : decode cX11_moods 20 = .ok (.getfield 16, 3) := by decide +kernel
theorem dX11_moods_23 : decode cX11_moods 23 = .ok (.aload_n 0, 1) := by decide +kernel
theorem dX11_moods_24 : decode cX11_moods 24 = .ok (.getfield 12, 3) := by decide +kernel
theorem dX11_moods_27 : decode cX11_moods 27 = .ok (.invokevirtual 74, 3) := by decide +kernel
theorem dX11_moods_30 : decode cX11_moods 30 = .ok (.iconst 0, 1) := by decide +kernel
theorem dX11_moods_31 : decode cX11_moods 31 = .ok (.istore_n 3, 1) := by decide +kernel
theorem dX11_moods_32 : decode cX11_moods 32 = .ok (.bipush (-4), 2) := by decide +kernel
theorem dX11_moods_34 : decode cX11_moods 34 = .ok (.istore 4, 2) := by decide +kernel
theorem dX11_moods_36 : decode cX11_moods 36 = .ok (.bipush 9, 2) := by decide +kernel
theorem dX11_moods_38 : decode cX11_moods 38 = .ok (.istore 5, 2) := by decide +kernel
theorem dX11_moods_40 : decode cX11_moods 40 = .ok (.iload 5, 2) := by decide +kernel
theorem dX11_moods_42 : decode cX11_moods 42 = .ok (.bipush (-9), 2) := by decide +kernel
theorem dX11_moods_44 : decode cX11_moods 44 = .ok (.if_icmp .lt 54, 3) := by decide +kernel
theorem dX11_moods_47 : decode cX11_moods 47 = .ok (.aload_n 0, 1) := by decide +kernel
theorem dX11_moods_48 : decode cX11_moods 48 = .ok (.getfield 16, 3) := by decide +kernel
theorem dX11_moods_51 : decode cX11_moods 51 = .ok (.getfield 107, 3) := by decide +kernel
theorem dX11_moods_54 : decode cX11_moods 54 = .ok (.iload_n 1, 1) := by decide +kernel
theorem dX11_moods_55 : decode cX11_moods 55 = .ok (.iload 5, 2) := by decide +kernel
theorem dX11_moods_57 : decode cX11_moods 57 = .ok (.iastore, 1) := by decide +kernel
theorem dX11_moods_58 : decode cX11_moods 58 = .ok (.aload_n 0, 1) := by decide +kernel
theorem dX11_moods_59 : decode cX11_moods 59 = .ok (.getfield 31, 3) := by decide +kernel
theorem dX11_moods_62 : decode cX11_moods 62 = .ok (.aload_n 0, 1) := by decide +kernel
theorem dX11_moods_63 : decode cX11_moods 63 = .ok (.getfield 16, 3) := by decide +kernel
theorem dX11_moods_66 : decode cX11_moods 66 = .ok (.iconst (-1), 1) := by decide +kernel
theorem dX11_moods_67 : decode cX11_moods 67 = .ok (.invokevirtual 166, 3) := by decide +kernel
theorem dX11_moods_70 : decode cX11_moods 70 = .ok (.aload_n 0, 1) := by decide +kernel
theorem dX11_moods_71 : decode cX11_moods 71 = .ok (.getfield 31, 3) := by decide +kernel
theorem dX11_moods_74 : decode cX11_moods 74 = .ok (.getfield 193, 3) := by decide +kernel
theorem dX11_moods_77 : decode cX11_moods 77 = .ok (.iload_n 1, 1) := by decide +kernel
theorem dX11_moods_78 : decode cX11_moods 78 = .ok (.iaload, 1) := by decide +kernel
theorem dX11_moods_79 : decode cX11_moods 79 = .ok (.ifCond .le 13, 3) := by decide +kernel
theorem dX11_moods_82 : decode cX11_moods 82 = .ok (.iinc 3 1, 3) := by decide +kernel
theorem dX11_moods_85 : decode cX11_moods 85 = .ok (.iload 5, 2) := by decide +kernel
theorem dX11_moods_87 : decode cX11_moods 87 = .ok (.bipush 9, 2) := by decide +kernel
theorem dX11_moods_89 : decode cX11_moods 89 = .ok (.iadd, 1) := by decide +kernel
theorem dX11_moods_90 : decode cX11_moods 90 = .ok (.istore 4, 2) := by decide +kernel
theorem dX11_moods_92 : decode cX11_moods 92 = .ok (.iinc 5 (-1), 3) := by decide +kernel
theorem dX11_moods_95 : decode cX11_moods 95 = .ok (.goto (-55), 3) := by decide +kernel
theorem dX11_moods_98 : decode cX11_moods 98 = .ok (.iload_n 2, 1) := by decide +kernel
theorem dX11_moods_99 : decode cX11_moods 99 = .ok (.ifCond .ne 7, 3) := by decide +kernel
theorem dX11_moods_102 : decode cX11_moods 102 = .ok (.iload_n 3, 1) := by decide +kernel
theorem dX11_moods_103 : decode cX11_moods 103 = .ok (.goto 5, 3) := by decide +kernel
theorem dX11_moods_106 : decode cX11_moods 106 = .ok (.iload 4, 2) := by decide +kernel
theorem dX11_moods_108 : decode cX11_moods 108 = .ok (.ireturn, 1) := by decide +kernel
theorem dX11_oddsOf_0 : decode cX11_oddsOf 0 = .ok (.lconst 1, 1) := by decide +kernel
theorem dX11_oddsOf_1 : decode cX11_oddsOf 1 = .ok (.lstore_n 2, 1) := by decide +kernel
theorem dX11_oddsOf_2 : decode cX11_oddsOf 2 = .ok (.iconst 0, 1) := by decide +kernel
theorem dX11_oddsOf_3 : decode cX11_oddsOf 3 = .ok (.istore 4, 2) := by decide +kernel
theorem dX11_oddsOf_5 : decode cX11_oddsOf 5 = .ok (.iload 4, 2) := by decide +kernel
theorem dX11_oddsOf_7 : decode cX11_oddsOf 7 = .ok (.aload_n 0, 1) := by decide +kernel
theorem dX11_oddsOf_8 : decode cX11_oddsOf 8 = .ok (.getfield 12, 3) := by decide +kernel
theorem dX11_oddsOf_11 : decode cX11_oddsOf 11 = .ok (.getfield 196, 3) := by decide +kernel
theorem dX11_oddsOf_14 : decode cX11_oddsOf 14 = .ok (.if_icmp .ge 45, 3) := by decide +kernel
theorem dX11_oddsOf_17 : decode cX11_oddsOf 17 = .ok (.aload_n 0, 1) := by decide +kernel
theorem dX11_oddsOf_18 : decode cX11_oddsOf 18 = .ok (.getfield 12, 3) := by decide +kernel
theorem dX11_oddsOf_21 : decode cX11_oddsOf 21 = .ok (.getfield 157, 3) := by decide +kernel
theorem dX11_oddsOf_24 : decode cX11_oddsOf 24 = .ok (.iload 4, 2) := by decide +kernel
theorem dX11_oddsOf_26 : decode cX11_oddsOf 26 = .ok (.iaload, 1) := by decide +kernel
theorem dX11_oddsOf_27 : decode cX11_oddsOf 27 = .ok (.istore 5, 2) := by decide +kernel
theorem dX11_oddsOf_29 : decode cX11_oddsOf 29 = .ok (.lload_n 2, 1) := by decide +kernel
theorem dX11_oddsOf_30 : decode cX11_oddsOf 30 = .ok (.iload_n 1, 1) := by decide +kernel
theorem dX11_oddsOf_31 : decode cX11_oddsOf 31 = .ok (.iload 4, 2) := by decide +kernel
theorem dX11_oddsOf_33 : decode cX11_oddsOf 33 = .ok (.ishr, 1) := by decide +kernel
theorem dX11_oddsOf_34 : decode cX11_oddsOf 34 = .ok (.iconst 1, 1) := by decide +kernel
theorem dX11_oddsOf_35 : decode cX11_oddsOf 35 = .ok (.iand, 1) := by decide +kernel
theorem dX11_oddsOf_36 : decode cX11_oddsOf 36 = .ok (.ifCond .eq 9, 3) := by decide +kernel
theorem dX11_oddsOf_39 : decode cX11_oddsOf 39 = .ok (.iload 5, 2) := by decide +kernel
theorem dX11_oddsOf_41 : decode cX11_oddsOf 41 = .ok (.i2l, 1) := by decide +kernel
theorem dX11_oddsOf_42 : decode cX11_oddsOf 42 = .ok (.goto 9, 3) := by decide +kernel
theorem dX11_oddsOf_45 : decode cX11_oddsOf 45 = .ok (.bipush 10, 2) := by decide +kernel
theorem dX11_oddsOf_47 : decode cX11_oddsOf 47 = .ok (.iload 5, 2) := by decide +kernel
theorem dX11_oddsOf_49 : decode cX11_oddsOf 49 = .ok (.isub, 1) := by decide +kernel
theorem dX11_oddsOf_50 : decode cX11_oddsOf 50 = .ok (.i2l, 1) := by decide +kernel
theorem dX11_oddsOf_51 : decode cX11_oddsOf 51 = .ok (.lmul, 1) := by decide +kernel
theorem dX11_oddsOf_52 : decode cX11_oddsOf 52 = .ok (.lstore_n 2, 1) := by decide +kernel
theorem dX11_oddsOf_53 : decode cX11_oddsOf 53 = .ok (.iinc 4 1, 3) := by decide +kernel
theorem dX11_oddsOf_56 : decode cX11_oddsOf 56 = .ok (.goto (-51), 3) := by decide +kernel
theorem dX11_oddsOf_59 : decode cX11_oddsOf 59 = .ok (.lload_n 2, 1) := by decide +kernel
theorem dX11_oddsOf_60 : decode cX11_oddsOf 60 = .ok (.lreturn, 1) := by decide +kernel
theorem dX11_commonDivisor_0 : decode cX11_commonDivisor 0 = .ok (.lload_n 0, 1) := by decide +kernel
theorem dX11_commonDivisor_1 : decode cX11_commonDivisor 1 = .ok (.lstore 4, 2) := by decide +kernel
theorem dX11_commonDivisor_3 : decode cX11_commonDivisor 3 = .ok (.lload_n 2, 1) := by decide +kernel
theorem dX11_commonDivisor_4 : decode cX11_commonDivisor 4 = .ok (.lstore 6, 2) := by decide +kernel
theorem dX11_commonDivisor_6 : decode cX11_commonDivisor 6 = .ok (.iconst 0, 1) := by decide +kernel
theorem dX11_commonDivisor_7 : decode cX11_commonDivisor 7 = .ok (.istore 8, 2) := by decide +kernel
theorem dX11_commonDivisor_9 : decode cX11_commonDivisor 9 = .ok (.iload 8, 2) := by decide +kernel
theorem dX11_commonDivisor_11 : decode cX11_commonDivisor 11 = .ok (.sipush 200, 3) := by decide +kernel
theorem dX11_commonDivisor_14 : decode cX11_commonDivisor 14 = .ok (.if_icmp .ge 31, 3) := by decide +kernel
theorem dX11_commonDivisor_17 : decode cX11_commonDivisor 17 = .ok (.lload 6, 2) := by decide +kernel
theorem dX11_commonDivisor_19 : decode cX11_commonDivisor 19 = .ok (.lconst 0, 1) := by decide +kernel
theorem dX11_commonDivisor_20 : decode cX11_commonDivisor 20 = .ok (.lcmp, 1) := by decide +kernel
theorem dX11_commonDivisor_21 : decode cX11_commonDivisor 21 = .ok (.ifCond .eq 24, 3) := by decide +kernel
theorem dX11_commonDivisor_24 : decode cX11_commonDivisor 24 = .ok (.lload 4, 2) := by decide +kernel
theorem dX11_commonDivisor_26 : decode cX11_commonDivisor 26 = .ok (.lload 6, 2) := by decide +kernel
theorem dX11_commonDivisor_28 : decode cX11_commonDivisor 28 = .ok (.lrem, 1) := by decide +kernel
theorem dX11_commonDivisor_29 : decode cX11_commonDivisor 29 = .ok (.lstore 9, 2) := by decide +kernel
theorem dX11_commonDivisor_31 : decode cX11_commonDivisor 31 = .ok (.lload 6, 2) := by decide +kernel
theorem dX11_commonDivisor_33 : decode cX11_commonDivisor 33 = .ok (.lstore 4, 2) := by decide +kernel
theorem dX11_commonDivisor_35 : decode cX11_commonDivisor 35 = .ok (.lload 9, 2) := by decide +kernel
theorem dX11_commonDivisor_37 : decode cX11_commonDivisor 37 = .ok (.lstore 6, 2) := by decide +kernel
theorem dX11_commonDivisor_39 : decode cX11_commonDivisor 39 = .ok (.iinc 8 1, 3) := by decide +kernel
theorem dX11_commonDivisor_42 : decode cX11_commonDivisor 42 = .ok (.goto (-33), 3) := by decide +kernel
theorem dX11_commonDivisor_45 : decode cX11_commonDivisor 45 = .ok (.lload 4, 2) := by decide +kernel
theorem dX11_commonDivisor_47 : decode cX11_commonDivisor 47 = .ok (.lreturn, 1) := by decide +kernel
theorem dX11_expectedYes_0 : decode cX11_expectedYes 0 = .ok (.lconst 0, 1) := by decide +kernel
theorem dX11_expectedYes_1 : decode cX11_expectedYes 1 = .ok (.lstore_n 3, 1) := by decide +kernel
theorem dX11_expectedYes_2 : decode cX11_expectedYes 2 = .ok (.lconst 1, 1) := by decide +kernel
theorem dX11_expectedYes_3 : decode cX11_expectedYes 3 = .ok (.lstore 5, 2) := by decide +kernel
theorem dX11_expectedYes_5 : decode cX11_expectedYes 5 = .ok (.iconst 0, 1) := by decide +kernel
theorem dX11_expectedYes_6 : decode cX11_expectedYes 6 = .ok (.istore 7, 2) := by decide +kernel
theorem dX11_expectedYes_8 : decode cX11_expectedYes 8 = .ok (.iload 7, 2) := by decide +kernel
theorem dX11_expectedYes_10 : decode cX11_expectedYes 10 = .ok (.aload_n 0, 1) := by decide +kernel
theorem dX11_expectedYes_11 : decode cX11_expectedYes 11 = .ok (.getfield 12, 3) := by decide +kernel
theorem dX11_expectedYes_14 : decode cX11_expectedYes 14 = .ok (.getfield 196, 3) := by decide +kernel
theorem dX11_expectedYes_17 : decode cX11_expectedYes 17 = .ok (.if_icmp .ge 17, 3) := by decide +kernel
theorem dX11_expectedYes_20 : decode cX11_expectedYes 20 = .ok (.lload 5, 2) := by decide +kernel
theorem dX11_expectedYes_22 : decode cX11_expectedYes 22 = .ok (.ldc2_w 337, 3) := by decide +kernel
theorem dX11_expectedYes_25 : decode cX11_expectedYes 25 = .ok (.lmul, 1) := by decide +kernel
theorem dX11_expectedYes_26 : decode cX11_expectedYes 26 = .ok (.lstore 5, 2) := by decide +kernel
theorem dX11_expectedYes_28 : decode cX11_expectedYes 28 = .ok (.iinc 7 1, 3) := by decide +kernel
theorem dX11_expectedYes_31 : decode cX11_expectedYes 31 = .ok (.goto (-23), 3) := by decide +kernel
theorem dX11_expectedYes_34 : decode cX11_expectedYes 34 = .ok (.iconst 0, 1) := by decide +kernel
theorem dX11_expectedYes_35 : decode cX11_expectedYes 35 = .ok (.istore 7, 2) := by decide +kernel
theorem dX11_expectedYes_37 : decode cX11_expectedYes 37 = .ok (.iload 7, 2) := by decide +kernel
theorem dX11_expectedYes_39 : decode cX11_expectedYes 39 = .ok (.iconst 1, 1) := by decide +kernel
theorem dX11_expectedYes_40 : decode cX11_expectedYes 40 = .ok (.aload_n 0, 1) := by decide +kernel
theorem dX11_expectedYes_41 : decode cX11_expectedYes 41 = .ok (.getfield 12, 3) := by decide +kernel
theorem dX11_expectedYes_44 : decode cX11_expectedYes 44 = .ok (.getfield 196, 3) := by decide +kernel
theorem dX11_expectedYes_47 : decode cX11_expectedYes 47 = .ok (.ishl, 1) := by decide +kernel
theorem dX11_expectedYes_48 : decode cX11_expectedYes 48 = .ok (.if_icmp .ge 56, 3) := by decide +kernel
theorem dX11_expectedYes_51 : decode cX11_expectedYes 51 = .ok (.aload_n 0, 1) := by decide +kernel
theorem dX11_expectedYes_52 : decode cX11_expectedYes 52 = .ok (.iload 7, 2) := by decide +kernel
theorem dX11_expectedYes_54 : decode cX11_expectedYes 54 = .ok (.invokevirtual 339, 3) := by decide +kernel
theorem dX11_expectedYes_57 : decode cX11_expectedYes 57 = .ok (.lstore 8, 2) := by decide +kernel
theorem dX11_expectedYes_59 : decode cX11_expectedYes 59 = .ok (.lload 8, 2) := by decide +kernel
theorem dX11_expectedYes_61 : decode cX11_expectedYes 61 = .ok (.lconst 0, 1) := by decide +kernel
theorem dX11_expectedYes_62 : decode cX11_expectedYes 62 = .ok (.lcmp, 1) := by decide +kernel
theorem dX11_expectedYes_63 : decode cX11_expectedYes 63 = .ok (.ifCond .le 35, 3) := by decide +kernel
theorem dX11_expectedYes_66 : decode cX11_expectedYes 66 = .ok (.aload_n 0, 1) := by decide +kernel
theorem dX11_expectedYes_67 : decode cX11_expectedYes 67 = .ok (.getfield 31, 3) := by decide +kernel
theorem dX11_expectedYes_70 : decode cX11_expectedYes 70 = .ok (.aload_n 0, 1) := by decide +kernel
theorem dX11_expectedYes_71 : decode cX11_expectedYes 71 = .ok (.getfield 12, 3) := by decide +kernel
theorem dX11_expectedYes_74 : decode cX11_expectedYes 74 = .ok (.iload 7, 2) := by decide +kernel
theorem dX11_expectedYes_76 : decode cX11_expectedYes 76 = .ok (.invokevirtual 166, 3) := by decide +kernel
theorem dX11_expectedYes_79 : decode cX11_expectedYes 79 = .ok (.lload_n 3, 1) := by decide +kernel
theorem dX11_expectedYes_80 : decode cX11_expectedYes 80 = .ok (.lload 8, 2) := by decide +kernel
theorem dX11_expectedYes_82 : decode cX11_expectedYes 82 = .ok (.aload_n 0, 1) := by decide +kernel
theorem dX11_expectedYes_83 : decode cX11_expectedYes 83 = .ok (.getfield 31, 3) := by decide +kernel
theorem dX11_expectedYes_86 : decode cX11_expectedYes 86 = .ok (.invokevirtual 209, 3) := by decide +kernel
theorem dX11_expectedYes_89 : decode cX11_expectedYes 89 = .ok (.iload_n 1, 1) := by decide +kernel
theorem dX11_expectedYes_90 : decode cX11_expectedYes 90 = .ok (.iand, 1) := by decide +kernel
theorem dX11_expectedYes_91 : decode cX11_expectedYes 91 = .ok (.invokestatic 231, 3) := by decide +kernel
theorem dX11_expectedYes_94 : decode cX11_expectedYes 94 = .ok (.i2l, 1) := by decide +kernel
theorem dX11_expectedYes_95 : decode cX11_expectedYes 95 = .ok (.lmul, 1) := by decide +kernel
theorem dX11_expectedYes_96 : decode cX11_expectedYes 96 = .ok (.ladd, 1) := by decide +kernel
theorem dX11_expectedYes_97 : decode cX11_expectedYes 97 = .ok (.lstore_n 3, 1) := by decide +kernel
theorem dX11_expectedYes_98 : decode cX11_expectedYes 98 = .ok (.iinc 7 1, 3) := by decide +kernel
theorem dX11_expectedYes_101 : decode cX11_expectedYes 101 = .ok (.goto (-64), 3) := by decide +kernel
theorem dX11_expectedYes_104 : decode cX11_expectedYes 104 = .ok (.lload 5, 2) := by decide +kernel
theorem dX11_expectedYes_106 : decode cX11_expectedYes 106 = .ok (.lload_n 3, 1) := by decide +kernel
theorem dX11_expectedYes_107 : decode cX11_expectedYes 107 = .ok (.invokestatic 343, 3) := by decide +kernel
theorem dX11_expectedYes_110 : decode cX11_expectedYes 110 = .ok (.lstore 7, 2) := by decide +kernel
theorem dX11_expectedYes_112 : decode cX11_expectedYes 112 = .ok (.lload 7, 2) := by decide +kernel
theorem dX11_expectedYes_114 : decode cX11_expectedYes 114 = .ok (.lconst 0, 1) := by decide +kernel
theorem dX11_expectedYes_115 : decode cX11_expectedYes 115 = .ok (.lcmp, 1) := by decide +kernel
theorem dX11_expectedYes_116 : decode cX11_expectedYes 116 = .ok (.ifCond .gt 7, 3) := by decide +kernel
theorem dX11_expectedYes_119 : decode cX11_expectedYes 119 = .ok (.ldc2_w 199, 3) := by decide +kernel
theorem dX11_expectedYes_122 : decode cX11_expectedYes 122 = .ok (.lreturn, 1) := by decide +kernel
theorem dX11_expectedYes_123 : decode cX11_expectedYes 123 = .ok (.iload_n 2, 1) := by decide +kernel
theorem dX11_expectedYes_124 : decode cX11_expectedYes 124 = .ok (.ifCond .ne 7, 3) := by decide +kernel
theorem dX11_expectedYes_127 : decode cX11_expectedYes 127 = .ok (.lload_n 3, 1) := by decide +kernel
theorem dX11_expectedYes_128 : decode cX11_expectedYes 128 = .ok (.goto 5, 3) := by decide +kernel
theorem dX11_expectedYes_131 : decode cX11_expectedYes 131 = .ok (.lload 5, 2) := by decide +kernel
theorem dX11_expectedYes_133 : decode cX11_expectedYes 133 = .ok (.lload 7, 2) := by decide +kernel
theorem dX11_expectedYes_135 : decode cX11_expectedYes 135 = .ok (.ldiv, 1) := by decide +kernel
theorem dX11_expectedYes_136 : decode cX11_expectedYes 136 = .ok (.lreturn, 1) := by decide +kernel
def b_X11_comes_0 (v1 : Int32) (v2 : Int32) (v3 : Int32) (v4 : Int32) (v5 : Int32) (S : St) : Option (Int32 × St) := (L_X11_isNoShelf v1 S).bind fun r1 => (if (r1 : Int32) = 0 then (L_X10_isNoOne v2 v3 v4 v5 S).bind fun r3 => (if (r3 : Int32) = 0 then (L_X11_shelfRefusal v1 1 S).bind fun r5 => (if (r5 : Int32) = 0 then gd (inb v1 8) ((gr S 67 v1.toNatClampNeg).bind fun q8 => (L_X10_addOne 1 q8 v2 v3 v4 v5 S).bind fun r9 => some (r9.1, r9.2)) else some (r5, S)) else some ((-1), S)) else some ((-1), S))
def L_X11_comes (a1 : Int32) (a2 : Int32) (a3 : Int32) (a4 : Int32) (a5 : Int32) (S : St) : Option (Int32 × St) := b_X11_comes_0 a1 a2 a3 a4 a5 S
def b_X11_fact_0 (v1 : Int32) (v2 : Int32) (v3 : Int32) (S : St) : Option (Int32 × St) := (L_X10_addFact 1 v1 v2 v3 S).bind fun r1 => some (r1.1, r1.2)
def L_X11_fact (a1 : Int32) (a2 : Int32) (a3 : Int32) (S : St) : Option (Int32 × St) := b_X11_fact_0 a1 a2 a3 S
def b_X11_isNoFact_15 (S : St) : Option Int32 := some 1
def b_X11_isNoFact_0 (v1 : Int32) (S : St) : Option Int32 := (if (v1 : Int32) < 0 then (b_X11_isNoFact_15 S) else (if (v1 : Int32) < (gi S 1 6) then some 0 else (b_X11_isNoFact_15 S)))
def L_X11_isNoFact (a1 : Int32) (S : St) : Option Int32 := b_X11_isNoFact_0 a1 S
def b_X11_chance_0 (v1 : Int32) (v2 : Int32) (S : St) : Option (Int32 × St) := (L_X11_isNoFact v1 S).bind fun r1 => (if (r1 : Int32) = 0 then (L_X11_isOut v2 0 10 S).bind fun r3 => (if (r3 : Int32) = 0 then gd (inb v1 6) (gd (inb v1 6) (nm (si S (1 + 10) v1.toNatClampNeg v2) fun S7 => some (gi S (1 + 10) v1.toNatClampNeg, S7))) else some ((-1), S)) else some ((-1), S))
def L_X11_chance (a1 : Int32) (a2 : Int32) (S : St) : Option (Int32 × St) := b_X11_chance_0 a1 a2 S
def b_X11_kin_0 (v1 : Int32) (v2 : Int32) (S : St) : Option (Int32 × St) := (L_X10_turnKin 1 v1 v2 S).bind fun r1 => some (r1.1, r1.2)
def L_X11_kin (a1 : Int32) (a2 : Int32) (S : St) : Option (Int32 × St) := b_X11_kin_0 a1 a2 S
def b_X11_set_0 (v1 : Int32) (v2 : Int32) (S : St) : Option (Int32 × St) := (L_X10_changeRule 1 v1 v2 S).bind fun r1 => some (r1.1, r1.2)
def L_X11_set (a1 : Int32) (a2 : Int32) (S : St) : Option (Int32 × St) := b_X11_set_0 a1 a2 S
def b_X11_fate_0 (v1 : Int32) (v2 : Int32) (S : St) : Option (Int32 × St) := (L_X11_isNobody v1 S).bind fun r1 => (if (r1 : Int32) = 0 then (L_X11_isOut v2 0 8 S).bind fun r3 => (if (r3 : Int32) = 0 then (L_X2_run 1 ((-1)) S).bind fun r5 => (L_X2_fateOf v1 v2 r5).bind fun r6 => some (r6, r5) else some ((-1), S)) else some ((-1), S))
def L_X11_fate (a1 : Int32) (a2 : Int32) (S : St) : Option (Int32 × St) := b_X11_fate_0 a1 a2 S
def b_X11_sum_0 (v1 : Int32) (S : St) : Option (Int32 × St) := (L_X11_isNobody v1 S).bind fun r1 => (if (r1 : Int32) = 0 then (L_X2_run 1 ((-1)) S).bind fun r3 => gd (inb v1 8) (some (gi r3 57 v1.toNatClampNeg, r3)) else some ((-1000000001), S))
def L_X11_sum (a1 : Int32) (S : St) : Option (Int32 × St) := b_X11_sum_0 a1 S
def b_X11_sums_0 (v1 : Int32) (S : St) : Option (Int32 × St) := (L_X11_isOut v1 0 5 S).bind fun r1 => (if (r1 : Int32) = 0 then (L_X2_run 1 ((-1)) S).bind fun r3 => (L_X2_countOf v1 r3).bind fun r4 => some (r4, r3) else some ((-1), S))
def L_X11_sums (a1 : Int32) (S : St) : Option (Int32 × St) := b_X11_sums_0 a1 S
def b_X11_chain_0 (v1 : Int32) (S : St) : Option (Int32 × St) := (L_X11_isNobody v1 S).bind fun r1 => (if (r1 : Int32) = 0 then (L_X2_run 1 ((-1)) S).bind fun r3 => (L_X2_chainOf v1 r3).bind fun r4 => some (r4, r3) else some ((-1), S))
def L_X11_chain (a1 : Int32) (S : St) : Option (Int32 × St) := b_X11_chain_0 a1 S
def b_X11_longest_16 (v1 : Int32) (v2 : Int32) (S : St) : Option ((Int32 × Int32 × St) ⊕ (Int32 × St)) := (if (gi S 1 0 : Int32) ≤ v2 then some (.inr (v1, S)) else (L_X2_chainOf v2 S).bind fun r2 => nm (if (v1 : Int32) < r2 then r2 else v1) fun m3 => some (.inl (m3, (v2 + 1), S)))
def l_X11_longest_16 (x : (Int32 × Int32 × St)) : Option ((Int32 × Int32 × St) ⊕ (Int32 × St)) := b_X11_longest_16 x.1 x.2.1 x.2.2
def b_X11_longest_0 (S : St) : Option (Int32 × St) := (L_X2_run 1 ((-1)) S).bind fun r1 => (lp 1000 (l_X11_longest_16) (0, 0, r1))
def L_X11_longest (S : St) : Option (Int32 × St) := b_X11_longest_0 S
def b_X11_yes_71 (v1 : Int32) (v2 : Int32) (v3 : Int32) (S : St) : Option ((Int32 × Int32 × Int32 × St) ⊕ (Int32 × St)) := some (.inl (v1, v2, (v3 + 1), S))
def b_X11_yes_25 (v1 : Int32) (v2 : Int32) (v3 : Int32) (S : St) : Option ((Int32 × Int32 × Int32 × St) ⊕ (Int32 × St)) := (if (23 : Int32) < v3 then some (.inr (v2, S)) else gd (inb v1 8) (nm (si S (19 + 4) v1.toNatClampNeg v3) fun S3 => (L_X2_run 19 ((-1)) S3).bind fun r4 => gd (inb v1 8) ((if (gi r4 58 v1.toNatClampNeg : Int32) ≤ 0 then (b_X11_yes_71 v1 v2 v3 r4) else (b_X11_yes_71 v1 (v2 ||| ((1 : Int32) <<< (v3 &&& 31))) v3 r4)))))
def l_X11_yes_25 (x : (Int32 × Int32 × Int32 × St)) : Option ((Int32 × Int32 × Int32 × St) ⊕ (Int32 × St)) := b_X11_yes_25 x.1 x.2.1 x.2.2.1 x.2.2.2
def b_X11_yes_0 (v1 : Int32) (S : St) : Option (Int32 × St) := (L_X11_isNobody v1 S).bind fun r1 => (if (r1 : Int32) = 0 then (L_X10_become 19 1 S).bind fun r3 => (lp 1000 (l_X11_yes_25) (v1, 0, 0, r3)) else some ((-1), S))
def L_X11_yes (a1 : Int32) (S : St) : Option (Int32 × St) := b_X11_yes_0 a1 S
def b_X11_moods_98 (v2 : Int32) (v3 : Int32) (v4 : Int32) (S : St) : Option (Int32 × St) := (if (v2 : Int32) = 0 then some (v3, S) else some (v4, S))
def b_X11_moods_92 (v1 : Int32) (v2 : Int32) (v3 : Int32) (v4 : Int32) (v5 : Int32) (S : St) : Option ((Int32 × Int32 × Int32 × Int32 × Int32 × St) ⊕ (Int32 × St)) := some (.inl (v1, v2, v3, v4, (v5 + (-1)), S))
def b_X11_moods_40 (v1 : Int32) (v2 : Int32) (v3 : Int32) (v4 : Int32) (v5 : Int32) (S : St) : Option ((Int32 × Int32 × Int32 × Int32 × Int32 × St) ⊕ (Int32 × St)) := (if (v5 : Int32) < ((-9)) then ((b_X11_moods_98 v2 v3 v4 S).map Sum.inr) else gd (inb v1 8) (nm (si S (19 + 5) v1.toNatClampNeg v5) fun S3 => (L_X2_run 19 ((-1)) S3).bind fun r4 => gd (inb v1 8) ((if (gi r4 58 v1.toNatClampNeg : Int32) ≤ 0 then (b_X11_moods_92 v1 v2 v3 v4 v5 r4) else (b_X11_moods_92 v1 v2 (v3 + 1) (v5 + 9) v5 r4)))))
def l_X11_moods_40 (x : (Int32 × Int32 × Int32 × Int32 × Int32 × St)) : Option ((Int32 × Int32 × Int32 × Int32 × Int32 × St) ⊕ (Int32 × St)) := b_X11_moods_40 x.1 x.2.1 x.2.2.1 x.2.2.2.1 x.2.2.2.2.1 x.2.2.2.2.2
def b_X11_moods_0 (v1 : Int32) (v2 : Int32) (S : St) : Option (Int32 × St) := (L_X11_isNobody v1 S).bind fun r1 => (if (r1 : Int32) = 0 then (L_X11_isOut v2 0 1 S).bind fun r3 => (if (r3 : Int32) = 0 then (L_X10_become 19 1 S).bind fun r5 => (lp 1000 (l_X11_moods_40) (v1, v2, 0, ((-4)), 9, r5)) else some ((-1), S)) else some ((-1), S))
def L_X11_moods (a1 : Int32) (a2 : Int32) (S : St) : Option (Int32 × St) := b_X11_moods_0 a1 a2 S
def b_X11_oddsOf_51 (v1 : Int32) (v4 : Int32) (s0 : Int64) (s1 : Int64) (S : St) : Option ((Int32 × Int64 × Int32) ⊕ Int64) := some (.inl (v1, (s1 * s0), (v4 + 1)))
def b_X11_oddsOf_5 (v1 : Int32) (v2 : Int64) (v4 : Int32) (S : St) : Option ((Int32 × Int64 × Int32) ⊕ Int64) := (if (gi S 1 6 : Int32) ≤ v4 then some (.inr v2) else gd (inb v4 6) ((if ((v1 >>> (v4 &&& 31)) &&& 1 : Int32) = 0 then (b_X11_oddsOf_51 v1 v4 ((10 - (gi S (1 + 10) v4.toNatClampNeg)).toInt64) v2 S) else (b_X11_oddsOf_51 v1 v4 ((gi S (1 + 10) v4.toNatClampNeg).toInt64) v2 S))))
def l_X11_oddsOf_5 (S : St) (x : (Int32 × Int64 × Int32)) : Option ((Int32 × Int64 × Int32) ⊕ Int64) := b_X11_oddsOf_5 x.1 x.2.1 x.2.2 S
def b_X11_oddsOf_0 (v1 : Int32) (S : St) : Option Int64 := (lp 1000 (l_X11_oddsOf_5 S) (v1, 1, 0))
def L_X11_oddsOf (a1 : Int32) (S : St) : Option Int64 := b_X11_oddsOf_0 a1 S
def b_X11_commonDivisor_9 (v4 : Int64) (v6 : Int64) (v8 : Int32) (S : St) : Option ((Int64 × Int64 × Int32) ⊕ Int64) := (if (200 : Int32) ≤ v8 then some (.inr v4) else (if (lg_cmp v6 0 : Int32) = 0 then some (.inr v4) else gd (!((v6 : Int64) == 0)) (some (.inl (v6, (v4 - v4 / v6 * v6), (v8 + 1))))))
def l_X11_commonDivisor_9 (S : St) (x : (Int64 × Int64 × Int32)) : Option ((Int64 × Int64 × Int32) ⊕ Int64) := b_X11_commonDivisor_9 x.1 x.2.1 x.2.2 S
def b_X11_commonDivisor_0 (v0 : Int64) (v2 : Int64) (S : St) : Option Int64 := (lp 1000 (l_X11_commonDivisor_9 S) (v0, v2, 0))
def L_X11_commonDivisor (a0 : Int64) (a2 : Int64) (S : St) : Option Int64 := b_X11_commonDivisor_0 a0 a2 S
def b_X11_expectedYes_104 (v2 : Int32) (v3 : Int64) (v5 : Int64) (S : St) : Option (Int64 × St) := (L_X11_commonDivisor v5 v3 S).bind fun r1 => (if (0 : Int32) < (lg_cmp r1 0) then (if (v2 : Int32) = 0 then gd (!((r1 : Int64) == 0)) (some (v3 / r1, S)) else gd (!((r1 : Int64) == 0)) (some (v5 / r1, S))) else some ((-1000000001), S))
def b_X11_expectedYes_98 (v1 : Int32) (v2 : Int32) (v3 : Int64) (v5 : Int64) (v7 : Int32) (S : St) : Option ((Int32 × Int32 × Int64 × Int64 × Int32 × St) ⊕ (Int64 × St)) := some (.inl (v1, v2, v3, v5, (v7 + 1), S))
def b_X11_expectedYes_37 (v1 : Int32) (v2 : Int32) (v3 : Int64) (v5 : Int64) (v7 : Int32) (S : St) : Option ((Int32 × Int32 × Int64 × Int64 × Int32 × St) ⊕ (Int64 × St)) := (if ((1 : Int32) <<< ((gi S 1 6) &&& 31) : Int32) ≤ v7 then ((b_X11_expectedYes_104 v2 v3 v5 S).map Sum.inr) else (L_X11_oddsOf v7 S).bind fun r2 => (if (lg_cmp r2 0 : Int32) ≤ 0 then (b_X11_expectedYes_98 v1 v2 v3 v5 v7 S) else (L_X2_run 1 v7 S).bind fun r4 => (L_X2_sayYes r4).bind fun r5 => (L_J6_bitCount_0f7a4 (r5 &&& v1) r4).bind fun r6 => (b_X11_expectedYes_98 v1 v2 (v3 + (r2 * r6.toInt64)) v5 v7 r4)))
def l_X11_expectedYes_37 (x : (Int32 × Int32 × Int64 × Int64 × Int32 × St)) : Option ((Int32 × Int32 × Int64 × Int64 × Int32 × St) ⊕ (Int64 × St)) := b_X11_expectedYes_37 x.1 x.2.1 x.2.2.1 x.2.2.2.1 x.2.2.2.2.1 x.2.2.2.2.2
def b_X11_expectedYes_34 (v1 : Int32) (v2 : Int32) (v3 : Int64) (v5 : Int64) (S : St) : Option (Int64 × St) := (lp 1000 (l_X11_expectedYes_37) (v1, v2, v3, v5, 0, S))
def b_X11_expectedYes_8 (v1 : Int32) (v2 : Int32) (v3 : Int64) (v5 : Int64) (v7 : Int32) (S : St) : Option ((Int32 × Int32 × Int64 × Int64 × Int32 × St) ⊕ (Int64 × St)) := (if (gi S 1 6 : Int32) ≤ v7 then ((b_X11_expectedYes_34 v1 v2 v3 v5 S).map Sum.inr) else some (.inl (v1, v2, v3, (v5 * 10), (v7 + 1), S)))
def l_X11_expectedYes_8 (x : (Int32 × Int32 × Int64 × Int64 × Int32 × St)) : Option ((Int32 × Int32 × Int64 × Int64 × Int32 × St) ⊕ (Int64 × St)) := b_X11_expectedYes_8 x.1 x.2.1 x.2.2.1 x.2.2.2.1 x.2.2.2.2.1 x.2.2.2.2.2
def b_X11_expectedYes_0 (v1 : Int32) (v2 : Int32) (S : St) : Option (Int64 × St) := (lp 1000 (l_X11_expectedYes_8) (v1, v2, 0, 1, 0, S))
def L_X11_expectedYes (a1 : Int32) (a2 : Int32) (S : St) : Option (Int64 × St) := b_X11_expectedYes_0 a1 a2 S
section WALKS
variable {p : Program} {e : Env} {s : State} {m : MethodId} {args : Array Value} {below : List Frame} {meth : Method} {c : Code} {D : va_G} {ct : Nat → ClassId} {B : Nat} {Hb : Heap}
set_option maxRecDepth 100000 in
set_option maxHeartbeats 4000000 in
theorem w_X11_comes_0 (l : Launch) {V : Int32 × St} (C0 : XC D ct p s m args meth c cX11_comes 7 (some .int) RX11) (v1 : Int32) (v2 : Int32) (v3 : Int32) (v4 : Int32) (v5 : Int32) (S : St) {H : Heap} {locs : List Loc} {ls : Array Slot} (h : (b_X11_comes_0 v1 v2 v3 v4 v5 S).bind some = some V) (hP : MP D ct B Hb S H) (hS : va_S (AB B) s.heap H locs) (hl : lv_has ls 7 [(0, .ref (B + 0)), (1, .int v1), (2, .int v2), (3, .int v3), (4, .int v4), (5, .int v5)]) : W p l e { frames := 3, cells := 0, slots := 0, locals := 70 } s m args below meth c H locs 0 0 (MQ below (qIw D ct B Hb V) args s 0 0 (AB B)) (F0 m 0 ls []) := by
  obtain ⟨hx, hb, hr, hml, hown, hts, hK, hlocks, hN⟩ := id C0
  unfold b_X11_comes_0 at h
  refine lv_iload_n hx hb dX11_comes_0 rfl (lv_at hl 1 rfl) ?_
  obtain ⟨r1, hr1, h⟩ := ob_bd h
  refine n_I (kS (As := [.int v1]) C0 (c_X11_isNoShelf l v1 hr1) ⟨wd_354, wd_352, wd_353, wd_1⟩ kd_X11_isNoShelf ⟨Nat.le_of_ble_eq_true rfl, Nat.le_of_ble_eq_true rfl⟩ hP rfl hl.1 rfl (Nat.le_of_ble_eq_true rfl) dX11_comes_1 ⟨Nat.le_of_ble_eq_true rfl, Nat.le_of_ble_eq_true rfl⟩) hS (fun H locs hP hS => ?_)
  refine lv_if_ne (tgt := 19) hx hb dX11_comes_4 (by decide) (fun z2 => ?_) (fun z2 => ?_)
  · have h := ob_f h z2
    refine lv_iconst (v := (-1)) hx hb dX11_comes_19 (by decide) ?_
    exact r_Iw C0 hP hS h dX11_comes_20
  · have h := ob_t h z2
    refine lv_iload_n hx hb dX11_comes_7 rfl (lv_at hl 2 rfl) ?_
    refine lv_iload_n hx hb dX11_comes_8 rfl (lv_at hl 3 rfl) ?_
    refine lv_iload hx hb dX11_comes_9 (lv_at hl 4 rfl) ?_
    refine lv_iload hx hb dX11_comes_11 (lv_at hl 5 rfl) ?_
    obtain ⟨r3, hr3, h⟩ := ob_bd h
    refine n_I (kS (As := [.int v2, .int v3, .int v4, .int v5]) C0 (c_X10_isNoOne l v2 v3 v4 v5 hr3) ⟨wd_427, wd_425, wd_426, wd_2⟩ kd_X10_isNoOne ⟨Nat.le_of_ble_eq_true rfl, Nat.le_of_ble_eq_true rfl⟩ hP rfl hl.1 rfl (Nat.le_of_ble_eq_true rfl) dX11_comes_13 ⟨Nat.le_of_ble_eq_true rfl, Nat.le_of_ble_eq_true rfl⟩) hS (fun H locs hP hS => ?_)
    refine lv_if_eq (tgt := 21) hx hb dX11_comes_16 (by decide) (fun z4 => ?_) (fun z4 => ?_)
    · have h := ob_t h z4
      refine lv_aload_n hx hb dX11_comes_21 rfl (lv_at hl 0 rfl) ?_
      refine lv_iload_n hx hb dX11_comes_22 rfl (lv_at hl 1 rfl) ?_
      refine lv_iconst (v := 1) hx hb dX11_comes_23 (by decide) ?_
      obtain ⟨r5, hr5, h⟩ := ob_bd h
      refine n_I (kV (As := [.int v1, .int 1]) C0 (c_X11_shelfRefusal l v1 1 hr5) ⟨wd_431, wd_428, wd_430, wp_3, wd_1⟩ kd_X11_shelfRefusal ⟨Nat.le_of_ble_eq_true rfl, Nat.le_of_ble_eq_true rfl⟩ hP (lay_X11 B ct S) rfl rfl hl.1 rfl (Nat.le_of_ble_eq_true rfl) dX11_comes_24 ⟨Nat.le_of_ble_eq_true rfl, Nat.le_of_ble_eq_true rfl⟩) hS (fun H locs hP hS => ?_)
      refine lv_istore (lv' := [(6, .int r5), (0, .ref (B + 0)), (1, .int v1), (2, .int v2), (3, .int v3), (4, .int v4), (5, .int v5)]) hx hb dX11_comes_27 hl (by decide) rfl (fun ls hl => ?_)
      refine lv_iload hx hb dX11_comes_29 (lv_at hl 0 rfl) ?_
      refine lv_if_eq (tgt := 39) hx hb dX11_comes_31 (by decide) (fun z6 => ?_) (fun z6 => ?_)
      · have h := ob_t h z6
        refine lv_aload_n hx hb dX11_comes_39 rfl (lv_at hl 1 rfl) ?_
        refine x_get C0 hP (lay_X11 B ct S) rfl inG11 0 (by decide) wd_212 (fun _ h => h) rfl dX11_comes_40 ?_
        refine lv_aload_n hx hb dX11_comes_43 rfl (lv_at hl 1 rfl) ?_
        refine x_get C0 hP (lay_X11 B ct S) rfl inG11 6 (by decide) wd_218 (fun _ h => h) rfl dX11_comes_44 ?_
        refine lv_iload_n hx hb dX11_comes_47 rfl (lv_at hl 2 rfl) ?_
        obtain ⟨g7, h⟩ := ob_gd h
        obtain ⟨q8, eq8, h⟩ := ob_bd h
        refine x_aald (v := .ref (B + q8)) C0 hP ((fun S => lay_67 B ct S) S) rfl rfl g7 (by show va_rf ((gr S 67 v1.toNatClampNeg).map (B + ·)) = _; rw [eq8]; rfl) dX11_comes_48 ?_
        refine lv_iload_n hx hb dX11_comes_49 rfl (lv_at hl 3 rfl) ?_
        refine lv_iload_n hx hb dX11_comes_50 rfl (lv_at hl 4 rfl) ?_
        refine lv_iload hx hb dX11_comes_51 (lv_at hl 5 rfl) ?_
        refine lv_iload hx hb dX11_comes_53 (lv_at hl 6 rfl) ?_
        obtain ⟨r9, hr9, h⟩ := ob_bd h
        refine n_Iw (kV (As := [.ref (B + q8), .int v2, .int v3, .int v4, .int v5]) C0 (c_X10_addOne l 1 q8 (Or.inl rfl) v2 v3 v4 v5 hr9) ⟨wd_435, wd_432, wd_433, wd_434, wd_2⟩ kd_X10_addOne ⟨Nat.le_of_ble_eq_true rfl, Nat.le_of_ble_eq_true rfl⟩ hP (lay_X10 B ct S (Or.inl rfl)) rfl rfl hl.1 rfl (Nat.le_of_ble_eq_true rfl) dX11_comes_55 ⟨Nat.le_of_ble_eq_true rfl, Nat.le_of_ble_eq_true rfl⟩) hS (fun H locs hP hS => ?_)
        exact r_Iw C0 hP hS h dX11_comes_58
      · have h := ob_f h z6
        refine lv_iload hx hb dX11_comes_34 (lv_at hl 0 rfl) ?_
        refine lv_goto (tgt := 58) hx hb dX11_comes_36 (by decide) ?_
        exact r_Iw C0 hP hS h dX11_comes_58
    · have h := ob_f h z4
      refine lv_iconst (v := (-1)) hx hb dX11_comes_19 (by decide) ?_
      exact r_Iw C0 hP hS h dX11_comes_20
set_option maxRecDepth 100000 in
set_option maxHeartbeats 4000000 in
theorem c_X11_comes (l : Launch) (a1 : Int32) (a2 : Int32) (a3 : Int32) (a4 : Int32) (a5 : Int32) {D : va_G} {ct : Nat → ClassId} {B : Nat} {Hb : Heap} {S : St} {V : Int32 × St} (h : L_X11_comes a1 a2 a3 a4 a5 S = some V) : Met l yX11_comes (Cond.code yX11_comes cX11_comes 7 (some .int) :: tG) { frames := 3, cells := 0, slots := 0, locals := 70 } (va_Pc [.ref (B + 0), .int a1, .int a2, .int a3, .int a4, .int a5] (MPK D ct B Hb S)) (qIw D ct B Hb V) 0 0 (AB B) := by
  refine mk_met (by decide +kernel) (Nat.le_of_ble_eq_true rfl) (fun p e s m args below meth c ls C0 hP hl _ => ?_)
  have h := ob_of h
  exact w_X11_comes_0 l C0 a1 a2 a3 a4 a5 S h hP va_S.rf (lv_sub hl [0, 1, 2, 3, 4, 5] rfl)
set_option maxRecDepth 100000 in
set_option maxHeartbeats 4000000 in
theorem w_X11_fact_0 (l : Launch) {V : Int32 × St} (C0 : XC D ct p s m args meth c cX11_fact 4 (some .int) RX11) (v1 : Int32) (v2 : Int32) (v3 : Int32) (S : St) {H : Heap} {locs : List Loc} {ls : Array Slot} (h : (b_X11_fact_0 v1 v2 v3 S).bind some = some V) (hP : MP D ct B Hb S H) (hS : va_S (AB B) s.heap H locs) (hl : lv_has ls 4 [(0, .ref (B + 0)), (1, .int v1), (2, .int v2), (3, .int v3)]) : W p l e { frames := 2, cells := 0, slots := 0, locals := 45 } s m args below meth c H locs 0 0 (MQ below (qIw D ct B Hb V) args s 0 0 (AB B)) (F0 m 0 ls []) := by
  obtain ⟨hx, hb, hr, hml, hown, hts, hK, hlocks, hN⟩ := id C0
  unfold b_X11_fact_0 at h
  refine lv_aload_n hx hb dX11_fact_0 rfl (lv_at hl 0 rfl) ?_
  refine x_get C0 hP (lay_X11 B ct S) rfl inG11 0 (by decide) wd_212 (fun _ h => h) rfl dX11_fact_1 ?_
  refine lv_iload_n hx hb dX11_fact_4 rfl (lv_at hl 1 rfl) ?_
  refine lv_iload_n hx hb dX11_fact_5 rfl (lv_at hl 2 rfl) ?_
  refine lv_iload_n hx hb dX11_fact_6 rfl (lv_at hl 3 rfl) ?_
  obtain ⟨r1, hr1, h⟩ := ob_bd h
  refine n_Iw (kV (As := [.int v1, .int v2, .int v3]) C0 (c_X10_addFact l 1 (Or.inl rfl) v1 v2 v3 hr1) ⟨wd_335, wd_332, wd_333, wd_334, wd_2⟩ kd_X10_addFact ⟨Nat.le_of_ble_eq_true rfl, Nat.le_of_ble_eq_true rfl⟩ hP (lay_X10 B ct S (Or.inl rfl)) rfl rfl hl.1 rfl (Nat.le_of_ble_eq_true rfl) dX11_fact_7 ⟨Nat.le_of_ble_eq_true rfl, Nat.le_of_ble_eq_true rfl⟩) hS (fun H locs hP hS => ?_)
  exact r_Iw C0 hP hS h dX11_fact_10
set_option maxRecDepth 100000 in
set_option maxHeartbeats 4000000 in
theorem c_X11_fact (l : Launch) (a1 : Int32) (a2 : Int32) (a3 : Int32) {D : va_G} {ct : Nat → ClassId} {B : Nat} {Hb : Heap} {S : St} {V : Int32 × St} (h : L_X11_fact a1 a2 a3 S = some V) : Met l yX11_fact (Cond.code yX11_fact cX11_fact 4 (some .int) :: tG) { frames := 2, cells := 0, slots := 0, locals := 45 } (va_Pc [.ref (B + 0), .int a1, .int a2, .int a3] (MPK D ct B Hb S)) (qIw D ct B Hb V) 0 0 (AB B) := by
  refine mk_met (by decide +kernel) (Nat.le_of_ble_eq_true rfl) (fun p e s m args below meth c ls C0 hP hl _ => ?_)
  have h := ob_of h
  exact w_X11_fact_0 l C0 a1 a2 a3 S h hP va_S.rf (lv_sub hl [0, 1, 2, 3] rfl)
set_option maxRecDepth 100000 in
set_option maxHeartbeats 4000000 in
theorem w_X11_isNoFact_15 (l : Launch) {V : Int32} (C0 : XC D ct p s m args meth c cX11_isNoFact 2 (some .boolean) RX11) (S : St) {H : Heap} {locs : List Loc} {ls : Array Slot} (h : (b_X11_isNoFact_15 S).bind some = some V) (hP : MP D ct B Hb S H) (hS : va_S (AB B) s.heap H locs) (hl : lv_has ls 2 []) : W p l e { frames := 0, cells := 0, slots := 0, locals := 0 } s m args below meth c H locs 0 0 (MQ below (qI D ct B Hb S V) args s 0 0 (AB B)) (F0 m 15 ls []) := by
  obtain ⟨hx, hb, hr, hml, hown, hts, hK, hlocks, hN⟩ := id C0
  unfold b_X11_isNoFact_15 at h
  refine lv_iconst (v := 1) hx hb dX11_isNoFact_15 (by decide) ?_
  refine lv_goto (tgt := 20) hx hb dX11_isNoFact_16 (by decide) ?_
  exact r_Z C0 hP hS bool_1 h dX11_isNoFact_20
set_option maxRecDepth 100000 in
set_option maxHeartbeats 4000000 in
theorem w_X11_isNoFact_0 (l : Launch) {V : Int32} (C0 : XC D ct p s m args meth c cX11_isNoFact 2 (some .boolean) RX11) (v1 : Int32) (S : St) {H : Heap} {locs : List Loc} {ls : Array Slot} (h : (b_X11_isNoFact_0 v1 S).bind some = some V) (hP : MP D ct B Hb S H) (hS : va_S (AB B) s.heap H locs) (hl : lv_has ls 2 [(0, .ref (B + 0)), (1, .int v1)]) : W p l e { frames := 0, cells := 0, slots := 0, locals := 0 } s m args below meth c H locs 0 0 (MQ below (qI D ct B Hb S V) args s 0 0 (AB B)) (F0 m 0 ls []) := by
  obtain ⟨hx, hb, hr, hml, hown, hts, hK, hlocks, hN⟩ := id C0
  unfold b_X11_isNoFact_0 at h
  refine lv_iload_n hx hb dX11_isNoFact_0 rfl (lv_at hl 1 rfl) ?_
  refine lv_if_lt (tgt := 15) hx hb dX11_isNoFact_1 (by decide) (fun z1 => ?_) (fun z1 => ?_)
  · have h := ob_t h z1
    exact w_X11_isNoFact_15 l C0 S h hP hS (lv_sub hl [] rfl)
  · have h := ob_f h z1
    refine lv_iload_n hx hb dX11_isNoFact_4 rfl (lv_at hl 1 rfl) ?_
    refine lv_aload_n hx hb dX11_isNoFact_5 rfl (lv_at hl 0 rfl) ?_
    refine x_get C0 hP (lay_X11 B ct S) rfl inG11 0 (by decide) wd_212 (fun _ h => h) rfl dX11_isNoFact_6 ?_
    refine x_get C0 hP (lay_X10 B ct S (Or.inl rfl)) rfl inG10 6 (by decide) wd_78 (fun _ h => h) rfl dX11_isNoFact_9 ?_
    refine lv_icmp_lt (tgt := 19) hx hb dX11_isNoFact_12 (by decide) (fun z2 => ?_) (fun z2 => ?_)
    · have h := ob_t h z2
      refine lv_iconst (v := 0) hx hb dX11_isNoFact_19 (by decide) ?_
      exact r_Z C0 hP hS bool_0 h dX11_isNoFact_20
    · have h := ob_f h z2
      exact w_X11_isNoFact_15 l C0 S h hP hS (lv_sub hl [] rfl)
set_option maxRecDepth 100000 in
set_option maxHeartbeats 4000000 in
theorem c_X11_isNoFact (l : Launch) (a1 : Int32) {D : va_G} {ct : Nat → ClassId} {B : Nat} {Hb : Heap} {S : St} {V : Int32} (h : L_X11_isNoFact a1 S = some V) : Met l yX11_isNoFact (Cond.code yX11_isNoFact cX11_isNoFact 2 (some .boolean) :: tG) { frames := 0, cells := 0, slots := 0, locals := 0 } (va_Pc [.ref (B + 0), .int a1] (MPK D ct B Hb S)) (qI D ct B Hb S V) 0 0 (AB B) := by
  refine mk_met (by decide +kernel) (Nat.le_of_ble_eq_true rfl) (fun p e s m args below meth c ls C0 hP hl _ => ?_)
  have h := ob_of h
  exact w_X11_isNoFact_0 l C0 a1 S h hP va_S.rf (lv_sub hl [0, 1] rfl)
set_option maxRecDepth 100000 in
set_option maxHeartbeats 4000000 in
theorem w_X11_chance_0 (l : Launch) {V : Int32 × St} (C0 : XC D ct p s m args meth c cX11_chance 4 (some .int) RX11) (v1 : Int32) (v2 : Int32) (S : St) {H : Heap} {locs : List Loc} {ls : Array Slot} (h : (b_X11_chance_0 v1 v2 S).bind some = some V) (hP : MP D ct B Hb S H) (hS : va_S (AB B) s.heap H locs) (hl : lv_has ls 4 [(0, .ref (B + 0)), (1, .int v1), (2, .int v2)]) : W p l e { frames := 1, cells := 0, slots := 0, locals := 22 } s m args below meth c H locs 0 0 (MQ below (qIw D ct B Hb V) args s 0 0 (AB B)) (F0 m 0 ls []) := by
  obtain ⟨hx, hb, hr, hml, hown, hts, hK, hlocks, hN⟩ := id C0
  unfold b_X11_chance_0 at h
  refine lv_aload_n hx hb dX11_chance_0 rfl (lv_at hl 0 rfl) ?_
  refine lv_iload_n hx hb dX11_chance_1 rfl (lv_at hl 1 rfl) ?_
  obtain ⟨r1, hr1, h⟩ := ob_bd h
  refine n_I (kV (As := [.int v1]) C0 (c_X11_isNoFact l v1 hr1) ⟨wd_346, wd_343, wd_345, wp_2, wd_1⟩ kd_X11_isNoFact ⟨Nat.le_of_ble_eq_true rfl, Nat.le_of_ble_eq_true rfl⟩ hP (lay_X11 B ct S) rfl rfl hl.1 rfl (Nat.le_of_ble_eq_true rfl) dX11_chance_2 ⟨Nat.le_of_ble_eq_true rfl, Nat.le_of_ble_eq_true rfl⟩) hS (fun H locs hP hS => ?_)
  refine lv_if_ne (tgt := 18) hx hb dX11_chance_5 (by decide) (fun z2 => ?_) (fun z2 => ?_)
  · have h := ob_f h z2
    refine lv_iconst (v := (-1)) hx hb dX11_chance_18 (by decide) ?_
    exact r_Iw C0 hP hS h dX11_chance_19
  · have h := ob_t h z2
    refine lv_iload_n hx hb dX11_chance_8 rfl (lv_at hl 2 rfl) ?_
    refine lv_iconst (v := 0) hx hb dX11_chance_9 (by decide) ?_
    refine lv_bipush (v := 10) hx hb dX11_chance_10 (by decide) ?_
    obtain ⟨r3, hr3, h⟩ := ob_bd h
    refine n_I (kS (As := [.int v2, .int 0, .int 10]) C0 (c_X11_isOut l v2 0 10 hr3) ⟨wd_338, wd_347, wd_337, wd_1⟩ kd_X11_isOut ⟨Nat.le_of_ble_eq_true rfl, Nat.le_of_ble_eq_true rfl⟩ hP rfl hl.1 rfl (Nat.le_of_ble_eq_true rfl) dX11_chance_12 ⟨Nat.le_of_ble_eq_true rfl, Nat.le_of_ble_eq_true rfl⟩) hS (fun H locs hP hS => ?_)
    refine lv_if_eq (tgt := 20) hx hb dX11_chance_15 (by decide) (fun z4 => ?_) (fun z4 => ?_)
    · have h := ob_t h z4
      refine lv_aload_n hx hb dX11_chance_20 rfl (lv_at hl 0 rfl) ?_
      refine x_get C0 hP (lay_X11 B ct S) rfl inG11 0 (by decide) wd_212 (fun _ h => h) rfl dX11_chance_21 ?_
      refine x_get C0 hP (lay_X10 B ct S (Or.inl rfl)) rfl inG10 10 (by decide) wd_83 (fun _ h => h) rfl dX11_chance_24 ?_
      refine lv_iload_n hx hb dX11_chance_27 rfl (lv_at hl 1 rfl) ?_
      obtain ⟨g5, h⟩ := ob_gd h
      refine x_iald C0 hP ((fun S => lay_t10 B ct S (Or.inl rfl)) S) g5 dX11_chance_28 ?_
      refine lv_istore_n (lv' := [(3, .int (gi S (1 + 10) v1.toNatClampNeg)), (0, .ref (B + 0)), (1, .int v1), (2, .int v2)]) hx hb dX11_chance_29 rfl hl (by decide) rfl (fun ls hl => ?_)
      refine lv_aload_n hx hb dX11_chance_30 rfl (lv_at hl 1 rfl) ?_
      refine x_get C0 hP (lay_X11 B ct S) rfl inG11 0 (by decide) wd_212 (fun _ h => h) rfl dX11_chance_31 ?_
      refine x_get C0 hP (lay_X10 B ct S (Or.inl rfl)) rfl inG10 10 (by decide) wd_83 (fun _ h => h) rfl dX11_chance_34 ?_
      refine lv_iload_n hx hb dX11_chance_37 rfl (lv_at hl 2 rfl) ?_
      refine lv_iload_n hx hb dX11_chance_38 rfl (lv_at hl 3 rfl) ?_
      obtain ⟨g6, h⟩ := ob_gd h
      obtain ⟨S7, eS7, h⟩ := ob_nm h
      refine x_iast C0 hP hS (fun S => lay_t10 B ct S (Or.inl rfl)) g6 dX11_chance_39 (fun H locs hP hS => ?_)
      rw [← eS7] at hP
      refine lv_iload_n hx hb dX11_chance_40 rfl (lv_at hl 0 rfl) ?_
      exact r_Iw C0 hP hS h dX11_chance_41
    · have h := ob_f h z4
      refine lv_iconst (v := (-1)) hx hb dX11_chance_18 (by decide) ?_
      exact r_Iw C0 hP hS h dX11_chance_19
set_option maxRecDepth 100000 in
set_option maxHeartbeats 4000000 in
theorem c_X11_chance (l : Launch) (a1 : Int32) (a2 : Int32) {D : va_G} {ct : Nat → ClassId} {B : Nat} {Hb : Heap} {S : St} {V : Int32 × St} (h : L_X11_chance a1 a2 S = some V) : Met l yX11_chance (Cond.code yX11_chance cX11_chance 4 (some .int) :: tG) { frames := 1, cells := 0, slots := 0, locals := 22 } (va_Pc [.ref (B + 0), .int a1, .int a2] (MPK D ct B Hb S)) (qIw D ct B Hb V) 0 0 (AB B) := by
  refine mk_met (by decide +kernel) (Nat.le_of_ble_eq_true rfl) (fun p e s m args below meth c ls C0 hP hl _ => ?_)
  have h := ob_of h
  exact w_X11_chance_0 l C0 a1 a2 S h hP va_S.rf (lv_sub hl [0, 1, 2] rfl)
set_option maxRecDepth 100000 in
set_option maxHeartbeats 4000000 in
theorem w_X11_kin_0 (l : Launch) {V : Int32 × St} (C0 : XC D ct p s m args meth c cX11_kin 3 (some .int) RX11) (v1 : Int32) (v2 : Int32) (S : St) {H : Heap} {locs : List Loc} {ls : Array Slot} (h : (b_X11_kin_0 v1 v2 S).bind some = some V) (hP : MP D ct B Hb S H) (hS : va_S (AB B) s.heap H locs) (hl : lv_has ls 3 [(0, .ref (B + 0)), (1, .int v1), (2, .int v2)]) : W p l e { frames := 2, cells := 0, slots := 0, locals := 44 } s m args below meth c H locs 0 0 (MQ below (qIw D ct B Hb V) args s 0 0 (AB B)) (F0 m 0 ls []) := by
  obtain ⟨hx, hb, hr, hml, hown, hts, hK, hlocks, hN⟩ := id C0
  unfold b_X11_kin_0 at h
  refine lv_aload_n hx hb dX11_kin_0 rfl (lv_at hl 0 rfl) ?_
  refine x_get C0 hP (lay_X11 B ct S) rfl inG11 0 (by decide) wd_212 (fun _ h => h) rfl dX11_kin_1 ?_
  refine lv_iload_n hx hb dX11_kin_4 rfl (lv_at hl 1 rfl) ?_
  refine lv_iload_n hx hb dX11_kin_5 rfl (lv_at hl 2 rfl) ?_
  obtain ⟨r1, hr1, h⟩ := ob_bd h
  refine n_Iw (kV (As := [.int v1, .int v2]) C0 (c_X10_turnKin l 1 (Or.inl rfl) v1 v2 hr1) ⟨wd_444, wd_441, wd_442, wd_443, wd_2⟩ kd_X10_turnKin ⟨Nat.le_of_ble_eq_true rfl, Nat.le_of_ble_eq_true rfl⟩ hP (lay_X10 B ct S (Or.inl rfl)) rfl rfl hl.1 rfl (Nat.le_of_ble_eq_true rfl) dX11_kin_6 ⟨Nat.le_of_ble_eq_true rfl, Nat.le_of_ble_eq_true rfl⟩) hS (fun H locs hP hS => ?_)
  exact r_Iw C0 hP hS h dX11_kin_9
set_option maxRecDepth 100000 in
set_option maxHeartbeats 4000000 in
theorem c_X11_kin (l : Launch) (a1 : Int32) (a2 : Int32) {D : va_G} {ct : Nat → ClassId} {B : Nat} {Hb : Heap} {S : St} {V : Int32 × St} (h : L_X11_kin a1 a2 S = some V) : Met l yX11_kin (Cond.code yX11_kin cX11_kin 3 (some .int) :: tG) { frames := 2, cells := 0, slots := 0, locals := 44 } (va_Pc [.ref (B + 0), .int a1, .int a2] (MPK D ct B Hb S)) (qIw D ct B Hb V) 0 0 (AB B) := by
  refine mk_met (by decide +kernel) (Nat.le_of_ble_eq_true rfl) (fun p e s m args below meth c ls C0 hP hl _ => ?_)
  have h := ob_of h
  exact w_X11_kin_0 l C0 a1 a2 S h hP va_S.rf (lv_sub hl [0, 1, 2] rfl)
set_option maxRecDepth 100000 in
set_option maxHeartbeats 4000000 in
theorem w_X11_set_0 (l : Launch) {V : Int32 × St} (C0 : XC D ct p s m args meth c cX11_set 3 (some .int) RX11) (v1 : Int32) (v2 : Int32) (S : St) {H : Heap} {locs : List Loc} {ls : Array Slot} (h : (b_X11_set_0 v1 v2 S).bind some = some V) (hP : MP D ct B Hb S H) (hS : va_S (AB B) s.heap H locs) (hl : lv_has ls 3 [(0, .ref (B + 0)), (1, .int v1), (2, .int v2)]) : W p l e { frames := 2, cells := 0, slots := 0, locals := 46 } s m args below meth c H locs 0 0 (MQ below (qIw D ct B Hb V) args s 0 0 (AB B)) (F0 m 0 ls []) := by
  obtain ⟨hx, hb, hr, hml, hown, hts, hK, hlocks, hN⟩ := id C0
  unfold b_X11_set_0 at h
  refine lv_aload_n hx hb dX11_set_0 rfl (lv_at hl 0 rfl) ?_
  refine x_get C0 hP (lay_X11 B ct S) rfl inG11 0 (by decide) wd_212 (fun _ h => h) rfl dX11_set_1 ?_
  refine lv_iload_n hx hb dX11_set_4 rfl (lv_at hl 1 rfl) ?_
  refine lv_iload_n hx hb dX11_set_5 rfl (lv_at hl 2 rfl) ?_
  obtain ⟨r1, hr1, h⟩ := ob_bd h
  refine n_Iw (kV (As := [.int v1, .int v2]) C0 (c_X10_changeRule l 1 (Or.inl rfl) v1 v2 hr1) ⟨wd_456, wd_453, wd_454, wd_455, wd_2⟩ kd_X10_changeRule ⟨Nat.le_of_ble_eq_true rfl, Nat.le_of_ble_eq_true rfl⟩ hP (lay_X10 B ct S (Or.inl rfl)) rfl rfl hl.1 rfl (Nat.le_of_ble_eq_true rfl) dX11_set_6 ⟨Nat.le_of_ble_eq_true rfl, Nat.le_of_ble_eq_true rfl⟩) hS (fun H locs hP hS => ?_)
  exact r_Iw C0 hP hS h dX11_set_9
set_option maxRecDepth 100000 in
set_option maxHeartbeats 4000000 in
theorem c_X11_set (l : Launch) (a1 : Int32) (a2 : Int32) {D : va_G} {ct : Nat → ClassId} {B : Nat} {Hb : Heap} {S : St} {V : Int32 × St} (h : L_X11_set a1 a2 S = some V) : Met l yX11_set (Cond.code yX11_set cX11_set 3 (some .int) :: tG) { frames := 2, cells := 0, slots := 0, locals := 46 } (va_Pc [.ref (B + 0), .int a1, .int a2] (MPK D ct B Hb S)) (qIw D ct B Hb V) 0 0 (AB B) := by
  refine mk_met (by decide +kernel) (Nat.le_of_ble_eq_true rfl) (fun p e s m args below meth c ls C0 hP hl _ => ?_)
  have h := ob_of h
  exact w_X11_set_0 l C0 a1 a2 S h hP va_S.rf (lv_sub hl [0, 1, 2] rfl)
set_option maxRecDepth 100000 in
set_option maxHeartbeats 4000000 in
theorem w_X11_fate_0 (l : Launch) {V : Int32 × St} (C0 : XC D ct p s m args meth c cX11_fate 3 (some .int) RX11) (v1 : Int32) (v2 : Int32) (S : St) {H : Heap} {locs : List Loc} {ls : Array Slot} (h : (b_X11_fate_0 v1 v2 S).bind some = some V) (hP : MP D ct B Hb S H) (hS : va_S (AB B) s.heap H locs) (hl : lv_has ls 3 [(0, .ref (B + 0)), (1, .int v1), (2, .int v2)]) : W p l e { frames := 5, cells := 0, slots := 0, locals := 117 } s m args below meth c H locs 0 0 (MQ below (qIw D ct B Hb V) args s 0 0 (AB B)) (F0 m 0 ls []) := by
  obtain ⟨hx, hb, hr, hml, hown, hts, hK, hlocks, hN⟩ := id C0
  unfold b_X11_fate_0 at h
  refine lv_aload_n hx hb dX11_fate_0 rfl (lv_at hl 0 rfl) ?_
  refine lv_iload_n hx hb dX11_fate_1 rfl (lv_at hl 1 rfl) ?_
  obtain ⟨r1, hr1, h⟩ := ob_bd h
  refine n_I (kV (As := [.int v1]) C0 (c_X11_isNobody l v1 hr1) ⟨wd_620, wd_617, wd_619, wp_6, wd_1⟩ kd_X11_isNobody ⟨Nat.le_of_ble_eq_true rfl, Nat.le_of_ble_eq_true rfl⟩ hP (lay_X11 B ct S) rfl rfl hl.1 rfl (Nat.le_of_ble_eq_true rfl) dX11_fate_2 ⟨Nat.le_of_ble_eq_true rfl, Nat.le_of_ble_eq_true rfl⟩) hS (fun H locs hP hS => ?_)
  refine lv_if_ne (tgt := 18) hx hb dX11_fate_5 (by decide) (fun z2 => ?_) (fun z2 => ?_)
  · have h := ob_f h z2
    refine lv_iconst (v := (-1)) hx hb dX11_fate_18 (by decide) ?_
    exact r_Iw C0 hP hS h dX11_fate_19
  · have h := ob_t h z2
    refine lv_iload_n hx hb dX11_fate_8 rfl (lv_at hl 2 rfl) ?_
    refine lv_iconst (v := 0) hx hb dX11_fate_9 (by decide) ?_
    refine lv_bipush (v := 8) hx hb dX11_fate_10 (by decide) ?_
    obtain ⟨r3, hr3, h⟩ := ob_bd h
    refine n_I (kS (As := [.int v2, .int 0, .int 8]) C0 (c_X11_isOut l v2 0 8 hr3) ⟨wd_338, wd_347, wd_337, wd_1⟩ kd_X11_isOut ⟨Nat.le_of_ble_eq_true rfl, Nat.le_of_ble_eq_true rfl⟩ hP rfl hl.1 rfl (Nat.le_of_ble_eq_true rfl) dX11_fate_12 ⟨Nat.le_of_ble_eq_true rfl, Nat.le_of_ble_eq_true rfl⟩) hS (fun H locs hP hS => ?_)
    refine lv_if_eq (tgt := 20) hx hb dX11_fate_15 (by decide) (fun z4 => ?_) (fun z4 => ?_)
    · have h := ob_t h z4
      refine lv_aload_n hx hb dX11_fate_20 rfl (lv_at hl 0 rfl) ?_
      refine x_get C0 hP (lay_X11 B ct S) rfl inG11 4 (by decide) wd_216 (fun _ h => h) rfl dX11_fate_21 ?_
      refine lv_aload_n hx hb dX11_fate_24 rfl (lv_at hl 0 rfl) ?_
      refine x_get C0 hP (lay_X11 B ct S) rfl inG11 0 (by decide) wd_212 (fun _ h => h) rfl dX11_fate_25 ?_
      refine lv_iconst (v := (-1)) hx hb dX11_fate_28 (by decide) ?_
      obtain ⟨r5, hr5, h⟩ := ob_bd h
      refine n_Vw (kV (As := [.ref (B + 1), .int ((-1))]) C0 (c_X2_run l 1 (Or.inl rfl) ((-1)) hr5) ⟨wd_624, wd_621, wd_622, wd_623, wd_4⟩ kd_X2_run ⟨Nat.le_of_ble_eq_true rfl, Nat.le_of_ble_eq_true rfl⟩ hP (lay_X2 B ct S) rfl rfl hl.1 rfl (Nat.le_of_ble_eq_true rfl) dX11_fate_29 ⟨Nat.le_of_ble_eq_true rfl, Nat.le_of_ble_eq_true rfl⟩) hS (fun H locs hP hS => ?_)
      refine lv_aload_n hx hb dX11_fate_32 rfl (lv_at hl 0 rfl) ?_
      refine x_get C0 hP (lay_X11 B ct r5) rfl inG11 4 (by decide) wd_216 (fun _ h => h) rfl dX11_fate_33 ?_
      refine lv_iload_n hx hb dX11_fate_36 rfl (lv_at hl 1 rfl) ?_
      refine lv_iload_n hx hb dX11_fate_37 rfl (lv_at hl 2 rfl) ?_
      obtain ⟨r6, hr6, h⟩ := ob_bd h
      refine n_I (kV (As := [.int v1, .int v2]) C0 (c_X2_fateOf l v1 v2 hr6) ⟨wd_789, wd_786, wd_787, wd_788, wd_4⟩ kd_X2_fateOf ⟨Nat.le_of_ble_eq_true rfl, Nat.le_of_ble_eq_true rfl⟩ hP (lay_X2 B ct r5) rfl rfl hl.1 rfl (Nat.le_of_ble_eq_true rfl) dX11_fate_38 ⟨Nat.le_of_ble_eq_true rfl, Nat.le_of_ble_eq_true rfl⟩) hS (fun H locs hP hS => ?_)
      exact r_Iw C0 hP hS h dX11_fate_41
    · have h := ob_f h z4
      refine lv_iconst (v := (-1)) hx hb dX11_fate_18 (by decide) ?_
      exact r_Iw C0 hP hS h dX11_fate_19
set_option maxRecDepth 100000 in
set_option maxHeartbeats 4000000 in
theorem c_X11_fate (l : Launch) (a1 : Int32) (a2 : Int32) {D : va_G} {ct : Nat → ClassId} {B : Nat} {Hb : Heap} {S : St} {V : Int32 × St} (h : L_X11_fate a1 a2 S = some V) : Met l yX11_fate (Cond.code yX11_fate cX11_fate 3 (some .int) :: tG) { frames := 5, cells := 0, slots := 0, locals := 117 } (va_Pc [.ref (B + 0), .int a1, .int a2] (MPK D ct B Hb S)) (qIw D ct B Hb V) 0 0 (AB B) := by
  refine mk_met (by decide +kernel) (Nat.le_of_ble_eq_true rfl) (fun p e s m args below meth c ls C0 hP hl _ => ?_)
  have h := ob_of h
  exact w_X11_fate_0 l C0 a1 a2 S h hP va_S.rf (lv_sub hl [0, 1, 2] rfl)
set_option maxRecDepth 100000 in
set_option maxHeartbeats 4000000 in
theorem w_X11_sum_0 (l : Launch) {V : Int32 × St} (C0 : XC D ct p s m args meth c cX11_sum 2 (some .int) RX11) (v1 : Int32) (S : St) {H : Heap} {locs : List Loc} {ls : Array Slot} (h : (b_X11_sum_0 v1 S).bind some = some V) (hP : MP D ct B Hb S H) (hS : va_S (AB B) s.heap H locs) (hl : lv_has ls 2 [(0, .ref (B + 0)), (1, .int v1)]) : W p l e { frames := 5, cells := 0, slots := 0, locals := 117 } s m args below meth c H locs 0 0 (MQ below (qIw D ct B Hb V) args s 0 0 (AB B)) (F0 m 0 ls []) := by
  obtain ⟨hx, hb, hr, hml, hown, hts, hK, hlocks, hN⟩ := id C0
  unfold b_X11_sum_0 at h
  refine lv_aload_n hx hb dX11_sum_0 rfl (lv_at hl 0 rfl) ?_
  refine lv_iload_n hx hb dX11_sum_1 rfl (lv_at hl 1 rfl) ?_
  obtain ⟨r1, hr1, h⟩ := ob_bd h
  refine n_I (kV (As := [.int v1]) C0 (c_X11_isNobody l v1 hr1) ⟨wd_620, wd_617, wd_619, wp_6, wd_1⟩ kd_X11_isNobody ⟨Nat.le_of_ble_eq_true rfl, Nat.le_of_ble_eq_true rfl⟩ hP (lay_X11 B ct S) rfl rfl hl.1 rfl (Nat.le_of_ble_eq_true rfl) dX11_sum_2 ⟨Nat.le_of_ble_eq_true rfl, Nat.le_of_ble_eq_true rfl⟩) hS (fun H locs hP hS => ?_)
  refine lv_if_eq (tgt := 11) hx hb dX11_sum_5 (by decide) (fun z2 => ?_) (fun z2 => ?_)
  · have h := ob_t h z2
    refine lv_aload_n hx hb dX11_sum_11 rfl (lv_at hl 0 rfl) ?_
    refine x_get C0 hP (lay_X11 B ct S) rfl inG11 4 (by decide) wd_216 (fun _ h => h) rfl dX11_sum_12 ?_
    refine lv_aload_n hx hb dX11_sum_15 rfl (lv_at hl 0 rfl) ?_
    refine x_get C0 hP (lay_X11 B ct S) rfl inG11 0 (by decide) wd_212 (fun _ h => h) rfl dX11_sum_16 ?_
    refine lv_iconst (v := (-1)) hx hb dX11_sum_19 (by decide) ?_
    obtain ⟨r3, hr3, h⟩ := ob_bd h
    refine n_Vw (kV (As := [.ref (B + 1), .int ((-1))]) C0 (c_X2_run l 1 (Or.inl rfl) ((-1)) hr3) ⟨wd_624, wd_621, wd_622, wd_623, wd_4⟩ kd_X2_run ⟨Nat.le_of_ble_eq_true rfl, Nat.le_of_ble_eq_true rfl⟩ hP (lay_X2 B ct S) rfl rfl hl.1 rfl (Nat.le_of_ble_eq_true rfl) dX11_sum_20 ⟨Nat.le_of_ble_eq_true rfl, Nat.le_of_ble_eq_true rfl⟩) hS (fun H locs hP hS => ?_)
    refine lv_aload_n hx hb dX11_sum_23 rfl (lv_at hl 0 rfl) ?_
    refine x_get C0 hP (lay_X11 B ct r3) rfl inG11 4 (by decide) wd_216 (fun _ h => h) rfl dX11_sum_24 ?_
    refine x_get C0 hP (lay_X2 B ct r3) rfl inG2 3 (by decide) wd_153 (fun _ h => h) rfl dX11_sum_27 ?_
    refine lv_iload_n hx hb dX11_sum_30 rfl (lv_at hl 1 rfl) ?_
    obtain ⟨g4, h⟩ := ob_gd h
    refine x_iald C0 hP ((fun S => lay_57 B ct S) r3) g4 dX11_sum_31 ?_
    exact r_Iw C0 hP hS h dX11_sum_32
  · have h := ob_f h z2
    refine lv_ldc (v := (-1000000001)) hx hb hown (hts _ wd_810) dX11_sum_8 ?_
    exact r_Iw C0 hP hS h dX11_sum_10
set_option maxRecDepth 100000 in
set_option maxHeartbeats 4000000 in
theorem c_X11_sum (l : Launch) (a1 : Int32) {D : va_G} {ct : Nat → ClassId} {B : Nat} {Hb : Heap} {S : St} {V : Int32 × St} (h : L_X11_sum a1 S = some V) : Met l yX11_sum (Cond.code yX11_sum cX11_sum 2 (some .int) :: tG) { frames := 5, cells := 0, slots := 0, locals := 117 } (va_Pc [.ref (B + 0), .int a1] (MPK D ct B Hb S)) (qIw D ct B Hb V) 0 0 (AB B) := by
  refine mk_met (by decide +kernel) (Nat.le_of_ble_eq_true rfl) (fun p e s m args below meth c ls C0 hP hl _ => ?_)
  have h := ob_of h
  exact w_X11_sum_0 l C0 a1 S h hP va_S.rf (lv_sub hl [0, 1] rfl)
set_option maxRecDepth 100000 in
set_option maxHeartbeats 4000000 in
theorem w_X11_sums_0 (l : Launch) {V : Int32 × St} (C0 : XC D ct p s m args meth c cX11_sums 2 (some .int) RX11) (v1 : Int32) (S : St) {H : Heap} {locs : List Loc} {ls : Array Slot} (h : (b_X11_sums_0 v1 S).bind some = some V) (hP : MP D ct B Hb S H) (hS : va_S (AB B) s.heap H locs) (hl : lv_has ls 2 [(0, .ref (B + 0)), (1, .int v1)]) : W p l e { frames := 5, cells := 0, slots := 0, locals := 117 } s m args below meth c H locs 0 0 (MQ below (qIw D ct B Hb V) args s 0 0 (AB B)) (F0 m 0 ls []) := by
  obtain ⟨hx, hb, hr, hml, hown, hts, hK, hlocks, hN⟩ := id C0
  unfold b_X11_sums_0 at h
  refine lv_iload_n hx hb dX11_sums_0 rfl (lv_at hl 1 rfl) ?_
  refine lv_iconst (v := 0) hx hb dX11_sums_1 (by decide) ?_
  refine lv_iconst (v := 5) hx hb dX11_sums_2 (by decide) ?_
  obtain ⟨r1, hr1, h⟩ := ob_bd h
  refine n_I (kS (As := [.int v1, .int 0, .int 5]) C0 (c_X11_isOut l v1 0 5 hr1) ⟨wd_338, wd_347, wd_337, wd_1⟩ kd_X11_isOut ⟨Nat.le_of_ble_eq_true rfl, Nat.le_of_ble_eq_true rfl⟩ hP rfl hl.1 rfl (Nat.le_of_ble_eq_true rfl) dX11_sums_3 ⟨Nat.le_of_ble_eq_true rfl, Nat.le_of_ble_eq_true rfl⟩) hS (fun H locs hP hS => ?_)
  refine lv_if_eq (tgt := 11) hx hb dX11_sums_6 (by decide) (fun z2 => ?_) (fun z2 => ?_)
  · have h := ob_t h z2
    refine lv_aload_n hx hb dX11_sums_11 rfl (lv_at hl 0 rfl) ?_
    refine x_get C0 hP (lay_X11 B ct S) rfl inG11 4 (by decide) wd_216 (fun _ h => h) rfl dX11_sums_12 ?_
    refine lv_aload_n hx hb dX11_sums_15 rfl (lv_at hl 0 rfl) ?_
    refine x_get C0 hP (lay_X11 B ct S) rfl inG11 0 (by decide) wd_212 (fun _ h => h) rfl dX11_sums_16 ?_
    refine lv_iconst (v := (-1)) hx hb dX11_sums_19 (by decide) ?_
    obtain ⟨r3, hr3, h⟩ := ob_bd h
    refine n_Vw (kV (As := [.ref (B + 1), .int ((-1))]) C0 (c_X2_run l 1 (Or.inl rfl) ((-1)) hr3) ⟨wd_624, wd_621, wd_622, wd_623, wd_4⟩ kd_X2_run ⟨Nat.le_of_ble_eq_true rfl, Nat.le_of_ble_eq_true rfl⟩ hP (lay_X2 B ct S) rfl rfl hl.1 rfl (Nat.le_of_ble_eq_true rfl) dX11_sums_20 ⟨Nat.le_of_ble_eq_true rfl, Nat.le_of_ble_eq_true rfl⟩) hS (fun H locs hP hS => ?_)
    refine lv_aload_n hx hb dX11_sums_23 rfl (lv_at hl 0 rfl) ?_
    refine x_get C0 hP (lay_X11 B ct r3) rfl inG11 4 (by decide) wd_216 (fun _ h => h) rfl dX11_sums_24 ?_
    refine lv_iload_n hx hb dX11_sums_27 rfl (lv_at hl 1 rfl) ?_
    obtain ⟨r4, hr4, h⟩ := ob_bd h
    refine n_I (kV (As := [.int v1]) C0 (c_X2_countOf l v1 hr4) ⟨wd_835, wd_832, wd_833, wd_834, wd_4⟩ kd_X2_countOf ⟨Nat.le_of_ble_eq_true rfl, Nat.le_of_ble_eq_true rfl⟩ hP (lay_X2 B ct r3) rfl rfl hl.1 rfl (Nat.le_of_ble_eq_true rfl) dX11_sums_28 ⟨Nat.le_of_ble_eq_true rfl, Nat.le_of_ble_eq_true rfl⟩) hS (fun H locs hP hS => ?_)
    exact r_Iw C0 hP hS h dX11_sums_31
  · have h := ob_f h z2
    refine lv_iconst (v := (-1)) hx hb dX11_sums_9 (by decide) ?_
    exact r_Iw C0 hP hS h dX11_sums_10
set_option maxRecDepth 100000 in
set_option maxHeartbeats 4000000 in
theorem c_X11_sums (l : Launch) (a1 : Int32) {D : va_G} {ct : Nat → ClassId} {B : Nat} {Hb : Heap} {S : St} {V : Int32 × St} (h : L_X11_sums a1 S = some V) : Met l yX11_sums (Cond.code yX11_sums cX11_sums 2 (some .int) :: tG) { frames := 5, cells := 0, slots := 0, locals := 117 } (va_Pc [.ref (B + 0), .int a1] (MPK D ct B Hb S)) (qIw D ct B Hb V) 0 0 (AB B) := by
  refine mk_met (by decide +kernel) (Nat.le_of_ble_eq_true rfl) (fun p e s m args below meth c ls C0 hP hl _ => ?_)
  have h := ob_of h
  exact w_X11_sums_0 l C0 a1 S h hP va_S.rf (lv_sub hl [0, 1] rfl)
set_option maxRecDepth 100000 in
set_option maxHeartbeats 4000000 in
theorem w_X11_chain_0 (l : Launch) {V : Int32 × St} (C0 : XC D ct p s m args meth c cX11_chain 2 (some .int) RX11) (v1 : Int32) (S : St) {H : Heap} {locs : List Loc} {ls : Array Slot} (h : (b_X11_chain_0 v1 S).bind some = some V) (hP : MP D ct B Hb S H) (hS : va_S (AB B) s.heap H locs) (hl : lv_has ls 2 [(0, .ref (B + 0)), (1, .int v1)]) : W p l e { frames := 5, cells := 0, slots := 0, locals := 117 } s m args below meth c H locs 0 0 (MQ below (qIw D ct B Hb V) args s 0 0 (AB B)) (F0 m 0 ls []) := by
  obtain ⟨hx, hb, hr, hml, hown, hts, hK, hlocks, hN⟩ := id C0
  unfold b_X11_chain_0 at h
  refine lv_aload_n hx hb dX11_chain_0 rfl (lv_at hl 0 rfl) ?_
  refine lv_iload_n hx hb dX11_chain_1 rfl (lv_at hl 1 rfl) ?_
  obtain ⟨r1, hr1, h⟩ := ob_bd h
  refine n_I (kV (As := [.int v1]) C0 (c_X11_isNobody l v1 hr1) ⟨wd_620, wd_617, wd_619, wp_6, wd_1⟩ kd_X11_isNobody ⟨Nat.le_of_ble_eq_true rfl, Nat.le_of_ble_eq_true rfl⟩ hP (lay_X11 B ct S) rfl rfl hl.1 rfl (Nat.le_of_ble_eq_true rfl) dX11_chain_2 ⟨Nat.le_of_ble_eq_true rfl, Nat.le_of_ble_eq_true rfl⟩) hS (fun H locs hP hS => ?_)
  refine lv_if_eq (tgt := 10) hx hb dX11_chain_5 (by decide) (fun z2 => ?_) (fun z2 => ?_)
  · have h := ob_t h z2
    refine lv_aload_n hx hb dX11_chain_10 rfl (lv_at hl 0 rfl) ?_
    refine x_get C0 hP (lay_X11 B ct S) rfl inG11 4 (by decide) wd_216 (fun _ h => h) rfl dX11_chain_11 ?_
    refine lv_aload_n hx hb dX11_chain_14 rfl (lv_at hl 0 rfl) ?_
    refine x_get C0 hP (lay_X11 B ct S) rfl inG11 0 (by decide) wd_212 (fun _ h => h) rfl dX11_chain_15 ?_
    refine lv_iconst (v := (-1)) hx hb dX11_chain_18 (by decide) ?_
    obtain ⟨r3, hr3, h⟩ := ob_bd h
    refine n_Vw (kV (As := [.ref (B + 1), .int ((-1))]) C0 (c_X2_run l 1 (Or.inl rfl) ((-1)) hr3) ⟨wd_624, wd_621, wd_622, wd_623, wd_4⟩ kd_X2_run ⟨Nat.le_of_ble_eq_true rfl, Nat.le_of_ble_eq_true rfl⟩ hP (lay_X2 B ct S) rfl rfl hl.1 rfl (Nat.le_of_ble_eq_true rfl) dX11_chain_19 ⟨Nat.le_of_ble_eq_true rfl, Nat.le_of_ble_eq_true rfl⟩) hS (fun H locs hP hS => ?_)
    refine lv_aload_n hx hb dX11_chain_22 rfl (lv_at hl 0 rfl) ?_
    refine x_get C0 hP (lay_X11 B ct r3) rfl inG11 4 (by decide) wd_216 (fun _ h => h) rfl dX11_chain_23 ?_
    refine lv_iload_n hx hb dX11_chain_26 rfl (lv_at hl 1 rfl) ?_
    obtain ⟨r4, hr4, h⟩ := ob_bd h
    refine n_I (kV (As := [.int v1]) C0 (c_X2_chainOf l v1 hr4) ⟨wd_805, wd_802, wd_803, wd_804, wd_4⟩ kd_X2_chainOf ⟨Nat.le_of_ble_eq_true rfl, Nat.le_of_ble_eq_true rfl⟩ hP (lay_X2 B ct r3) rfl rfl hl.1 rfl (Nat.le_of_ble_eq_true rfl) dX11_chain_27 ⟨Nat.le_of_ble_eq_true rfl, Nat.le_of_ble_eq_true rfl⟩) hS (fun H locs hP hS => ?_)
    exact r_Iw C0 hP hS h dX11_chain_30
  · have h := ob_f h z2
    refine lv_iconst (v := (-1)) hx hb dX11_chain_8 (by decide) ?_
    exact r_Iw C0 hP hS h dX11_chain_9
set_option maxRecDepth 100000 in
set_option maxHeartbeats 4000000 in
theorem c_X11_chain (l : Launch) (a1 : Int32) {D : va_G} {ct : Nat → ClassId} {B : Nat} {Hb : Heap} {S : St} {V : Int32 × St} (h : L_X11_chain a1 S = some V) : Met l yX11_chain (Cond.code yX11_chain cX11_chain 2 (some .int) :: tG) { frames := 5, cells := 0, slots := 0, locals := 117 } (va_Pc [.ref (B + 0), .int a1] (MPK D ct B Hb S)) (qIw D ct B Hb V) 0 0 (AB B) := by
  refine mk_met (by decide +kernel) (Nat.le_of_ble_eq_true rfl) (fun p e s m args below meth c ls C0 hP hl _ => ?_)
  have h := ob_of h
  exact w_X11_chain_0 l C0 a1 S h hP va_S.rf (lv_sub hl [0, 1] rfl)
set_option maxRecDepth 100000 in
set_option maxHeartbeats 4000000 in
theorem w_X11_longest_16 (l : Launch) {V : Int32 × St} (C0 : XC D ct p s m args meth c cX11_longest 3 (some .int) RX11) (n0 : Nat) (ih0 : ∀ (v1 : Int32) (v2 : Int32) (S : St) (H : Heap) (locs : List Loc) (ls : Array Slot), (lp n0 (l_X11_longest_16) (v1, v2, S)).bind some = some V → MP D ct B Hb S H → va_S (AB B) s.heap H locs → lv_has ls 3 [(0, .ref (B + 0)), (1, .int v1), (2, .int v2)] → W p l e { frames := 5, cells := 0, slots := 0, locals := 117 } s m args below meth c H locs 0 0 (MQ below (qIw D ct B Hb V) args s 0 0 (AB B)) (F0 m 16 ls [])) (v1 : Int32) (v2 : Int32) (S : St) {H : Heap} {locs : List Loc} {ls : Array Slot} (h : (b_X11_longest_16 v1 v2 S).bind (lpF n0 (l_X11_longest_16) some) = some V) (hP : MP D ct B Hb S H) (hS : va_S (AB B) s.heap H locs) (hl : lv_has ls 3 [(0, .ref (B + 0)), (1, .int v1), (2, .int v2)]) : W p l e { frames := 5, cells := 0, slots := 0, locals := 117 } s m args below meth c H locs 0 0 (MQ below (qIw D ct B Hb V) args s 0 0 (AB B)) (F0 m 16 ls []) := by
  obtain ⟨hx, hb, hr, hml, hown, hts, hK, hlocks, hN⟩ := id C0
  unfold b_X11_longest_16 at h
  refine lv_iload_n hx hb dX11_longest_16 rfl (lv_at hl 2 rfl) ?_
  refine lv_aload_n hx hb dX11_longest_17 rfl (lv_at hl 0 rfl) ?_
  refine x_get C0 hP (lay_X11 B ct S) rfl inG11 0 (by decide) wd_212 (fun _ h => h) rfl dX11_longest_18 ?_
  refine x_get C0 hP (lay_X10 B ct S (Or.inl rfl)) rfl inG10 0 (by decide) wd_61 (fun _ h => h) rfl dX11_longest_21 ?_
  refine lv_icmp_ge (tgt := 46) hx hb dX11_longest_24 (by decide) (fun z1 => ?_) (fun z1 => ?_)
  · have h := ob_t h z1
    refine lv_iload_n hx hb dX11_longest_46 rfl (lv_at hl 1 rfl) ?_
    exact r_Iw C0 hP hS h dX11_longest_47
  · have h := ob_f h z1
    refine lv_iload_n hx hb dX11_longest_27 rfl (lv_at hl 1 rfl) ?_
    refine lv_aload_n hx hb dX11_longest_28 rfl (lv_at hl 0 rfl) ?_
    refine x_get C0 hP (lay_X11 B ct S) rfl inG11 4 (by decide) wd_216 (fun _ h => h) rfl dX11_longest_29 ?_
    refine lv_iload_n hx hb dX11_longest_32 rfl (lv_at hl 2 rfl) ?_
    obtain ⟨r2, hr2, h⟩ := ob_bd h
    refine n_I (kV (As := [.int v2]) C0 (c_X2_chainOf l v2 hr2) ⟨wd_805, wd_802, wd_803, wd_804, wd_4⟩ kd_X2_chainOf ⟨Nat.le_of_ble_eq_true rfl, Nat.le_of_ble_eq_true rfl⟩ hP (lay_X2 B ct S) rfl rfl hl.1 rfl (Nat.le_of_ble_eq_true rfl) dX11_longest_33 ⟨Nat.le_of_ble_eq_true rfl, Nat.le_of_ble_eq_true rfl⟩) hS (fun H locs hP hS => ?_)
    refine x_max C0 hl.1 ⟨wd_856, wd_709, wd_18, wd_710⟩ (Nat.le_of_ble_eq_true rfl) (Nat.le_of_ble_eq_true rfl) ⟨Nat.le_of_ble_eq_true rfl, Nat.le_of_ble_eq_true rfl⟩ dX11_longest_36 ?_
    obtain ⟨m3, em3, h⟩ := ob_nm h
    rw [← em3]
    refine lv_istore_n (lv' := [(1, .int m3), (0, .ref (B + 0)), (2, .int v2)]) hx hb dX11_longest_39 rfl hl (by decide) rfl (fun ls hl => ?_)
    refine lv_iinc (v := v2 + 1) (lv' := [(2, .int (v2 + 1)), (1, .int m3), (0, .ref (B + 0))]) hx hb dX11_longest_40 hl (k := 2) rfl rfl (by decide) rfl (fun ls hl => ?_)
    refine lv_goto (tgt := 16) hx hb dX11_longest_43 (by decide) ?_
    exact ih0 m3 (v2 + 1) S _ _ _ h hP hS (lv_sub hl [2, 1, 0] rfl)
set_option maxRecDepth 100000 in
set_option maxHeartbeats 4000000 in
theorem wl_X11_longest_16 (l : Launch) {V : Int32 × St} (C0 : XC D ct p s m args meth c cX11_longest 3 (some .int) RX11)  : ∀ (n0 : Nat) (v1 : Int32) (v2 : Int32) (S : St) {H : Heap} {locs : List Loc} {ls : Array Slot}, (lp n0 (l_X11_longest_16) (v1, v2, S)).bind some = some V → MP D ct B Hb S H → va_S (AB B) s.heap H locs → lv_has ls 3 [(0, .ref (B + 0)), (1, .int v1), (2, .int v2)] → W p l e { frames := 5, cells := 0, slots := 0, locals := 117 } s m args below meth c H locs 0 0 (MQ below (qIw D ct B Hb V) args s 0 0 (AB B)) (F0 m 16 ls []) := by
  intro n0
  induction n0 with
  | zero =>
    intro v1 v2 S H locs ls h hP hS hl
    exact (lp_0 h).elim
  | succ n0 ih0 =>
    intro v1 v2 S H locs ls h hP hS hl
    have h := lp_s h
    exact w_X11_longest_16 l C0 n0 (fun v1 v2 S H locs ls h hP hS hl => ih0 v1 v2 S h hP hS hl) v1 v2 S h hP hS hl
set_option maxRecDepth 100000 in
set_option maxHeartbeats 4000000 in
theorem w_X11_longest_0 (l : Launch) {V : Int32 × St} (C0 : XC D ct p s m args meth c cX11_longest 3 (some .int) RX11) (S : St) {H : Heap} {locs : List Loc} {ls : Array Slot} (h : (b_X11_longest_0 S).bind some = some V) (hP : MP D ct B Hb S H) (hS : va_S (AB B) s.heap H locs) (hl : lv_has ls 3 [(0, .ref (B + 0))]) : W p l e { frames := 5, cells := 0, slots := 0, locals := 117 } s m args below meth c H locs 0 0 (MQ below (qIw D ct B Hb V) args s 0 0 (AB B)) (F0 m 0 ls []) := by
  obtain ⟨hx, hb, hr, hml, hown, hts, hK, hlocks, hN⟩ := id C0
  unfold b_X11_longest_0 at h
  refine lv_aload_n hx hb dX11_longest_0 rfl (lv_at hl 0 rfl) ?_
  refine x_get C0 hP (lay_X11 B ct S) rfl inG11 4 (by decide) wd_216 (fun _ h => h) rfl dX11_longest_1 ?_
  refine lv_aload_n hx hb dX11_longest_4 rfl (lv_at hl 0 rfl) ?_
  refine x_get C0 hP (lay_X11 B ct S) rfl inG11 0 (by decide) wd_212 (fun _ h => h) rfl dX11_longest_5 ?_
  refine lv_iconst (v := (-1)) hx hb dX11_longest_8 (by decide) ?_
  obtain ⟨r1, hr1, h⟩ := ob_bd h
  refine n_Vw (kV (As := [.ref (B + 1), .int ((-1))]) C0 (c_X2_run l 1 (Or.inl rfl) ((-1)) hr1) ⟨wd_624, wd_621, wd_622, wd_623, wd_4⟩ kd_X2_run ⟨Nat.le_of_ble_eq_true rfl, Nat.le_of_ble_eq_true rfl⟩ hP (lay_X2 B ct S) rfl rfl hl.1 rfl (Nat.le_of_ble_eq_true rfl) dX11_longest_9 ⟨Nat.le_of_ble_eq_true rfl, Nat.le_of_ble_eq_true rfl⟩) hS (fun H locs hP hS => ?_)
  refine lv_iconst (v := 0) hx hb dX11_longest_12 (by decide) ?_
  refine lv_istore_n (lv' := [(1, .int 0), (0, .ref (B + 0))]) hx hb dX11_longest_13 rfl hl (by decide) rfl (fun ls hl => ?_)
  refine lv_iconst (v := 0) hx hb dX11_longest_14 (by decide) ?_
  refine lv_istore_n (lv' := [(2, .int 0), (1, .int 0), (0, .ref (B + 0))]) hx hb dX11_longest_15 rfl hl (by decide) rfl (fun ls hl => ?_)
  exact wl_X11_longest_16 l C0 1000 0 0 r1 h hP hS (lv_sub hl [2, 1, 0] rfl)
set_option maxRecDepth 100000 in
set_option maxHeartbeats 4000000 in
theorem c_X11_longest (l : Launch) {D : va_G} {ct : Nat → ClassId} {B : Nat} {Hb : Heap} {S : St} {V : Int32 × St} (h : L_X11_longest S = some V) : Met l yX11_longest (Cond.code yX11_longest cX11_longest 3 (some .int) :: tG) { frames := 5, cells := 0, slots := 0, locals := 117 } (va_Pc [.ref (B + 0)] (MPK D ct B Hb S)) (qIw D ct B Hb V) 0 0 (AB B) := by
  refine mk_met (by decide +kernel) (Nat.le_of_ble_eq_true rfl) (fun p e s m args below meth c ls C0 hP hl _ => ?_)
  have h := ob_of h
  exact w_X11_longest_0 l C0 S h hP va_S.rf (lv_sub hl [0] rfl)
set_option maxRecDepth 100000 in
set_option maxHeartbeats 4000000 in
theorem w_X11_yes_71 (l : Launch) {V : Int32 × St} (C0 : XC D ct p s m args meth c cX11_yes 4 (some .int) RX11) (n0 : Nat) (ih0 : ∀ (v1 : Int32) (v2 : Int32) (v3 : Int32) (S : St) (H : Heap) (locs : List Loc) (ls : Array Slot), (lp n0 (l_X11_yes_25) (v1, v2, v3, S)).bind some = some V → MP D ct B Hb S H → va_S (AB B) s.heap H locs → lv_has ls 4 [(0, .ref (B + 0)), (1, .int v1), (2, .int v2), (3, .int v3)] → W p l e { frames := 5, cells := 0, slots := 0, locals := 117 } s m args below meth c H locs 0 0 (MQ below (qIw D ct B Hb V) args s 0 0 (AB B)) (F0 m 25 ls [])) (v1 : Int32) (v2 : Int32) (v3 : Int32) (S : St) {H : Heap} {locs : List Loc} {ls : Array Slot} (h : (b_X11_yes_71 v1 v2 v3 S).bind (lpF n0 (l_X11_yes_25) some) = some V) (hP : MP D ct B Hb S H) (hS : va_S (AB B) s.heap H locs) (hl : lv_has ls 4 [(0, .ref (B + 0)), (1, .int v1), (2, .int v2), (3, .int v3)]) : W p l e { frames := 5, cells := 0, slots := 0, locals := 117 } s m args below meth c H locs 0 0 (MQ below (qIw D ct B Hb V) args s 0 0 (AB B)) (F0 m 71 ls []) := by
  obtain ⟨hx, hb, hr, hml, hown, hts, hK, hlocks, hN⟩ := id C0
  unfold b_X11_yes_71 at h
  refine lv_iinc (v := v3 + 1) (lv' := [(3, .int (v3 + 1)), (0, .ref (B + 0)), (1, .int v1), (2, .int v2)]) hx hb dX11_yes_71 hl (k := 3) rfl rfl (by decide) rfl (fun ls hl => ?_)
  refine lv_goto (tgt := 25) hx hb dX11_yes_74 (by decide) ?_
  exact ih0 v1 v2 (v3 + 1) S _ _ _ h hP hS (lv_sub hl [1, 2, 3, 0] rfl)
set_option maxRecDepth 100000 in
set_option maxHeartbeats 4000000 in
theorem w_X11_yes_25 (l : Launch) {V : Int32 × St} (C0 : XC D ct p s m args meth c cX11_yes 4 (some .int) RX11) (n0 : Nat) (ih0 : ∀ (v1 : Int32) (v2 : Int32) (v3 : Int32) (S : St) (H : Heap) (locs : List Loc) (ls : Array Slot), (lp n0 (l_X11_yes_25) (v1, v2, v3, S)).bind some = some V → MP D ct B Hb S H → va_S (AB B) s.heap H locs → lv_has ls 4 [(0, .ref (B + 0)), (1, .int v1), (2, .int v2), (3, .int v3)] → W p l e { frames := 5, cells := 0, slots := 0, locals := 117 } s m args below meth c H locs 0 0 (MQ below (qIw D ct B Hb V) args s 0 0 (AB B)) (F0 m 25 ls [])) (v1 : Int32) (v2 : Int32) (v3 : Int32) (S : St) {H : Heap} {locs : List Loc} {ls : Array Slot} (h : (b_X11_yes_25 v1 v2 v3 S).bind (lpF n0 (l_X11_yes_25) some) = some V) (hP : MP D ct B Hb S H) (hS : va_S (AB B) s.heap H locs) (hl : lv_has ls 4 [(0, .ref (B + 0)), (1, .int v1), (2, .int v2), (3, .int v3)]) : W p l e { frames := 5, cells := 0, slots := 0, locals := 117 } s m args below meth c H locs 0 0 (MQ below (qIw D ct B Hb V) args s 0 0 (AB B)) (F0 m 25 ls []) := by
  obtain ⟨hx, hb, hr, hml, hown, hts, hK, hlocks, hN⟩ := id C0
  unfold b_X11_yes_25 at h
  refine lv_iload_n hx hb dX11_yes_25 rfl (lv_at hl 3 rfl) ?_
  refine lv_bipush (v := 23) hx hb dX11_yes_26 (by decide) ?_
  refine lv_icmp_gt (tgt := 77) hx hb dX11_yes_28 (by decide) (fun z1 => ?_) (fun z1 => ?_)
  · have h := ob_t h z1
    refine lv_iload_n hx hb dX11_yes_77 rfl (lv_at hl 2 rfl) ?_
    exact r_Iw C0 hP hS h dX11_yes_78
  · have h := ob_f h z1
    refine lv_aload_n hx hb dX11_yes_31 rfl (lv_at hl 0 rfl) ?_
    refine x_get C0 hP (lay_X11 B ct S) rfl inG11 1 (by decide) wd_213 (fun _ h => h) rfl dX11_yes_32 ?_
    refine x_get C0 hP (lay_X10 B ct S (Or.inr (Or.inl rfl))) rfl inG10 3 (by decide) wd_70 (fun _ h => h) rfl dX11_yes_35 ?_
    refine lv_iload_n hx hb dX11_yes_38 rfl (lv_at hl 1 rfl) ?_
    refine lv_iload_n hx hb dX11_yes_39 rfl (lv_at hl 3 rfl) ?_
    obtain ⟨g2, h⟩ := ob_gd h
    obtain ⟨S3, eS3, h⟩ := ob_nm h
    refine x_iast C0 hP hS (fun S => lay_t4 B ct S (Or.inr (Or.inl rfl))) g2 dX11_yes_40 (fun H locs hP hS => ?_)
    rw [← eS3] at hP
    refine lv_aload_n hx hb dX11_yes_41 rfl (lv_at hl 0 rfl) ?_
    refine x_get C0 hP (lay_X11 B ct S3) rfl inG11 4 (by decide) wd_216 (fun _ h => h) rfl dX11_yes_42 ?_
    refine lv_aload_n hx hb dX11_yes_45 rfl (lv_at hl 0 rfl) ?_
    refine x_get C0 hP (lay_X11 B ct S3) rfl inG11 1 (by decide) wd_213 (fun _ h => h) rfl dX11_yes_46 ?_
    refine lv_iconst (v := (-1)) hx hb dX11_yes_49 (by decide) ?_
    obtain ⟨r4, hr4, h⟩ := ob_bd h
    refine n_Vw (kV (As := [.ref (B + 19), .int ((-1))]) C0 (c_X2_run l 19 (Or.inr (Or.inl rfl)) ((-1)) hr4) ⟨wd_624, wd_621, wd_622, wd_623, wd_4⟩ kd_X2_run ⟨Nat.le_of_ble_eq_true rfl, Nat.le_of_ble_eq_true rfl⟩ hP (lay_X2 B ct S3) rfl rfl hl.1 rfl (Nat.le_of_ble_eq_true rfl) dX11_yes_50 ⟨Nat.le_of_ble_eq_true rfl, Nat.le_of_ble_eq_true rfl⟩) hS (fun H locs hP hS => ?_)
    refine lv_aload_n hx hb dX11_yes_53 rfl (lv_at hl 0 rfl) ?_
    refine x_get C0 hP (lay_X11 B ct r4) rfl inG11 4 (by decide) wd_216 (fun _ h => h) rfl dX11_yes_54 ?_
    refine x_get C0 hP (lay_X2 B ct r4) rfl inG2 4 (by decide) wd_155 (fun _ h => h) rfl dX11_yes_57 ?_
    refine lv_iload_n hx hb dX11_yes_60 rfl (lv_at hl 1 rfl) ?_
    obtain ⟨g5, h⟩ := ob_gd h
    refine x_iald C0 hP ((fun S => lay_58 B ct S) r4) g5 dX11_yes_61 ?_
    refine lv_if_le (tgt := 71) hx hb dX11_yes_62 (by decide) (fun z6 => ?_) (fun z6 => ?_)
    · have h := ob_t h z6
      exact w_X11_yes_71 l C0 n0 ih0 v1 v2 v3 r4 h hP hS (lv_sub hl [0, 1, 2, 3] rfl)
    · have h := ob_f h z6
      refine lv_iload_n hx hb dX11_yes_65 rfl (lv_at hl 2 rfl) ?_
      refine lv_iconst (v := 1) hx hb dX11_yes_66 (by decide) ?_
      refine lv_iload_n hx hb dX11_yes_67 rfl (lv_at hl 3 rfl) ?_
      refine lv_ishl hx hb dX11_yes_68 ?_
      refine lv_ior hx hb dX11_yes_69 ?_
      refine lv_istore_n (lv' := [(2, .int (v2 ||| ((1 : Int32) <<< (v3 &&& 31)))), (0, .ref (B + 0)), (1, .int v1), (3, .int v3)]) hx hb dX11_yes_70 rfl hl (by decide) rfl (fun ls hl => ?_)
      exact w_X11_yes_71 l C0 n0 ih0 v1 (v2 ||| ((1 : Int32) <<< (v3 &&& 31))) v3 r4 h hP hS (lv_sub hl [1, 2, 0, 3] rfl)
set_option maxRecDepth 100000 in
set_option maxHeartbeats 4000000 in
theorem wl_X11_yes_25 (l : Launch) {V : Int32 × St} (C0 : XC D ct p s m args meth c cX11_yes 4 (some .int) RX11)  : ∀ (n0 : Nat) (v1 : Int32) (v2 : Int32) (v3 : Int32) (S : St) {H : Heap} {locs : List Loc} {ls : Array Slot}, (lp n0 (l_X11_yes_25) (v1, v2, v3, S)).bind some = some V → MP D ct B Hb S H → va_S (AB B) s.heap H locs → lv_has ls 4 [(0, .ref (B + 0)), (1, .int v1), (2, .int v2), (3, .int v3)] → W p l e { frames := 5, cells := 0, slots := 0, locals := 117 } s m args below meth c H locs 0 0 (MQ below (qIw D ct B Hb V) args s 0 0 (AB B)) (F0 m 25 ls []) := by
  intro n0
  induction n0 with
  | zero =>
    intro v1 v2 v3 S H locs ls h hP hS hl
    exact (lp_0 h).elim
  | succ n0 ih0 =>
    intro v1 v2 v3 S H locs ls h hP hS hl
    have h := lp_s h
    exact w_X11_yes_25 l C0 n0 (fun v1 v2 v3 S H locs ls h hP hS hl => ih0 v1 v2 v3 S h hP hS hl) v1 v2 v3 S h hP hS hl
set_option maxRecDepth 100000 in
set_option maxHeartbeats 4000000 in
theorem w_X11_yes_0 (l : Launch) {V : Int32 × St} (C0 : XC D ct p s m args meth c cX11_yes 4 (some .int) RX11) (v1 : Int32) (S : St) {H : Heap} {locs : List Loc} {ls : Array Slot} (h : (b_X11_yes_0 v1 S).bind some = some V) (hP : MP D ct B Hb S H) (hS : va_S (AB B) s.heap H locs) (hl : lv_has ls 4 [(0, .ref (B + 0)), (1, .int v1)]) : W p l e { frames := 5, cells := 0, slots := 0, locals := 117 } s m args below meth c H locs 0 0 (MQ below (qIw D ct B Hb V) args s 0 0 (AB B)) (F0 m 0 ls []) := by
  obtain ⟨hx, hb, hr, hml, hown, hts, hK, hlocks, hN⟩ := id C0
  unfold b_X11_yes_0 at h
  refine lv_aload_n hx hb dX11_yes_0 rfl (lv_at hl 0 rfl) ?_
  refine lv_iload_n hx hb dX11_yes_1 rfl (lv_at hl 1 rfl) ?_
  obtain ⟨r1, hr1, h⟩ := ob_bd h
  refine n_I (kV (As := [.int v1]) C0 (c_X11_isNobody l v1 hr1) ⟨wd_620, wd_617, wd_619, wp_6, wd_1⟩ kd_X11_isNobody ⟨Nat.le_of_ble_eq_true rfl, Nat.le_of_ble_eq_true rfl⟩ hP (lay_X11 B ct S) rfl rfl hl.1 rfl (Nat.le_of_ble_eq_true rfl) dX11_yes_2 ⟨Nat.le_of_ble_eq_true rfl, Nat.le_of_ble_eq_true rfl⟩) hS (fun H locs hP hS => ?_)
  refine lv_if_eq (tgt := 10) hx hb dX11_yes_5 (by decide) (fun z2 => ?_) (fun z2 => ?_)
  · have h := ob_t h z2
    refine lv_aload_n hx hb dX11_yes_10 rfl (lv_at hl 0 rfl) ?_
    refine x_get C0 hP (lay_X11 B ct S) rfl inG11 1 (by decide) wd_213 (fun _ h => h) rfl dX11_yes_11 ?_
    refine lv_aload_n hx hb dX11_yes_14 rfl (lv_at hl 0 rfl) ?_
    refine x_get C0 hP (lay_X11 B ct S) rfl inG11 0 (by decide) wd_212 (fun _ h => h) rfl dX11_yes_15 ?_
    obtain ⟨r3, hr3, h⟩ := ob_bd h
    refine n_Vw (kV (As := [.ref (B + 1)]) C0 (c_X10_become l 19 1 (Or.inr (Or.inl rfl)) (Or.inl rfl) hr3) ⟨wd_490, wd_487, wd_488, wd_489, wd_2⟩ kd_X10_become ⟨Nat.le_of_ble_eq_true rfl, Nat.le_of_ble_eq_true rfl⟩ hP (lay_X10 B ct S (Or.inr (Or.inl rfl))) rfl rfl hl.1 rfl (Nat.le_of_ble_eq_true rfl) dX11_yes_18 ⟨Nat.le_of_ble_eq_true rfl, Nat.le_of_ble_eq_true rfl⟩) hS (fun H locs hP hS => ?_)
    refine lv_iconst (v := 0) hx hb dX11_yes_21 (by decide) ?_
    refine lv_istore_n (lv' := [(2, .int 0), (0, .ref (B + 0)), (1, .int v1)]) hx hb dX11_yes_22 rfl hl (by decide) rfl (fun ls hl => ?_)
    refine lv_iconst (v := 0) hx hb dX11_yes_23 (by decide) ?_
    refine lv_istore_n (lv' := [(3, .int 0), (2, .int 0), (0, .ref (B + 0)), (1, .int v1)]) hx hb dX11_yes_24 rfl hl (by decide) rfl (fun ls hl => ?_)
    exact wl_X11_yes_25 l C0 1000 v1 0 0 r3 h hP hS (lv_sub hl [2, 3, 1, 0] rfl)
  · have h := ob_f h z2
    refine lv_iconst (v := (-1)) hx hb dX11_yes_8 (by decide) ?_
    exact r_Iw C0 hP hS h dX11_yes_9
set_option maxRecDepth 100000 in
set_option maxHeartbeats 4000000 in
theorem c_X11_yes (l : Launch) (a1 : Int32) {D : va_G} {ct : Nat → ClassId} {B : Nat} {Hb : Heap} {S : St} {V : Int32 × St} (h : L_X11_yes a1 S = some V) : Met l yX11_yes (Cond.code yX11_yes cX11_yes 4 (some .int) :: tG) { frames := 5, cells := 0, slots := 0, locals := 117 } (va_Pc [.ref (B + 0), .int a1] (MPK D ct B Hb S)) (qIw D ct B Hb V) 0 0 (AB B) := by
  refine mk_met (by decide +kernel) (Nat.le_of_ble_eq_true rfl) (fun p e s m args below meth c ls C0 hP hl _ => ?_)
  have h := ob_of h
  exact w_X11_yes_0 l C0 a1 S h hP va_S.rf (lv_sub hl [0, 1] rfl)
set_option maxRecDepth 100000 in
set_option maxHeartbeats 4000000 in
theorem w_X11_moods_98 (l : Launch) {V : Int32 × St} (C0 : XC D ct p s m args meth c cX11_moods 6 (some .int) RX11) (v2 : Int32) (v3 : Int32) (v4 : Int32) (S : St) {H : Heap} {locs : List Loc} {ls : Array Slot} (h : (b_X11_moods_98 v2 v3 v4 S).bind some = some V) (hP : MP D ct B Hb S H) (hS : va_S (AB B) s.heap H locs) (hl : lv_has ls 6 [(2, .int v2), (3, .int v3), (4, .int v4)]) : W p l e { frames := 5, cells := 0, slots := 0, locals := 117 } s m args below meth c H locs 0 0 (MQ below (qIw D ct B Hb V) args s 0 0 (AB B)) (F0 m 98 ls []) := by
  obtain ⟨hx, hb, hr, hml, hown, hts, hK, hlocks, hN⟩ := id C0
  unfold b_X11_moods_98 at h
  refine lv_iload_n hx hb dX11_moods_98 rfl (lv_at hl 0 rfl) ?_
  refine lv_if_ne (tgt := 106) hx hb dX11_moods_99 (by decide) (fun z1 => ?_) (fun z1 => ?_)
  · have h := ob_f h z1
    refine lv_iload hx hb dX11_moods_106 (lv_at hl 2 rfl) ?_
    exact r_Iw C0 hP hS h dX11_moods_108
  · have h := ob_t h z1
    refine lv_iload_n hx hb dX11_moods_102 rfl (lv_at hl 1 rfl) ?_
    refine lv_goto (tgt := 108) hx hb dX11_moods_103 (by decide) ?_
    exact r_Iw C0 hP hS h dX11_moods_108
set_option maxRecDepth 100000 in
set_option maxHeartbeats 4000000 in
theorem w_X11_moods_92 (l : Launch) {V : Int32 × St} (C0 : XC D ct p s m args meth c cX11_moods 6 (some .int) RX11) (n0 : Nat) (ih0 : ∀ (v1 : Int32) (v2 : Int32) (v3 : Int32) (v4 : Int32) (v5 : Int32) (S : St) (H : Heap) (locs : List Loc) (ls : Array Slot), (lp n0 (l_X11_moods_40) (v1, v2, v3, v4, v5, S)).bind some = some V → MP D ct B Hb S H → va_S (AB B) s.heap H locs → lv_has ls 6 [(0, .ref (B + 0)), (1, .int v1), (2, .int v2), (3, .int v3), (4, .int v4), (5, .int v5)] → W p l e { frames := 5, cells := 0, slots := 0, locals := 117 } s m args below meth c H locs 0 0 (MQ below (qIw D ct B Hb V) args s 0 0 (AB B)) (F0 m 40 ls [])) (v1 : Int32) (v2 : Int32) (v3 : Int32) (v4 : Int32) (v5 : Int32) (S : St) {H : Heap} {locs : List Loc} {ls : Array Slot} (h : (b_X11_moods_92 v1 v2 v3 v4 v5 S).bind (lpF n0 (l_X11_moods_40) some) = some V) (hP : MP D ct B Hb S H) (hS : va_S (AB B) s.heap H locs) (hl : lv_has ls 6 [(0, .ref (B + 0)), (1, .int v1), (2, .int v2), (3, .int v3), (4, .int v4), (5, .int v5)]) : W p l e { frames := 5, cells := 0, slots := 0, locals := 117 } s m args below meth c H locs 0 0 (MQ below (qIw D ct B Hb V) args s 0 0 (AB B)) (F0 m 92 ls []) := by
  obtain ⟨hx, hb, hr, hml, hown, hts, hK, hlocks, hN⟩ := id C0
  unfold b_X11_moods_92 at h
  refine lv_iinc (v := v5 + (-1)) (lv' := [(5, .int (v5 + (-1))), (0, .ref (B + 0)), (1, .int v1), (2, .int v2), (3, .int v3), (4, .int v4)]) hx hb dX11_moods_92 hl (k := 5) rfl rfl (by decide) rfl (fun ls hl => ?_)
  refine lv_goto (tgt := 40) hx hb dX11_moods_95 (by decide) ?_
  exact ih0 v1 v2 v3 v4 (v5 + (-1)) S _ _ _ h hP hS (lv_sub hl [1, 2, 3, 4, 5, 0] rfl)
set_option maxRecDepth 100000 in
set_option maxHeartbeats 4000000 in
theorem w_X11_moods_40 (l : Launch) {V : Int32 × St} (C0 : XC D ct p s m args meth c cX11_moods 6 (some .int) RX11) (n0 : Nat) (ih0 : ∀ (v1 : Int32) (v2 : Int32) (v3 : Int32) (v4 : Int32) (v5 : Int32) (S : St) (H : Heap) (locs : List Loc) (ls : Array Slot), (lp n0 (l_X11_moods_40) (v1, v2, v3, v4, v5, S)).bind some = some V → MP D ct B Hb S H → va_S (AB B) s.heap H locs → lv_has ls 6 [(0, .ref (B + 0)), (1, .int v1), (2, .int v2), (3, .int v3), (4, .int v4), (5, .int v5)] → W p l e { frames := 5, cells := 0, slots := 0, locals := 117 } s m args below meth c H locs 0 0 (MQ below (qIw D ct B Hb V) args s 0 0 (AB B)) (F0 m 40 ls [])) (v1 : Int32) (v2 : Int32) (v3 : Int32) (v4 : Int32) (v5 : Int32) (S : St) {H : Heap} {locs : List Loc} {ls : Array Slot} (h : (b_X11_moods_40 v1 v2 v3 v4 v5 S).bind (lpF n0 (l_X11_moods_40) some) = some V) (hP : MP D ct B Hb S H) (hS : va_S (AB B) s.heap H locs) (hl : lv_has ls 6 [(0, .ref (B + 0)), (1, .int v1), (2, .int v2), (3, .int v3), (4, .int v4), (5, .int v5)]) : W p l e { frames := 5, cells := 0, slots := 0, locals := 117 } s m args below meth c H locs 0 0 (MQ below (qIw D ct B Hb V) args s 0 0 (AB B)) (F0 m 40 ls []) := by
  obtain ⟨hx, hb, hr, hml, hown, hts, hK, hlocks, hN⟩ := id C0
  unfold b_X11_moods_40 at h
  refine lv_iload hx hb dX11_moods_40 (lv_at hl 5 rfl) ?_
  refine lv_bipush (v := (-9)) hx hb dX11_moods_42 (by decide) ?_
  refine lv_icmp_lt (tgt := 98) hx hb dX11_moods_44 (by decide) (fun z1 => ?_) (fun z1 => ?_)
  · have h := ob_t h z1
    have h := ob_mp h
    exact w_X11_moods_98 l C0 v2 v3 v4 S h hP hS (lv_sub hl [2, 3, 4] rfl)
  · have h := ob_f h z1
    refine lv_aload_n hx hb dX11_moods_47 rfl (lv_at hl 0 rfl) ?_
    refine x_get C0 hP (lay_X11 B ct S) rfl inG11 1 (by decide) wd_213 (fun _ h => h) rfl dX11_moods_48 ?_
    refine x_get C0 hP (lay_X10 B ct S (Or.inr (Or.inl rfl))) rfl inG10 4 (by decide) wd_72 (fun _ h => h) rfl dX11_moods_51 ?_
    refine lv_iload_n hx hb dX11_moods_54 rfl (lv_at hl 1 rfl) ?_
    refine lv_iload hx hb dX11_moods_55 (lv_at hl 5 rfl) ?_
    obtain ⟨g2, h⟩ := ob_gd h
    obtain ⟨S3, eS3, h⟩ := ob_nm h
    refine x_iast C0 hP hS (fun S => lay_t5 B ct S (Or.inr (Or.inl rfl))) g2 dX11_moods_57 (fun H locs hP hS => ?_)
    rw [← eS3] at hP
    refine lv_aload_n hx hb dX11_moods_58 rfl (lv_at hl 0 rfl) ?_
    refine x_get C0 hP (lay_X11 B ct S3) rfl inG11 4 (by decide) wd_216 (fun _ h => h) rfl dX11_moods_59 ?_
    refine lv_aload_n hx hb dX11_moods_62 rfl (lv_at hl 0 rfl) ?_
    refine x_get C0 hP (lay_X11 B ct S3) rfl inG11 1 (by decide) wd_213 (fun _ h => h) rfl dX11_moods_63 ?_
    refine lv_iconst (v := (-1)) hx hb dX11_moods_66 (by decide) ?_
    obtain ⟨r4, hr4, h⟩ := ob_bd h
    refine n_Vw (kV (As := [.ref (B + 19), .int ((-1))]) C0 (c_X2_run l 19 (Or.inr (Or.inl rfl)) ((-1)) hr4) ⟨wd_624, wd_621, wd_622, wd_623, wd_4⟩ kd_X2_run ⟨Nat.le_of_ble_eq_true rfl, Nat.le_of_ble_eq_true rfl⟩ hP (lay_X2 B ct S3) rfl rfl hl.1 rfl (Nat.le_of_ble_eq_true rfl) dX11_moods_67 ⟨Nat.le_of_ble_eq_true rfl, Nat.le_of_ble_eq_true rfl⟩) hS (fun H locs hP hS => ?_)
    refine lv_aload_n hx hb dX11_moods_70 rfl (lv_at hl 0 rfl) ?_
    refine x_get C0 hP (lay_X11 B ct r4) rfl inG11 4 (by decide) wd_216 (fun _ h => h) rfl dX11_moods_71 ?_
    refine x_get C0 hP (lay_X2 B ct r4) rfl inG2 4 (by decide) wd_155 (fun _ h => h) rfl dX11_moods_74 ?_
    refine lv_iload_n hx hb dX11_moods_77 rfl (lv_at hl 1 rfl) ?_
    obtain ⟨g5, h⟩ := ob_gd h
    refine x_iald C0 hP ((fun S => lay_58 B ct S) r4) g5 dX11_moods_78 ?_
    refine lv_if_le (tgt := 92) hx hb dX11_moods_79 (by decide) (fun z6 => ?_) (fun z6 => ?_)
    · have h := ob_t h z6
      exact w_X11_moods_92 l C0 n0 ih0 v1 v2 v3 v4 v5 r4 h hP hS (lv_sub hl [0, 1, 2, 3, 4, 5] rfl)
    · have h := ob_f h z6
      refine lv_iinc (v := v3 + 1) (lv' := [(3, .int (v3 + 1)), (0, .ref (B + 0)), (1, .int v1), (2, .int v2), (4, .int v4), (5, .int v5)]) hx hb dX11_moods_82 hl (k := 3) rfl rfl (by decide) rfl (fun ls hl => ?_)
      refine lv_iload hx hb dX11_moods_85 (lv_at hl 5 rfl) ?_
      refine lv_bipush (v := 9) hx hb dX11_moods_87 (by decide) ?_
      refine lv_iadd hx hb dX11_moods_89 ?_
      refine lv_istore (lv' := [(4, .int (v5 + 9)), (3, .int (v3 + 1)), (0, .ref (B + 0)), (1, .int v1), (2, .int v2), (5, .int v5)]) hx hb dX11_moods_90 hl (by decide) rfl (fun ls hl => ?_)
      exact w_X11_moods_92 l C0 n0 ih0 v1 v2 (v3 + 1) (v5 + 9) v5 r4 h hP hS (lv_sub hl [2, 3, 4, 1, 0, 5] rfl)
set_option maxRecDepth 100000 in
set_option maxHeartbeats 4000000 in
theorem wl_X11_moods_40 (l : Launch) {V : Int32 × St} (C0 : XC D ct p s m args meth c cX11_moods 6 (some .int) RX11)  : ∀ (n0 : Nat) (v1 : Int32) (v2 : Int32) (v3 : Int32) (v4 : Int32) (v5 : Int32) (S : St) {H : Heap} {locs : List Loc} {ls : Array Slot}, (lp n0 (l_X11_moods_40) (v1, v2, v3, v4, v5, S)).bind some = some V → MP D ct B Hb S H → va_S (AB B) s.heap H locs → lv_has ls 6 [(0, .ref (B + 0)), (1, .int v1), (2, .int v2), (3, .int v3), (4, .int v4), (5, .int v5)] → W p l e { frames := 5, cells := 0, slots := 0, locals := 117 } s m args below meth c H locs 0 0 (MQ below (qIw D ct B Hb V) args s 0 0 (AB B)) (F0 m 40 ls []) := by
  intro n0
  induction n0 with
  | zero =>
    intro v1 v2 v3 v4 v5 S H locs ls h hP hS hl
    exact (lp_0 h).elim
  | succ n0 ih0 =>
    intro v1 v2 v3 v4 v5 S H locs ls h hP hS hl
    have h := lp_s h
    exact w_X11_moods_40 l C0 n0 (fun v1 v2 v3 v4 v5 S H locs ls h hP hS hl => ih0 v1 v2 v3 v4 v5 S h hP hS hl) v1 v2 v3 v4 v5 S h hP hS hl
set_option maxRecDepth 100000 in
set_option maxHeartbeats 4000000 in
theorem w_X11_moods_0 (l : Launch) {V : Int32 × St} (C0 : XC D ct p s m args meth c cX11_moods 6 (some .int) RX11) (v1 : Int32) (v2 : Int32) (S : St) {H : Heap} {locs : List Loc} {ls : Array Slot} (h : (b_X11_moods_0 v1 v2 S).bind some = some V) (hP : MP D ct B Hb S H) (hS : va_S (AB B) s.heap H locs) (hl : lv_has ls 6 [(0, .ref (B + 0)), (1, .int v1), (2, .int v2)]) : W p l e { frames := 5, cells := 0, slots := 0, locals := 117 } s m args below meth c H locs 0 0 (MQ below (qIw D ct B Hb V) args s 0 0 (AB B)) (F0 m 0 ls []) := by
  obtain ⟨hx, hb, hr, hml, hown, hts, hK, hlocks, hN⟩ := id C0
  unfold b_X11_moods_0 at h
  refine lv_aload_n hx hb dX11_moods_0 rfl (lv_at hl 0 rfl) ?_
  refine lv_iload_n hx hb dX11_moods_1 rfl (lv_at hl 1 rfl) ?_
  obtain ⟨r1, hr1, h⟩ := ob_bd h
  refine n_I (kV (As := [.int v1]) C0 (c_X11_isNobody l v1 hr1) ⟨wd_620, wd_617, wd_619, wp_6, wd_1⟩ kd_X11_isNobody ⟨Nat.le_of_ble_eq_true rfl, Nat.le_of_ble_eq_true rfl⟩ hP (lay_X11 B ct S) rfl rfl hl.1 rfl (Nat.le_of_ble_eq_true rfl) dX11_moods_2 ⟨Nat.le_of_ble_eq_true rfl, Nat.le_of_ble_eq_true rfl⟩) hS (fun H locs hP hS => ?_)
  refine lv_if_ne (tgt := 17) hx hb dX11_moods_5 (by decide) (fun z2 => ?_) (fun z2 => ?_)
  · have h := ob_f h z2
    refine lv_iconst (v := (-1)) hx hb dX11_moods_17 (by decide) ?_
    exact r_Iw C0 hP hS h dX11_moods_18
  · have h := ob_t h z2
    refine lv_iload_n hx hb dX11_moods_8 rfl (lv_at hl 2 rfl) ?_
    refine lv_iconst (v := 0) hx hb dX11_moods_9 (by decide) ?_
    refine lv_iconst (v := 1) hx hb dX11_moods_10 (by decide) ?_
    obtain ⟨r3, hr3, h⟩ := ob_bd h
    refine n_I (kS (As := [.int v2, .int 0, .int 1]) C0 (c_X11_isOut l v2 0 1 hr3) ⟨wd_338, wd_347, wd_337, wd_1⟩ kd_X11_isOut ⟨Nat.le_of_ble_eq_true rfl, Nat.le_of_ble_eq_true rfl⟩ hP rfl hl.1 rfl (Nat.le_of_ble_eq_true rfl) dX11_moods_11 ⟨Nat.le_of_ble_eq_true rfl, Nat.le_of_ble_eq_true rfl⟩) hS (fun H locs hP hS => ?_)
    refine lv_if_eq (tgt := 19) hx hb dX11_moods_14 (by decide) (fun z4 => ?_) (fun z4 => ?_)
    · have h := ob_t h z4
      refine lv_aload_n hx hb dX11_moods_19 rfl (lv_at hl 0 rfl) ?_
      refine x_get C0 hP (lay_X11 B ct S) rfl inG11 1 (by decide) wd_213 (fun _ h => h) rfl dX11_moods_20 ?_
      refine lv_aload_n hx hb dX11_moods_23 rfl (lv_at hl 0 rfl) ?_
      refine x_get C0 hP (lay_X11 B ct S) rfl inG11 0 (by decide) wd_212 (fun _ h => h) rfl dX11_moods_24 ?_
      obtain ⟨r5, hr5, h⟩ := ob_bd h
      refine n_Vw (kV (As := [.ref (B + 1)]) C0 (c_X10_become l 19 1 (Or.inr (Or.inl rfl)) (Or.inl rfl) hr5) ⟨wd_490, wd_487, wd_488, wd_489, wd_2⟩ kd_X10_become ⟨Nat.le_of_ble_eq_true rfl, Nat.le_of_ble_eq_true rfl⟩ hP (lay_X10 B ct S (Or.inr (Or.inl rfl))) rfl rfl hl.1 rfl (Nat.le_of_ble_eq_true rfl) dX11_moods_27 ⟨Nat.le_of_ble_eq_true rfl, Nat.le_of_ble_eq_true rfl⟩) hS (fun H locs hP hS => ?_)
      refine lv_iconst (v := 0) hx hb dX11_moods_30 (by decide) ?_
      refine lv_istore_n (lv' := [(3, .int 0), (0, .ref (B + 0)), (1, .int v1), (2, .int v2)]) hx hb dX11_moods_31 rfl hl (by decide) rfl (fun ls hl => ?_)
      refine lv_bipush (v := (-4)) hx hb dX11_moods_32 (by decide) ?_
      refine lv_istore (lv' := [(4, .int ((-4))), (3, .int 0), (0, .ref (B + 0)), (1, .int v1), (2, .int v2)]) hx hb dX11_moods_34 hl (by decide) rfl (fun ls hl => ?_)
      refine lv_bipush (v := 9) hx hb dX11_moods_36 (by decide) ?_
      refine lv_istore (lv' := [(5, .int 9), (4, .int ((-4))), (3, .int 0), (0, .ref (B + 0)), (1, .int v1), (2, .int v2)]) hx hb dX11_moods_38 hl (by decide) rfl (fun ls hl => ?_)
      exact wl_X11_moods_40 l C0 1000 v1 v2 0 ((-4)) 9 r5 h hP hS (lv_sub hl [3, 4, 5, 2, 1, 0] rfl)
    · have h := ob_f h z4
      refine lv_iconst (v := (-1)) hx hb dX11_moods_17 (by decide) ?_
      exact r_Iw C0 hP hS h dX11_moods_18
set_option maxRecDepth 100000 in
set_option maxHeartbeats 4000000 in
theorem c_X11_moods (l : Launch) (a1 : Int32) (a2 : Int32) {D : va_G} {ct : Nat → ClassId} {B : Nat} {Hb : Heap} {S : St} {V : Int32 × St} (h : L_X11_moods a1 a2 S = some V) : Met l yX11_moods (Cond.code yX11_moods cX11_moods 6 (some .int) :: tG) { frames := 5, cells := 0, slots := 0, locals := 117 } (va_Pc [.ref (B + 0), .int a1, .int a2] (MPK D ct B Hb S)) (qIw D ct B Hb V) 0 0 (AB B) := by
  refine mk_met (by decide +kernel) (Nat.le_of_ble_eq_true rfl) (fun p e s m args below meth c ls C0 hP hl _ => ?_)
  have h := ob_of h
  exact w_X11_moods_0 l C0 a1 a2 S h hP va_S.rf (lv_sub hl [0, 1, 2] rfl)
set_option maxRecDepth 100000 in
set_option maxHeartbeats 4000000 in
theorem w_X11_oddsOf_51 (l : Launch) {V : Int64} (C0 : XC D ct p s m args meth c cX11_oddsOf 6 (some .long) RX11) (v1 : Int32) (v4 : Int32) (s0 : Int64) (s1 : Int64) (S : St) (n0 : Nat) (ih0 : ∀ (v1 : Int32) (v2 : Int64) (v4 : Int32) (H : Heap) (locs : List Loc) (ls : Array Slot), (lp n0 (l_X11_oddsOf_5 S) (v1, v2, v4)).bind some = some V → MP D ct B Hb S H → va_S (AB B) s.heap H locs → lv_has ls 6 [(0, .ref (B + 0)), (1, .int v1), (2, .long v2), (4, .int v4)] → W p l e { frames := 0, cells := 0, slots := 0, locals := 0 } s m args below meth c H locs 0 0 (MQ below (qL D ct B Hb S V) args s 0 0 (AB B)) (F0 m 5 ls [])) {H : Heap} {locs : List Loc} {ls : Array Slot} (h : (b_X11_oddsOf_51 v1 v4 s0 s1 S).bind (lpF n0 (l_X11_oddsOf_5 S) some) = some V) (hP : MP D ct B Hb S H) (hS : va_S (AB B) s.heap H locs) (hl : lv_has ls 6 [(0, .ref (B + 0)), (1, .int v1), (4, .int v4)]) : W p l e { frames := 0, cells := 0, slots := 0, locals := 0 } s m args below meth c H locs 0 0 (MQ below (qL D ct B Hb S V) args s 0 0 (AB B)) (F0 m 51 ls [.long s0, .long s1]) := by
  obtain ⟨hx, hb, hr, hml, hown, hts, hK, hlocks, hN⟩ := id C0
  unfold b_X11_oddsOf_51 at h
  refine lv_lmul hx hb dX11_oddsOf_51 ?_
  refine lv_lstore_n (lv' := [(2, .long (s1 * s0)), (0, .ref (B + 0)), (1, .int v1), (4, .int v4)]) hx hb dX11_oddsOf_52 rfl hl (by decide) rfl (fun ls hl => ?_)
  refine lv_iinc (v := v4 + 1) (lv' := [(4, .int (v4 + 1)), (2, .long (s1 * s0)), (0, .ref (B + 0)), (1, .int v1)]) hx hb dX11_oddsOf_53 hl (k := 3) rfl rfl (by decide) rfl (fun ls hl => ?_)
  refine lv_goto (tgt := 5) hx hb dX11_oddsOf_56 (by decide) ?_
  exact ih0 v1 (s1 * s0) (v4 + 1) _ _ _ h hP hS (lv_sub hl [2, 3, 1, 0] rfl)
set_option maxRecDepth 100000 in
set_option maxHeartbeats 4000000 in
theorem w_X11_oddsOf_5 (l : Launch) {V : Int64} (C0 : XC D ct p s m args meth c cX11_oddsOf 6 (some .long) RX11) (v1 : Int32) (v2 : Int64) (v4 : Int32) (S : St) (n0 : Nat) (ih0 : ∀ (v1 : Int32) (v2 : Int64) (v4 : Int32) (H : Heap) (locs : List Loc) (ls : Array Slot), (lp n0 (l_X11_oddsOf_5 S) (v1, v2, v4)).bind some = some V → MP D ct B Hb S H → va_S (AB B) s.heap H locs → lv_has ls 6 [(0, .ref (B + 0)), (1, .int v1), (2, .long v2), (4, .int v4)] → W p l e { frames := 0, cells := 0, slots := 0, locals := 0 } s m args below meth c H locs 0 0 (MQ below (qL D ct B Hb S V) args s 0 0 (AB B)) (F0 m 5 ls [])) {H : Heap} {locs : List Loc} {ls : Array Slot} (h : (b_X11_oddsOf_5 v1 v2 v4 S).bind (lpF n0 (l_X11_oddsOf_5 S) some) = some V) (hP : MP D ct B Hb S H) (hS : va_S (AB B) s.heap H locs) (hl : lv_has ls 6 [(0, .ref (B + 0)), (1, .int v1), (2, .long v2), (4, .int v4)]) : W p l e { frames := 0, cells := 0, slots := 0, locals := 0 } s m args below meth c H locs 0 0 (MQ below (qL D ct B Hb S V) args s 0 0 (AB B)) (F0 m 5 ls []) := by
  obtain ⟨hx, hb, hr, hml, hown, hts, hK, hlocks, hN⟩ := id C0
  unfold b_X11_oddsOf_5 at h
  refine lv_iload hx hb dX11_oddsOf_5 (lv_at hl 3 rfl) ?_
  refine lv_aload_n hx hb dX11_oddsOf_7 rfl (lv_at hl 0 rfl) ?_
  refine x_get C0 hP (lay_X11 B ct S) rfl inG11 0 (by decide) wd_212 (fun _ h => h) rfl dX11_oddsOf_8 ?_
  refine x_get C0 hP (lay_X10 B ct S (Or.inl rfl)) rfl inG10 6 (by decide) wd_78 (fun _ h => h) rfl dX11_oddsOf_11 ?_
  refine lv_icmp_ge (tgt := 59) hx hb dX11_oddsOf_14 (by decide) (fun z1 => ?_) (fun z1 => ?_)
  · have h := ob_t h z1
    refine lv_lload_n hx hb dX11_oddsOf_59 rfl (lv_at hl 2 rfl) ?_
    exact r_L C0 hP hS h dX11_oddsOf_60
  · have h := ob_f h z1
    refine lv_aload_n hx hb dX11_oddsOf_17 rfl (lv_at hl 0 rfl) ?_
    refine x_get C0 hP (lay_X11 B ct S) rfl inG11 0 (by decide) wd_212 (fun _ h => h) rfl dX11_oddsOf_18 ?_
    refine x_get C0 hP (lay_X10 B ct S (Or.inl rfl)) rfl inG10 10 (by decide) wd_83 (fun _ h => h) rfl dX11_oddsOf_21 ?_
    refine lv_iload hx hb dX11_oddsOf_24 (lv_at hl 3 rfl) ?_
    obtain ⟨g2, h⟩ := ob_gd h
    refine x_iald C0 hP ((fun S => lay_t10 B ct S (Or.inl rfl)) S) g2 dX11_oddsOf_26 ?_
    refine lv_istore (lv' := [(5, .int (gi S (1 + 10) v4.toNatClampNeg)), (0, .ref (B + 0)), (1, .int v1), (2, .long v2), (4, .int v4)]) hx hb dX11_oddsOf_27 hl (by decide) rfl (fun ls hl => ?_)
    refine lv_lload_n hx hb dX11_oddsOf_29 rfl (lv_at hl 3 rfl) ?_
    refine lv_iload_n hx hb dX11_oddsOf_30 rfl (lv_at hl 2 rfl) ?_
    refine lv_iload hx hb dX11_oddsOf_31 (lv_at hl 4 rfl) ?_
    refine lv_ishr hx hb dX11_oddsOf_33 ?_
    refine lv_iconst (v := 1) hx hb dX11_oddsOf_34 (by decide) ?_
    refine lv_iand hx hb dX11_oddsOf_35 ?_
    refine lv_if_eq (tgt := 45) hx hb dX11_oddsOf_36 (by decide) (fun z3 => ?_) (fun z3 => ?_)
    · have h := ob_t h z3
      refine lv_bipush (v := 10) hx hb dX11_oddsOf_45 (by decide) ?_
      refine lv_iload hx hb dX11_oddsOf_47 (lv_at hl 0 rfl) ?_
      refine lv_isub hx hb dX11_oddsOf_49 ?_
      refine lv_i2l hx hb dX11_oddsOf_50 rfl ?_
      exact w_X11_oddsOf_51 l C0 v1 v4 ((10 - (gi S (1 + 10) v4.toNatClampNeg)).toInt64) v2 S n0 ih0 h hP hS (lv_sub hl [1, 2, 4] rfl)
    · have h := ob_f h z3
      refine lv_iload hx hb dX11_oddsOf_39 (lv_at hl 0 rfl) ?_
      refine lv_i2l hx hb dX11_oddsOf_41 rfl ?_
      refine lv_goto (tgt := 51) hx hb dX11_oddsOf_42 (by decide) ?_
      exact w_X11_oddsOf_51 l C0 v1 v4 ((gi S (1 + 10) v4.toNatClampNeg).toInt64) v2 S n0 ih0 h hP hS (lv_sub hl [1, 2, 4] rfl)
set_option maxRecDepth 100000 in
set_option maxHeartbeats 4000000 in
theorem wl_X11_oddsOf_5 (l : Launch) {V : Int64} (C0 : XC D ct p s m args meth c cX11_oddsOf 6 (some .long) RX11) (S : St)  : ∀ (n0 : Nat) (v1 : Int32) (v2 : Int64) (v4 : Int32) {H : Heap} {locs : List Loc} {ls : Array Slot}, (lp n0 (l_X11_oddsOf_5 S) (v1, v2, v4)).bind some = some V → MP D ct B Hb S H → va_S (AB B) s.heap H locs → lv_has ls 6 [(0, .ref (B + 0)), (1, .int v1), (2, .long v2), (4, .int v4)] → W p l e { frames := 0, cells := 0, slots := 0, locals := 0 } s m args below meth c H locs 0 0 (MQ below (qL D ct B Hb S V) args s 0 0 (AB B)) (F0 m 5 ls []) := by
  intro n0
  induction n0 with
  | zero =>
    intro v1 v2 v4 H locs ls h hP hS hl
    exact (lp_0 h).elim
  | succ n0 ih0 =>
    intro v1 v2 v4 H locs ls h hP hS hl
    have h := lp_s h
    exact w_X11_oddsOf_5 l C0 v1 v2 v4 S n0 (fun v1 v2 v4 H locs ls h hP hS hl => ih0 v1 v2 v4 h hP hS hl) h hP hS hl
set_option maxRecDepth 100000 in
set_option maxHeartbeats 4000000 in
theorem w_X11_oddsOf_0 (l : Launch) {V : Int64} (C0 : XC D ct p s m args meth c cX11_oddsOf 6 (some .long) RX11) (v1 : Int32) (S : St) {H : Heap} {locs : List Loc} {ls : Array Slot} (h : (b_X11_oddsOf_0 v1 S).bind some = some V) (hP : MP D ct B Hb S H) (hS : va_S (AB B) s.heap H locs) (hl : lv_has ls 6 [(0, .ref (B + 0)), (1, .int v1)]) : W p l e { frames := 0, cells := 0, slots := 0, locals := 0 } s m args below meth c H locs 0 0 (MQ below (qL D ct B Hb S V) args s 0 0 (AB B)) (F0 m 0 ls []) := by
  obtain ⟨hx, hb, hr, hml, hown, hts, hK, hlocks, hN⟩ := id C0
  unfold b_X11_oddsOf_0 at h
  refine lv_lconst (v := 1) hx hb dX11_oddsOf_0 (by decide) ?_
  refine lv_lstore_n (lv' := [(2, .long 1), (0, .ref (B + 0)), (1, .int v1)]) hx hb dX11_oddsOf_1 rfl hl (by decide) rfl (fun ls hl => ?_)
  refine lv_iconst (v := 0) hx hb dX11_oddsOf_2 (by decide) ?_
  refine lv_istore (lv' := [(4, .int 0), (2, .long 1), (0, .ref (B + 0)), (1, .int v1)]) hx hb dX11_oddsOf_3 hl (by decide) rfl (fun ls hl => ?_)
  exact wl_X11_oddsOf_5 l C0 S 1000 v1 1 0 h hP hS (lv_sub hl [2, 3, 1, 0] rfl)
set_option maxRecDepth 100000 in
set_option maxHeartbeats 4000000 in
theorem c_X11_oddsOf (l : Launch) (a1 : Int32) {D : va_G} {ct : Nat → ClassId} {B : Nat} {Hb : Heap} {S : St} {V : Int64} (h : L_X11_oddsOf a1 S = some V) : Met l yX11_oddsOf (Cond.code yX11_oddsOf cX11_oddsOf 6 (some .long) :: tG) { frames := 0, cells := 0, slots := 0, locals := 0 } (va_Pc [.ref (B + 0), .int a1] (MPK D ct B Hb S)) (qL D ct B Hb S V) 0 0 (AB B) := by
  refine mk_met (by decide +kernel) (Nat.le_of_ble_eq_true rfl) (fun p e s m args below meth c ls C0 hP hl _ => ?_)
  have h := ob_of h
  exact w_X11_oddsOf_0 l C0 a1 S h hP va_S.rf (lv_sub hl [0, 1] rfl)
set_option maxRecDepth 100000 in
set_option maxHeartbeats 4000000 in
theorem w_X11_commonDivisor_9 (l : Launch) {V : Int64} (C0 : XC D ct p s m args meth c cX11_commonDivisor 11 (some .long) RX11) (v4 : Int64) (v6 : Int64) (v8 : Int32) (S : St) (n0 : Nat) (ih0 : ∀ (v4 : Int64) (v6 : Int64) (v8 : Int32) (H : Heap) (locs : List Loc) (ls : Array Slot), (lp n0 (l_X11_commonDivisor_9 S) (v4, v6, v8)).bind some = some V → MP D ct B Hb S H → va_S (AB B) s.heap H locs → lv_has ls 11 [(4, .long v4), (6, .long v6), (8, .int v8)] → W p l e { frames := 0, cells := 0, slots := 0, locals := 0 } s m args below meth c H locs 0 0 (MQ below (qL D ct B Hb S V) args s 0 0 (AB B)) (F0 m 9 ls [])) {H : Heap} {locs : List Loc} {ls : Array Slot} (h : (b_X11_commonDivisor_9 v4 v6 v8 S).bind (lpF n0 (l_X11_commonDivisor_9 S) some) = some V) (hP : MP D ct B Hb S H) (hS : va_S (AB B) s.heap H locs) (hl : lv_has ls 11 [(4, .long v4), (6, .long v6), (8, .int v8)]) : W p l e { frames := 0, cells := 0, slots := 0, locals := 0 } s m args below meth c H locs 0 0 (MQ below (qL D ct B Hb S V) args s 0 0 (AB B)) (F0 m 9 ls []) := by
  obtain ⟨hx, hb, hr, hml, hown, hts, hK, hlocks, hN⟩ := id C0
  unfold b_X11_commonDivisor_9 at h
  refine lv_iload hx hb dX11_commonDivisor_9 (lv_at hl 2 rfl) ?_
  refine lv_sipush (v := 200) hx hb dX11_commonDivisor_11 (by decide) ?_
  refine lv_icmp_ge (tgt := 45) hx hb dX11_commonDivisor_14 (by decide) (fun z1 => ?_) (fun z1 => ?_)
  · have h := ob_t h z1
    refine lv_lload hx hb dX11_commonDivisor_45 (lv_at hl 0 rfl) ?_
    exact r_L C0 hP hS h dX11_commonDivisor_47
  · have h := ob_f h z1
    refine lv_lload hx hb dX11_commonDivisor_17 (lv_at hl 1 rfl) ?_
    refine lv_lconst (v := 0) hx hb dX11_commonDivisor_19 (by decide) ?_
    refine W.lcmp hx hb dX11_commonDivisor_20 ?_
    refine lv_if_eq (tgt := 45) hx hb dX11_commonDivisor_21 (by decide) (fun z2 => ?_) (fun z2 => ?_)
    · have h := ob_t h z2
      refine lv_lload hx hb dX11_commonDivisor_45 (lv_at hl 0 rfl) ?_
      exact r_L C0 hP hS h dX11_commonDivisor_47
    · have h := ob_f h z2
      refine lv_lload hx hb dX11_commonDivisor_24 (lv_at hl 0 rfl) ?_
      refine lv_lload hx hb dX11_commonDivisor_26 (lv_at hl 1 rfl) ?_
      obtain ⟨g3, h⟩ := ob_gd h
      refine lv_lrem hx hb dX11_commonDivisor_28 (by simpa using g3) ?_
      refine lv_lstore (lv' := [(9, .long (v4 - v4 / v6 * v6)), (4, .long v4), (6, .long v6), (8, .int v8)]) hx hb dX11_commonDivisor_29 hl (by decide) rfl (fun ls hl => ?_)
      refine lv_lload hx hb dX11_commonDivisor_31 (lv_at hl 2 rfl) ?_
      refine lv_lstore (lv' := [(4, .long v6), (9, .long (v4 - v4 / v6 * v6)), (6, .long v6), (8, .int v8)]) hx hb dX11_commonDivisor_33 hl (by decide) rfl (fun ls hl => ?_)
      refine lv_lload hx hb dX11_commonDivisor_35 (lv_at hl 1 rfl) ?_
      refine lv_lstore (lv' := [(6, .long (v4 - v4 / v6 * v6)), (4, .long v6), (9, .long (v4 - v4 / v6 * v6)), (8, .int v8)]) hx hb dX11_commonDivisor_37 hl (by decide) rfl (fun ls hl => ?_)
      refine lv_iinc (v := v8 + 1) (lv' := [(8, .int (v8 + 1)), (6, .long (v4 - v4 / v6 * v6)), (4, .long v6), (9, .long (v4 - v4 / v6 * v6))]) hx hb dX11_commonDivisor_39 hl (k := 3) rfl rfl (by decide) rfl (fun ls hl => ?_)
      refine lv_goto (tgt := 9) hx hb dX11_commonDivisor_42 (by decide) ?_
      exact ih0 v6 (v4 - v4 / v6 * v6) (v8 + 1) _ _ _ h hP hS (lv_sub hl [2, 1, 0] rfl)
set_option maxRecDepth 100000 in
set_option maxHeartbeats 4000000 in
theorem wl_X11_commonDivisor_9 (l : Launch) {V : Int64} (C0 : XC D ct p s m args meth c cX11_commonDivisor 11 (some .long) RX11) (S : St)  : ∀ (n0 : Nat) (v4 : Int64) (v6 : Int64) (v8 : Int32) {H : Heap} {locs : List Loc} {ls : Array Slot}, (lp n0 (l_X11_commonDivisor_9 S) (v4, v6, v8)).bind some = some V → MP D ct B Hb S H → va_S (AB B) s.heap H locs → lv_has ls 11 [(4, .long v4), (6, .long v6), (8, .int v8)] → W p l e { frames := 0, cells := 0, slots := 0, locals := 0 } s m args below meth c H locs 0 0 (MQ below (qL D ct B Hb S V) args s 0 0 (AB B)) (F0 m 9 ls []) := by
  intro n0
  induction n0 with
  | zero =>
    intro v4 v6 v8 H locs ls h hP hS hl
    exact (lp_0 h).elim
  | succ n0 ih0 =>
    intro v4 v6 v8 H locs ls h hP hS hl
    have h := lp_s h
    exact w_X11_commonDivisor_9 l C0 v4 v6 v8 S n0 (fun v4 v6 v8 H locs ls h hP hS hl => ih0 v4 v6 v8 h hP hS hl) h hP hS hl
set_option maxRecDepth 100000 in
set_option maxHeartbeats 4000000 in
theorem w_X11_commonDivisor_0 (l : Launch) {V : Int64} (C0 : XC D ct p s m args meth c cX11_commonDivisor 11 (some .long) RX11) (v0 : Int64) (v2 : Int64) (S : St) {H : Heap} {locs : List Loc} {ls : Array Slot} (h : (b_X11_commonDivisor_0 v0 v2 S).bind some = some V) (hP : MP D ct B Hb S H) (hS : va_S (AB B) s.heap H locs) (hl : lv_has ls 11 [(0, .long v0), (2, .long v2)]) : W p l e { frames := 0, cells := 0, slots := 0, locals := 0 } s m args below meth c H locs 0 0 (MQ below (qL D ct B Hb S V) args s 0 0 (AB B)) (F0 m 0 ls []) := by
  obtain ⟨hx, hb, hr, hml, hown, hts, hK, hlocks, hN⟩ := id C0
  unfold b_X11_commonDivisor_0 at h
  refine lv_lload_n hx hb dX11_commonDivisor_0 rfl (lv_at hl 0 rfl) ?_
  refine lv_lstore (lv' := [(4, .long v0), (0, .long v0), (2, .long v2)]) hx hb dX11_commonDivisor_1 hl (by decide) rfl (fun ls hl => ?_)
  refine lv_lload_n hx hb dX11_commonDivisor_3 rfl (lv_at hl 2 rfl) ?_
  refine lv_lstore (lv' := [(6, .long v2), (4, .long v0), (0, .long v0), (2, .long v2)]) hx hb dX11_commonDivisor_4 hl (by decide) rfl (fun ls hl => ?_)
  refine lv_iconst (v := 0) hx hb dX11_commonDivisor_6 (by decide) ?_
  refine lv_istore (lv' := [(8, .int 0), (6, .long v2), (4, .long v0), (0, .long v0), (2, .long v2)]) hx hb dX11_commonDivisor_7 hl (by decide) rfl (fun ls hl => ?_)
  exact wl_X11_commonDivisor_9 l C0 S 1000 v0 v2 0 h hP hS (lv_sub hl [2, 1, 0] rfl)
set_option maxRecDepth 100000 in
set_option maxHeartbeats 4000000 in
theorem c_X11_commonDivisor (l : Launch) (a0 : Int64) (a2 : Int64) {D : va_G} {ct : Nat → ClassId} {B : Nat} {Hb : Heap} {S : St} {V : Int64} (h : L_X11_commonDivisor a0 a2 S = some V) : Met l yX11_commonDivisor (Cond.code yX11_commonDivisor cX11_commonDivisor 11 (some .long) :: tG) { frames := 0, cells := 0, slots := 0, locals := 0 } (va_Pc [.long a0, .long a2] (MPK D ct B Hb S)) (qL D ct B Hb S V) 0 0 (AB B) := by
  refine mk_met (by decide +kernel) (Nat.le_of_ble_eq_true rfl) (fun p e s m args below meth c ls C0 hP hl _ => ?_)
  have h := ob_of h
  exact w_X11_commonDivisor_0 l C0 a0 a2 S h hP va_S.rf (lv_sub hl [0, 1] rfl)
set_option maxRecDepth 100000 in
set_option maxHeartbeats 4000000 in
theorem w_X11_expectedYes_104 (l : Launch) {V : Int64 × St} (C0 : XC D ct p s m args meth c cX11_expectedYes 10 (some .long) RX11) (v2 : Int32) (v3 : Int64) (v5 : Int64) (S : St) {H : Heap} {locs : List Loc} {ls : Array Slot} (h : (b_X11_expectedYes_104 v2 v3 v5 S).bind some = some V) (hP : MP D ct B Hb S H) (hS : va_S (AB B) s.heap H locs) (hl : lv_has ls 10 [(2, .int v2), (3, .long v3), (5, .long v5)]) : W p l e { frames := 5, cells := 0, slots := 0, locals := 117 } s m args below meth c H locs 0 0 (MQ below (qLw D ct B Hb V) args s 0 0 (AB B)) (F0 m 104 ls []) := by
  obtain ⟨hx, hb, hr, hml, hown, hts, hK, hlocks, hN⟩ := id C0
  unfold b_X11_expectedYes_104 at h
  refine lv_lload hx hb dX11_expectedYes_104 (lv_at hl 2 rfl) ?_
  refine lv_lload_n hx hb dX11_expectedYes_106 rfl (lv_at hl 1 rfl) ?_
  obtain ⟨r1, hr1, h⟩ := ob_bd h
  refine n_L (kS (As := [.long v5, .long v3]) C0 (c_X11_commonDivisor l v5 v3 hr1) ⟨wd_894, wd_892, wd_893, wd_1⟩ kd_X11_commonDivisor ⟨Nat.le_of_ble_eq_true rfl, Nat.le_of_ble_eq_true rfl⟩ hP rfl hl.1 rfl (Nat.le_of_ble_eq_true rfl) dX11_expectedYes_107 ⟨Nat.le_of_ble_eq_true rfl, Nat.le_of_ble_eq_true rfl⟩) hS (fun H locs hP hS => ?_)
  refine lv_lstore (lv' := [(7, .long r1), (2, .int v2), (3, .long v3), (5, .long v5)]) hx hb dX11_expectedYes_110 hl (by decide) rfl (fun ls hl => ?_)
  refine lv_lload hx hb dX11_expectedYes_112 (lv_at hl 0 rfl) ?_
  refine lv_lconst (v := 0) hx hb dX11_expectedYes_114 (by decide) ?_
  refine W.lcmp hx hb dX11_expectedYes_115 ?_
  refine lv_if_gt (tgt := 123) hx hb dX11_expectedYes_116 (by decide) (fun z2 => ?_) (fun z2 => ?_)
  · have h := ob_t h z2
    refine lv_iload_n hx hb dX11_expectedYes_123 rfl (lv_at hl 1 rfl) ?_
    refine lv_if_ne (tgt := 131) hx hb dX11_expectedYes_124 (by decide) (fun z3 => ?_) (fun z3 => ?_)
    · have h := ob_f h z3
      refine lv_lload hx hb dX11_expectedYes_131 (lv_at hl 3 rfl) ?_
      refine lv_lload hx hb dX11_expectedYes_133 (lv_at hl 0 rfl) ?_
      obtain ⟨g4, h⟩ := ob_gd h
      refine lv_ldiv hx hb dX11_expectedYes_135 (by simpa using g4) ?_
      exact r_Lw C0 hP hS h dX11_expectedYes_136
    · have h := ob_t h z3
      refine lv_lload_n hx hb dX11_expectedYes_127 rfl (lv_at hl 2 rfl) ?_
      refine lv_goto (tgt := 133) hx hb dX11_expectedYes_128 (by decide) ?_
      refine lv_lload hx hb dX11_expectedYes_133 (lv_at hl 0 rfl) ?_
      obtain ⟨g5, h⟩ := ob_gd h
      refine lv_ldiv hx hb dX11_expectedYes_135 (by simpa using g5) ?_
      exact r_Lw C0 hP hS h dX11_expectedYes_136
  · have h := ob_f h z2
    refine lv_ldc2 (v := (-1000000001)) hx hb hown (hts _ wd_878) dX11_expectedYes_119 ?_
    exact r_Lw C0 hP hS h dX11_expectedYes_122
set_option maxRecDepth 100000 in
set_option maxHeartbeats 4000000 in
theorem w_X11_expectedYes_98 (l : Launch) {V : Int64 × St} (C0 : XC D ct p s m args meth c cX11_expectedYes 10 (some .long) RX11) (n0 : Nat) (ih0 : ∀ (v1 : Int32) (v2 : Int32) (v3 : Int64) (v5 : Int64) (v7 : Int32) (S : St) (H : Heap) (locs : List Loc) (ls : Array Slot), (lp n0 (l_X11_expectedYes_37) (v1, v2, v3, v5, v7, S)).bind some = some V → MP D ct B Hb S H → va_S (AB B) s.heap H locs → lv_has ls 10 [(0, .ref (B + 0)), (1, .int v1), (2, .int v2), (3, .long v3), (5, .long v5), (7, .int v7)] → W p l e { frames := 5, cells := 0, slots := 0, locals := 117 } s m args below meth c H locs 0 0 (MQ below (qLw D ct B Hb V) args s 0 0 (AB B)) (F0 m 37 ls [])) (v1 : Int32) (v2 : Int32) (v3 : Int64) (v5 : Int64) (v7 : Int32) (S : St) {H : Heap} {locs : List Loc} {ls : Array Slot} (h : (b_X11_expectedYes_98 v1 v2 v3 v5 v7 S).bind (lpF n0 (l_X11_expectedYes_37) some) = some V) (hP : MP D ct B Hb S H) (hS : va_S (AB B) s.heap H locs) (hl : lv_has ls 10 [(0, .ref (B + 0)), (1, .int v1), (2, .int v2), (3, .long v3), (5, .long v5), (7, .int v7)]) : W p l e { frames := 5, cells := 0, slots := 0, locals := 117 } s m args below meth c H locs 0 0 (MQ below (qLw D ct B Hb V) args s 0 0 (AB B)) (F0 m 98 ls []) := by
  obtain ⟨hx, hb, hr, hml, hown, hts, hK, hlocks, hN⟩ := id C0
  unfold b_X11_expectedYes_98 at h
  refine lv_iinc (v := v7 + 1) (lv' := [(7, .int (v7 + 1)), (0, .ref (B + 0)), (1, .int v1), (2, .int v2), (3, .long v3), (5, .long v5)]) hx hb dX11_expectedYes_98 hl (k := 5) rfl rfl (by decide) rfl (fun ls hl => ?_)
  refine lv_goto (tgt := 37) hx hb dX11_expectedYes_101 (by decide) ?_
  exact ih0 v1 v2 v3 v5 (v7 + 1) S _ _ _ h hP hS (lv_sub hl [1, 2, 3, 4, 5, 0] rfl)
set_option maxRecDepth 100000 in
set_option maxHeartbeats 4000000 in
theorem w_X11_expectedYes_37 (l : Launch) {V : Int64 × St} (C0 : XC D ct p s m args meth c cX11_expectedYes 10 (some .long) RX11) (n0 : Nat) (ih0 : ∀ (v1 : Int32) (v2 : Int32) (v3 : Int64) (v5 : Int64) (v7 : Int32) (S : St) (H : Heap) (locs : List Loc) (ls : Array Slot), (lp n0 (l_X11_expectedYes_37) (v1, v2, v3, v5, v7, S)).bind some = some V → MP D ct B Hb S H → va_S (AB B) s.heap H locs → lv_has ls 10 [(0, .ref (B + 0)), (1, .int v1), (2, .int v2), (3, .long v3), (5, .long v5), (7, .int v7)] → W p l e { frames := 5, cells := 0, slots := 0, locals := 117 } s m args below meth c H locs 0 0 (MQ below (qLw D ct B Hb V) args s 0 0 (AB B)) (F0 m 37 ls [])) (v1 : Int32) (v2 : Int32) (v3 : Int64) (v5 : Int64) (v7 : Int32) (S : St) {H : Heap} {locs : List Loc} {ls : Array Slot} (h : (b_X11_expectedYes_37 v1 v2 v3 v5 v7 S).bind (lpF n0 (l_X11_expectedYes_37) some) = some V) (hP : MP D ct B Hb S H) (hS : va_S (AB B) s.heap H locs) (hl : lv_has ls 10 [(0, .ref (B + 0)), (1, .int v1), (2, .int v2), (3, .long v3), (5, .long v5), (7, .int v7)]) : W p l e { frames := 5, cells := 0, slots := 0, locals := 117 } s m args below meth c H locs 0 0 (MQ below (qLw D ct B Hb V) args s 0 0 (AB B)) (F0 m 37 ls []) := by
  obtain ⟨hx, hb, hr, hml, hown, hts, hK, hlocks, hN⟩ := id C0
  unfold b_X11_expectedYes_37 at h
  refine lv_iload hx hb dX11_expectedYes_37 (lv_at hl 5 rfl) ?_
  refine lv_iconst (v := 1) hx hb dX11_expectedYes_39 (by decide) ?_
  refine lv_aload_n hx hb dX11_expectedYes_40 rfl (lv_at hl 0 rfl) ?_
  refine x_get C0 hP (lay_X11 B ct S) rfl inG11 0 (by decide) wd_212 (fun _ h => h) rfl dX11_expectedYes_41 ?_
  refine x_get C0 hP (lay_X10 B ct S (Or.inl rfl)) rfl inG10 6 (by decide) wd_78 (fun _ h => h) rfl dX11_expectedYes_44 ?_
  refine lv_ishl hx hb dX11_expectedYes_47 ?_
  refine lv_icmp_ge (tgt := 104) hx hb dX11_expectedYes_48 (by decide) (fun z1 => ?_) (fun z1 => ?_)
  · have h := ob_t h z1
    have h := ob_mp h
    exact w_X11_expectedYes_104 l C0 v2 v3 v5 S h hP hS (lv_sub hl [2, 3, 4] rfl)
  · have h := ob_f h z1
    refine lv_aload_n hx hb dX11_expectedYes_51 rfl (lv_at hl 0 rfl) ?_
    refine lv_iload hx hb dX11_expectedYes_52 (lv_at hl 5 rfl) ?_
    obtain ⟨r2, hr2, h⟩ := ob_bd h
    refine n_L (kV (As := [.int v7]) C0 (c_X11_oddsOf l v7 hr2) ⟨wd_887, wd_884, wd_886, wp_17, wd_1⟩ kd_X11_oddsOf ⟨Nat.le_of_ble_eq_true rfl, Nat.le_of_ble_eq_true rfl⟩ hP (lay_X11 B ct S) rfl rfl hl.1 rfl (Nat.le_of_ble_eq_true rfl) dX11_expectedYes_54 ⟨Nat.le_of_ble_eq_true rfl, Nat.le_of_ble_eq_true rfl⟩) hS (fun H locs hP hS => ?_)
    refine lv_lstore (lv' := [(8, .long r2), (0, .ref (B + 0)), (1, .int v1), (2, .int v2), (3, .long v3), (5, .long v5), (7, .int v7)]) hx hb dX11_expectedYes_57 hl (by decide) rfl (fun ls hl => ?_)
    refine lv_lload hx hb dX11_expectedYes_59 (lv_at hl 0 rfl) ?_
    refine lv_lconst (v := 0) hx hb dX11_expectedYes_61 (by decide) ?_
    refine W.lcmp hx hb dX11_expectedYes_62 ?_
    refine lv_if_le (tgt := 98) hx hb dX11_expectedYes_63 (by decide) (fun z3 => ?_) (fun z3 => ?_)
    · have h := ob_t h z3
      exact w_X11_expectedYes_98 l C0 n0 ih0 v1 v2 v3 v5 v7 S h hP hS (lv_sub hl [1, 2, 3, 4, 5, 6] rfl)
    · have h := ob_f h z3
      refine lv_aload_n hx hb dX11_expectedYes_66 rfl (lv_at hl 1 rfl) ?_
      refine x_get C0 hP (lay_X11 B ct S) rfl inG11 4 (by decide) wd_216 (fun _ h => h) rfl dX11_expectedYes_67 ?_
      refine lv_aload_n hx hb dX11_expectedYes_70 rfl (lv_at hl 1 rfl) ?_
      refine x_get C0 hP (lay_X11 B ct S) rfl inG11 0 (by decide) wd_212 (fun _ h => h) rfl dX11_expectedYes_71 ?_
      refine lv_iload hx hb dX11_expectedYes_74 (lv_at hl 6 rfl) ?_
      obtain ⟨r4, hr4, h⟩ := ob_bd h
      refine n_Vw (kV (As := [.ref (B + 1), .int v7]) C0 (c_X2_run l 1 (Or.inl rfl) v7 hr4) ⟨wd_624, wd_621, wd_622, wd_623, wd_4⟩ kd_X2_run ⟨Nat.le_of_ble_eq_true rfl, Nat.le_of_ble_eq_true rfl⟩ hP (lay_X2 B ct S) rfl rfl hl.1 rfl (Nat.le_of_ble_eq_true rfl) dX11_expectedYes_76 ⟨Nat.le_of_ble_eq_true rfl, Nat.le_of_ble_eq_true rfl⟩) hS (fun H locs hP hS => ?_)
      refine lv_lload_n hx hb dX11_expectedYes_79 rfl (lv_at hl 4 rfl) ?_
      refine lv_lload hx hb dX11_expectedYes_80 (lv_at hl 0 rfl) ?_
      refine lv_aload_n hx hb dX11_expectedYes_82 rfl (lv_at hl 1 rfl) ?_
      refine x_get C0 hP (lay_X11 B ct r4) rfl inG11 4 (by decide) wd_216 (fun _ h => h) rfl dX11_expectedYes_83 ?_
      obtain ⟨r5, hr5, h⟩ := ob_bd h
      refine n_I (kV (As := []) C0 (c_X2_sayYes l hr5) ⟨wd_891, wd_888, wd_889, wd_890, wd_4⟩ kd_X2_sayYes ⟨Nat.le_of_ble_eq_true rfl, Nat.le_of_ble_eq_true rfl⟩ hP (lay_X2 B ct r4) rfl rfl hl.1 rfl (Nat.le_of_ble_eq_true rfl) dX11_expectedYes_86 ⟨Nat.le_of_ble_eq_true rfl, Nat.le_of_ble_eq_true rfl⟩) hS (fun H locs hP hS => ?_)
      refine lv_iload_n hx hb dX11_expectedYes_89 rfl (lv_at hl 2 rfl) ?_
      refine lv_iand hx hb dX11_expectedYes_90 ?_
      obtain ⟨r6, hr6, h⟩ := ob_bd h
      refine n_I (kS (As := [.int (r5 &&& v1)]) C0 (c_J6_bitCount_0f7a4 l (r5 &&& v1) hr6) ⟨wd_870, wd_868, wd_869, wd_19⟩ kd_J6_bitCount_0f7a4 ⟨Nat.le_of_ble_eq_true rfl, Nat.le_of_ble_eq_true rfl⟩ hP rfl hl.1 rfl (Nat.le_of_ble_eq_true rfl) dX11_expectedYes_91 ⟨Nat.le_of_ble_eq_true rfl, Nat.le_of_ble_eq_true rfl⟩) hS (fun H locs hP hS => ?_)
      refine lv_i2l hx hb dX11_expectedYes_94 rfl ?_
      refine lv_lmul hx hb dX11_expectedYes_95 ?_
      refine lv_ladd hx hb dX11_expectedYes_96 ?_
      refine lv_lstore_n (lv' := [(3, .long (v3 + (r2 * r6.toInt64))), (8, .long r2), (0, .ref (B + 0)), (1, .int v1), (2, .int v2), (5, .long v5), (7, .int v7)]) hx hb dX11_expectedYes_97 rfl hl (by decide) rfl (fun ls hl => ?_)
      exact w_X11_expectedYes_98 l C0 n0 ih0 v1 v2 (v3 + (r2 * r6.toInt64)) v5 v7 r4 h hP hS (lv_sub hl [2, 3, 4, 0, 5, 6] rfl)
set_option maxRecDepth 100000 in
set_option maxHeartbeats 4000000 in
theorem wl_X11_expectedYes_37 (l : Launch) {V : Int64 × St} (C0 : XC D ct p s m args meth c cX11_expectedYes 10 (some .long) RX11)  : ∀ (n0 : Nat) (v1 : Int32) (v2 : Int32) (v3 : Int64) (v5 : Int64) (v7 : Int32) (S : St) {H : Heap} {locs : List Loc} {ls : Array Slot}, (lp n0 (l_X11_expectedYes_37) (v1, v2, v3, v5, v7, S)).bind some = some V → MP D ct B Hb S H → va_S (AB B) s.heap H locs → lv_has ls 10 [(0, .ref (B + 0)), (1, .int v1), (2, .int v2), (3, .long v3), (5, .long v5), (7, .int v7)] → W p l e { frames := 5, cells := 0, slots := 0, locals := 117 } s m args below meth c H locs 0 0 (MQ below (qLw D ct B Hb V) args s 0 0 (AB B)) (F0 m 37 ls []) := by
  intro n0
  induction n0 with
  | zero =>
    intro v1 v2 v3 v5 v7 S H locs ls h hP hS hl
    exact (lp_0 h).elim
  | succ n0 ih0 =>
    intro v1 v2 v3 v5 v7 S H locs ls h hP hS hl
    have h := lp_s h
    exact w_X11_expectedYes_37 l C0 n0 (fun v1 v2 v3 v5 v7 S H locs ls h hP hS hl => ih0 v1 v2 v3 v5 v7 S h hP hS hl) v1 v2 v3 v5 v7 S h hP hS hl
set_option maxRecDepth 100000 in
set_option maxHeartbeats 4000000 in
theorem w_X11_expectedYes_34 (l : Launch) {V : Int64 × St} (C0 : XC D ct p s m args meth c cX11_expectedYes 10 (some .long) RX11) (v1 : Int32) (v2 : Int32) (v3 : Int64) (v5 : Int64) (S : St) {H : Heap} {locs : List Loc} {ls : Array Slot} (h : (b_X11_expectedYes_34 v1 v2 v3 v5 S).bind some = some V) (hP : MP D ct B Hb S H) (hS : va_S (AB B) s.heap H locs) (hl : lv_has ls 10 [(0, .ref (B + 0)), (1, .int v1), (2, .int v2), (3, .long v3), (5, .long v5)]) : W p l e { frames := 5, cells := 0, slots := 0, locals := 117 } s m args below meth c H locs 0 0 (MQ below (qLw D ct B Hb V) args s 0 0 (AB B)) (F0 m 34 ls []) := by
  obtain ⟨hx, hb, hr, hml, hown, hts, hK, hlocks, hN⟩ := id C0
  unfold b_X11_expectedYes_34 at h
  refine lv_iconst (v := 0) hx hb dX11_expectedYes_34 (by decide) ?_
  refine lv_istore (lv' := [(7, .int 0), (0, .ref (B + 0)), (1, .int v1), (2, .int v2), (3, .long v3), (5, .long v5)]) hx hb dX11_expectedYes_35 hl (by decide) rfl (fun ls hl => ?_)
  exact wl_X11_expectedYes_37 l C0 1000 v1 v2 v3 v5 0 S h hP hS (lv_sub hl [1, 2, 3, 4, 5, 0] rfl)
set_option maxRecDepth 100000 in
set_option maxHeartbeats 4000000 in
theorem w_X11_expectedYes_8 (l : Launch) {V : Int64 × St} (C0 : XC D ct p s m args meth c cX11_expectedYes 10 (some .long) RX11) (n0 : Nat) (ih0 : ∀ (v1 : Int32) (v2 : Int32) (v3 : Int64) (v5 : Int64) (v7 : Int32) (S : St) (H : Heap) (locs : List Loc) (ls : Array Slot), (lp n0 (l_X11_expectedYes_8) (v1, v2, v3, v5, v7, S)).bind some = some V → MP D ct B Hb S H → va_S (AB B) s.heap H locs → lv_has ls 10 [(0, .ref (B + 0)), (1, .int v1), (2, .int v2), (3, .long v3), (5, .long v5), (7, .int v7)] → W p l e { frames := 5, cells := 0, slots := 0, locals := 117 } s m args below meth c H locs 0 0 (MQ below (qLw D ct B Hb V) args s 0 0 (AB B)) (F0 m 8 ls [])) (v1 : Int32) (v2 : Int32) (v3 : Int64) (v5 : Int64) (v7 : Int32) (S : St) {H : Heap} {locs : List Loc} {ls : Array Slot} (h : (b_X11_expectedYes_8 v1 v2 v3 v5 v7 S).bind (lpF n0 (l_X11_expectedYes_8) some) = some V) (hP : MP D ct B Hb S H) (hS : va_S (AB B) s.heap H locs) (hl : lv_has ls 10 [(0, .ref (B + 0)), (1, .int v1), (2, .int v2), (3, .long v3), (5, .long v5), (7, .int v7)]) : W p l e { frames := 5, cells := 0, slots := 0, locals := 117 } s m args below meth c H locs 0 0 (MQ below (qLw D ct B Hb V) args s 0 0 (AB B)) (F0 m 8 ls []) := by
  obtain ⟨hx, hb, hr, hml, hown, hts, hK, hlocks, hN⟩ := id C0
  unfold b_X11_expectedYes_8 at h
  refine lv_iload hx hb dX11_expectedYes_8 (lv_at hl 5 rfl) ?_
  refine lv_aload_n hx hb dX11_expectedYes_10 rfl (lv_at hl 0 rfl) ?_
  refine x_get C0 hP (lay_X11 B ct S) rfl inG11 0 (by decide) wd_212 (fun _ h => h) rfl dX11_expectedYes_11 ?_
  refine x_get C0 hP (lay_X10 B ct S (Or.inl rfl)) rfl inG10 6 (by decide) wd_78 (fun _ h => h) rfl dX11_expectedYes_14 ?_
  refine lv_icmp_ge (tgt := 34) hx hb dX11_expectedYes_17 (by decide) (fun z1 => ?_) (fun z1 => ?_)
  · have h := ob_t h z1
    have h := ob_mp h
    exact w_X11_expectedYes_34 l C0 v1 v2 v3 v5 S h hP hS (lv_sub hl [0, 1, 2, 3, 4] rfl)
  · have h := ob_f h z1
    refine lv_lload hx hb dX11_expectedYes_20 (lv_at hl 4 rfl) ?_
    refine lv_ldc2 (v := 10) hx hb hown (hts _ wd_883) dX11_expectedYes_22 ?_
    refine lv_lmul hx hb dX11_expectedYes_25 ?_
    refine lv_lstore (lv' := [(5, .long (v5 * 10)), (0, .ref (B + 0)), (1, .int v1), (2, .int v2), (3, .long v3), (7, .int v7)]) hx hb dX11_expectedYes_26 hl (by decide) rfl (fun ls hl => ?_)
    refine lv_iinc (v := v7 + 1) (lv' := [(7, .int (v7 + 1)), (5, .long (v5 * 10)), (0, .ref (B + 0)), (1, .int v1), (2, .int v2), (3, .long v3)]) hx hb dX11_expectedYes_28 hl (k := 5) rfl rfl (by decide) rfl (fun ls hl => ?_)
    refine lv_goto (tgt := 8) hx hb dX11_expectedYes_31 (by decide) ?_
    exact ih0 v1 v2 v3 (v5 * 10) (v7 + 1) S _ _ _ h hP hS (lv_sub hl [2, 3, 4, 5, 1, 0] rfl)
set_option maxRecDepth 100000 in
set_option maxHeartbeats 4000000 in
theorem wl_X11_expectedYes_8 (l : Launch) {V : Int64 × St} (C0 : XC D ct p s m args meth c cX11_expectedYes 10 (some .long) RX11)  : ∀ (n0 : Nat) (v1 : Int32) (v2 : Int32) (v3 : Int64) (v5 : Int64) (v7 : Int32) (S : St) {H : Heap} {locs : List Loc} {ls : Array Slot}, (lp n0 (l_X11_expectedYes_8) (v1, v2, v3, v5, v7, S)).bind some = some V → MP D ct B Hb S H → va_S (AB B) s.heap H locs → lv_has ls 10 [(0, .ref (B + 0)), (1, .int v1), (2, .int v2), (3, .long v3), (5, .long v5), (7, .int v7)] → W p l e { frames := 5, cells := 0, slots := 0, locals := 117 } s m args below meth c H locs 0 0 (MQ below (qLw D ct B Hb V) args s 0 0 (AB B)) (F0 m 8 ls []) := by
  intro n0
  induction n0 with
  | zero =>
    intro v1 v2 v3 v5 v7 S H locs ls h hP hS hl
    exact (lp_0 h).elim
  | succ n0 ih0 =>
    intro v1 v2 v3 v5 v7 S H locs ls h hP hS hl
    have h := lp_s h
    exact w_X11_expectedYes_8 l C0 n0 (fun v1 v2 v3 v5 v7 S H locs ls h hP hS hl => ih0 v1 v2 v3 v5 v7 S h hP hS hl) v1 v2 v3 v5 v7 S h hP hS hl
set_option maxRecDepth 100000 in
set_option maxHeartbeats 4000000 in
theorem w_X11_expectedYes_0 (l : Launch) {V : Int64 × St} (C0 : XC D ct p s m args meth c cX11_expectedYes 10 (some .long) RX11) (v1 : Int32) (v2 : Int32) (S : St) {H : Heap} {locs : List Loc} {ls : Array Slot} (h : (b_X11_expectedYes_0 v1 v2 S).bind some = some V) (hP : MP D ct B Hb S H) (hS : va_S (AB B) s.heap H locs) (hl : lv_has ls 10 [(0, .ref (B + 0)), (1, .int v1), (2, .int v2)]) : W p l e { frames := 5, cells := 0, slots := 0, locals := 117 } s m args below meth c H locs 0 0 (MQ below (qLw D ct B Hb V) args s 0 0 (AB B)) (F0 m 0 ls []) := by
  obtain ⟨hx, hb, hr, hml, hown, hts, hK, hlocks, hN⟩ := id C0
  unfold b_X11_expectedYes_0 at h
  refine lv_lconst (v := 0) hx hb dX11_expectedYes_0 (by decide) ?_
  refine lv_lstore_n (lv' := [(3, .long 0), (0, .ref (B + 0)), (1, .int v1), (2, .int v2)]) hx hb dX11_expectedYes_1 rfl hl (by decide) rfl (fun ls hl => ?_)
  refine lv_lconst (v := 1) hx hb dX11_expectedYes_2 (by decide) ?_
  refine lv_lstore (lv' := [(5, .long 1), (3, .long 0), (0, .ref (B + 0)), (1, .int v1), (2, .int v2)]) hx hb dX11_expectedYes_3 hl (by decide) rfl (fun ls hl => ?_)
  refine lv_iconst (v := 0) hx hb dX11_expectedYes_5 (by decide) ?_
  refine lv_istore (lv' := [(7, .int 0), (5, .long 1), (3, .long 0), (0, .ref (B + 0)), (1, .int v1), (2, .int v2)]) hx hb dX11_expectedYes_6 hl (by decide) rfl (fun ls hl => ?_)
  exact wl_X11_expectedYes_8 l C0 1000 v1 v2 0 1 0 S h hP hS (lv_sub hl [3, 4, 5, 2, 1, 0] rfl)
set_option maxRecDepth 100000 in
set_option maxHeartbeats 4000000 in
theorem c_X11_expectedYes (l : Launch) (a1 : Int32) (a2 : Int32) {D : va_G} {ct : Nat → ClassId} {B : Nat} {Hb : Heap} {S : St} {V : Int64 × St} (h : L_X11_expectedYes a1 a2 S = some V) : Met l yX11_expectedYes (Cond.code yX11_expectedYes cX11_expectedYes 10 (some .long) :: tG) { frames := 5, cells := 0, slots := 0, locals := 117 } (va_Pc [.ref (B + 0), .int a1, .int a2] (MPK D ct B Hb S)) (qLw D ct B Hb V) 0 0 (AB B) := by
  refine mk_met (by decide +kernel) (Nat.le_of_ble_eq_true rfl) (fun p e s m args below meth c ls C0 hP hl _ => ?_)
  have h := ob_of h
  exact w_X11_expectedYes_0 l C0 a1 a2 S h hP va_S.rf (lv_sub hl [0, 1, 2] rfl)
end WALKS
