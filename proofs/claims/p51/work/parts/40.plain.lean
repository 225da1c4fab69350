theorem dX7_dueWhenTold_0 : decode cX7_dueWhenTold 0 = .ok (.iload_n 1, 1) := by decide +kernel
theorem dX7_dueWhenTold_1 : decode cX7_dueWhenTold 1 = .ok (.ireturn, 1) := by decide +kernel
theorem dX7_sumOf_0 : decode cX7_sumOf 0 = .ok (.iload_n 1, 1) := by decide +kernel
theorem dX7_sumOf_1 : decode cX7_sumOf 1 = .ok (.iload_n 2, 1) := by decide +kernel
theorem dX7_sumOf_2 : decode cX7_sumOf 2 = .ok (.iadd, 1) := by decide +kernel
theorem dX7_sumOf_3 : decode cX7_sumOf 3 = .ok (.ireturn, 1) := by decide +kernel
theorem dX7_strengthOf_0 : decode cX7_strengthOf 0 = .ok (.iload_n 1, 1) := by decide +kernel
theorem dX7_strengthOf_1 : decode cX7_strengthOf 1 = .ok (.ifCond .ge 8, 3) := by decide +kernel
theorem dX7_strengthOf_4 : decode cX7_strengthOf 4 = .ok (.iload_n 1, 1) := by decide +kernel
theorem dX7_strengthOf_5 : decode cX7_strengthOf 5 = .ok (.ineg, 1) := by decide +kernel
theorem dX7_strengthOf_6 : decode cX7_strengthOf 6 = .ok (.goto 4, 3) := by decide +kernel
theorem dX7_strengthOf_9 : decode cX7_strengthOf 9 = .ok (.iload_n 1, 1) := by decide +kernel
theorem dX7_strengthOf_10 : decode cX7_strengthOf 10 = .ok (.ireturn, 1) := by decide +kernel
theorem dX7_buysOf_0 : decode cX7_buysOf 0 = .ok (.iload_n 1, 1) := by decide +kernel
theorem dX7_buysOf_1 : decode cX7_buysOf 1 = .ok (.iload_n 2, 1) := by decide +kernel
theorem dX7_buysOf_2 : decode cX7_buysOf 2 = .ok (.if_icmp .le 7, 3) := by decide +kernel
theorem dX7_buysOf_5 : decode cX7_buysOf 5 = .ok (.iconst 1, 1) := by decide +kernel
theorem dX7_buysOf_6 : decode cX7_buysOf 6 = .ok (.goto 4, 3) := by decide +kernel
theorem dX7_buysOf_9 : decode cX7_buysOf 9 = .ok (.iconst 0, 1) := by decide +kernel
theorem dX7_buysOf_10 : decode cX7_buysOf 10 = .ok (.ireturn, 1) := by decide +kernel
theorem dX7_priceOf_0 : decode cX7_priceOf 0 = .ok (.iload_n 1, 1) := by decide +kernel
theorem dX7_priceOf_1 : decode cX7_priceOf 1 = .ok (.iload_n 2, 1) := by decide +kernel
theorem dX7_priceOf_2 : decode cX7_priceOf 2 = .ok (.imul, 1) := by decide +kernel
theorem dX7_priceOf_3 : decode cX7_priceOf 3 = .ok (.iconst 3, 1) := by decide +kernel
theorem dX7_priceOf_4 : decode cX7_priceOf 4 = .ok (.iadd, 1) := by decide +kernel
theorem dX7_priceOf_5 : decode cX7_priceOf 5 = .ok (.iconst 4, 1) := by decide +kernel
theorem dX7_priceOf_6 : decode cX7_priceOf 6 = .ok (.idiv, 1) := by decide +kernel
theorem dX7_priceOf_7 : decode cX7_priceOf 7 = .ok (.ireturn, 1) := by decide +kernel
theorem dX7_fadeBy_0 : decode cX7_fadeBy 0 = .ok (.iload_n 1, 1) := by decide +kernel
theorem dX7_fadeBy_1 : decode cX7_fadeBy 1 = .ok (.ireturn, 1) := by decide +kernel
theorem dX0_dueWhenTold_0 : decode cX0_dueWhenTold 0 = .ok (.bipush 12, 2) := by decide +kernel
theorem dX0_dueWhenTold_2 : decode cX0_dueWhenTold 2 = .ok (.aload_n 0, 1) := by decide +kernel
theorem dX0_dueWhenTold_3 : decode cX0_dueWhenTold 3 = .ok (.iload_n 1, 1) := by decide +kernel
theorem dX0_dueWhenTold_4 : decode cX0_dueWhenTold 4 = .ok (.invokespecial 7, 3) := by decide +kernel
theorem dX0_dueWhenTold_7 : decode cX0_dueWhenTold 7 = .ok (.invokestatic 11, 3) := by decide +kernel
theorem dX0_dueWhenTold_10 : decode cX0_dueWhenTold 10 = .ok (.ireturn, 1) := by decide +kernel
theorem dX4_strengthOf_0 : decode cX4_strengthOf 0 = .ok (.aload_n 0, 1) := by decide +kernel
theorem dX4_strengthOf_1 : decode cX4_strengthOf 1 = .ok (.iload_n 1, 1) := by decide +kernel
theorem dX4_strengthOf_2 : decode cX4_strengthOf 2 = .ok (.invokespecial 7, 3) := by decide +kernel
theorem dX4_strengthOf_5 : decode cX4_strengthOf 5 = .ok (.aload_n 0, 1) := by decide +kernel
theorem dX4_strengthOf_6 : decode cX4_strengthOf 6 = .ok (.getfield 11, 3) := by decide +kernel
theorem dX4_strengthOf_9 : decode cX4_strengthOf 9 = .ok (.iadd, 1) := by decide +kernel
theorem dX4_strengthOf_10 : decode cX4_strengthOf 10 = .ok (.ireturn, 1) := by decide +kernel
theorem dX4_fadeBy_0 : decode cX4_fadeBy 0 = .ok (.iconst 0, 1) := by decide +kernel
theorem dX4_fadeBy_1 : decode cX4_fadeBy 1 = .ok (.aload_n 0, 1) := by decide +kernel
theorem dX4_fadeBy_2 : decode cX4_fadeBy 2 = .ok (.iload_n 1, 1) := by decide +kernel
theorem dX4_fadeBy_3 : decode cX4_fadeBy 3 = .ok (.invokespecial 17, 3) := by decide +kernel
theorem dX4_fadeBy_6 : decode cX4_fadeBy 6 = .ok (.iconst 1, 1) := by decide +kernel
theorem dX4_fadeBy_7 : decode cX4_fadeBy 7 = .ok (.isub, 1) := by decide +kernel
theorem dX4_fadeBy_8 : decode cX4_fadeBy 8 = .ok (.invokestatic 20, 3) := by decide +kernel
theorem dX4_fadeBy_11 : decode cX4_fadeBy 11 = .ok (.ireturn, 1) := by decide +kernel
theorem dX5_sumOf_0 : decode cX5_sumOf 0 = .ok (.aload_n 0, 1) := by decide +kernel
theorem dX5_sumOf_1 : decode cX5_sumOf 1 = .ok (.iload_n 1, 1) := by decide +kernel
theorem dX5_sumOf_2 : decode cX5_sumOf 2 = .ok (.iload_n 2, 1) := by decide +kernel
theorem dX5_sumOf_3 : decode cX5_sumOf 3 = .ok (.invokespecial 7, 3) := by decide +kernel
theorem dX5_sumOf_6 : decode cX5_sumOf 6 = .ok (.iload_n 2, 1) := by decide +kernel
theorem dX5_sumOf_7 : decode cX5_sumOf 7 = .ok (.iadd, 1) := by decide +kernel
theorem dX5_sumOf_8 : decode cX5_sumOf 8 = .ok (.ireturn, 1) := by decide +kernel
theorem dX1_buysOf_0 : decode cX1_buysOf 0 = .ok (.iload_n 1, 1) := by decide +kernel
theorem dX1_buysOf_1 : decode cX1_buysOf 1 = .ok (.iload_n 2, 1) := by decide +kernel
theorem dX1_buysOf_2 : decode cX1_buysOf 2 = .ok (.if_icmp .lt 7, 3) := by decide +kernel
theorem dX1_buysOf_5 : decode cX1_buysOf 5 = .ok (.iconst 1, 1) := by decide +kernel
theorem dX1_buysOf_6 : decode cX1_buysOf 6 = .ok (.goto 4, 3) := by decide +kernel
theorem dX1_buysOf_9 : decode cX1_buysOf 9 = .ok (.iconst 0, 1) := by decide +kernel
theorem dX1_buysOf_10 : decode cX1_buysOf 10 = .ok (.ireturn, 1) := by decide +kernel
theorem dX1_priceOf_0 : decode cX1_priceOf 0 = .ok (.aload_n 0, 1) := by decide +kernel
theorem dX1_priceOf_1 : decode cX1_priceOf 1 = .ok (.iload_n 1, 1) := by decide +kernel
theorem dX1_priceOf_2 : decode cX1_priceOf 2 = .ok (.iload_n 2, 1) := by decide +kernel
theorem dX1_priceOf_3 : decode cX1_priceOf 3 = .ok (.invokespecial 7, 3) := by decide +kernel
theorem dX1_priceOf_6 : decode cX1_priceOf 6 = .ok (.iconst 2, 1) := by decide +kernel
theorem dX1_priceOf_7 : decode cX1_priceOf 7 = .ok (.idiv, 1) := by decide +kernel
theorem dX1_priceOf_8 : decode cX1_priceOf 8 = .ok (.ireturn, 1) := by decide +kernel
theorem dX9_strengthOf_0 : decode cX9_strengthOf 0 = .ok (.iconst 2, 1) := by decide +kernel
theorem dX9_strengthOf_1 : decode cX9_strengthOf 1 = .ok (.aload_n 0, 1) := by decide +kernel
theorem dX9_strengthOf_2 : decode cX9_strengthOf 2 = .ok (.iload_n 1, 1) := by decide +kernel
theorem dX9_strengthOf_3 : decode cX9_strengthOf 3 = .ok (.invokespecial 7, 3) := by decide +kernel
theorem dX9_strengthOf_6 : decode cX9_strengthOf 6 = .ok (.imul, 1) := by decide +kernel
theorem dX9_strengthOf_7 : decode cX9_strengthOf 7 = .ok (.ireturn, 1) := by decide +kernel
theorem dX9_buysOf_0 : decode cX9_buysOf 0 = .ok (.iconst 0, 1) := by decide +kernel
theorem dX9_buysOf_1 : decode cX9_buysOf 1 = .ok (.ireturn, 1) := by decide +kernel
theorem dX6_sumOf_0 : decode cX6_sumOf 0 = .ok (.aload_n 0, 1) := by decide +kernel
theorem dX6_sumOf_1 : decode cX6_sumOf 1 = .ok (.iconst 0, 1) := by decide +kernel
theorem dX6_sumOf_2 : decode cX6_sumOf 2 = .ok (.iload_n 2, 1) := by decide +kernel
theorem dX6_sumOf_3 : decode cX6_sumOf 3 = .ok (.invokespecial 7, 3) := by decide +kernel
theorem dX6_sumOf_6 : decode cX6_sumOf 6 = .ok (.ireturn, 1) := by decide +kernel
theorem dX3_sumOf_0 : decode cX3_sumOf 0 = .ok (.aload_n 0, 1) := by decide +kernel
theorem dX3_sumOf_1 : decode cX3_sumOf 1 = .ok (.iconst 2, 1) := by decide +kernel
theorem dX3_sumOf_2 : decode cX3_sumOf 2 = .ok (.iload_n 1, 1) := by decide +kernel
theorem dX3_sumOf_3 : decode cX3_sumOf 3 = .ok (.imul, 1) := by decide +kernel
theorem dX3_sumOf_4 : decode cX3_sumOf 4 = .ok (.iload_n 2, 1) := by decide +kernel
theorem dX3_sumOf_5 : decode cX3_sumOf 5 = .ok (.invokespecial 7, 3) := by decide +kernel
theorem dX3_sumOf_8 : decode cX3_sumOf 8 = .ok (.ireturn, 1) := by decide +kernel
theorem dX3_priceOf_0 : decode cX3_priceOf 0 = .ok (.iconst 0, 1) := by decide +kernel
theorem dX3_priceOf_1 : decode cX3_priceOf 1 = .ok (.aload_n 0, 1) := by decide +kernel
theorem dX3_priceOf_2 : decode cX3_priceOf 2 = .ok (.iload_n 1, 1) := by decide +kernel
theorem dX3_priceOf_3 : decode cX3_priceOf 3 = .ok (.iload_n 2, 1) := by decide +kernel
theorem dX3_priceOf_4 : decode cX3_priceOf 4 = .ok (.invokespecial 11, 3) := by decide +kernel
theorem dX3_priceOf_7 : decode cX3_priceOf 7 = .ok (.iconst 1, 1) := by decide +kernel
theorem dX3_priceOf_8 : decode cX3_priceOf 8 = .ok (.isub, 1) := by decide +kernel
theorem dX3_priceOf_9 : decode cX3_priceOf 9 = .ok (.invokestatic 14, 3) := by decide +kernel
theorem dX3_priceOf_12 : decode cX3_priceOf 12 = .ok (.ireturn, 1) := by decide +kernel
theorem dX3_fadeBy_0 : decode cX3_fadeBy 0 = .ok (.iconst 2, 1) := by decide +kernel
theorem dX3_fadeBy_1 : decode cX3_fadeBy 1 = .ok (.aload_n 0, 1) := by decide +kernel
theorem dX3_fadeBy_2 : decode cX3_fadeBy 2 = .ok (.iload_n 1, 1) := by decide +kernel
theorem dX3_fadeBy_3 : decode cX3_fadeBy 3 = .ok (.invokespecial 19, 3) := by decide +kernel
theorem dX3_fadeBy_6 : decode cX3_fadeBy 6 = .ok (.imul, 1) := by decide +kernel
theorem dX3_fadeBy_7 : decode cX3_fadeBy 7 = .ok (.ireturn, 1) := by decide +kernel
theorem dJ6_bitCount_0f7a4_0 : decode cJ6_bitCount_0f7a4 0 = .ok (.iload_n 0, 1) := by decide +kernel
theorem dJ6_bitCount_0f7a4_1 : decode cJ6_bitCount_0f7a4 1 = .ok (.iload_n 0, 1) := by decide +kernel
theorem dJ6_bitCount_0f7a4_2 : decode cJ6_bitCount_0f7a4 2 = .ok (.iconst 1, 1) := by decide +kernel
theorem dJ6_bitCount_0f7a4_3 : decode cJ6_bitCount_0f7a4 3 = .ok (.iushr, 1) := by decide +kernel
theorem dJ6_bitCount_0f7a4_4 : decode cJ6_bitCount_0f7a4 4 = .ok (.ldc_w 265, 3) := by decide +kernel
theorem dJ6_bitCount_0f7a4_7 : decode cJ6_bitCount_0f7a4 7 = .ok (.iand, 1) := by decide +kernel
theorem dJ6_bitCount_0f7a4_8 : decode cJ6_bitCount_0f7a4 8 = .ok (.isub, 1) := by decide +kernel
theorem dJ6_bitCount_0f7a4_9 : decode cJ6_bitCount_0f7a4 9 = .ok (.istore_n 0, 1) := by decide +kernel
theorem dJ6_bitCount_0f7a4_10 : decode cJ6_bitCount_0f7a4 10 = .ok (.iload_n 0, 1) := by decide +kernel
theorem dJ6_bitCount_0f7a4_11 : decode cJ6_bitCount_0f7a4 11 = .ok (.ldc_w 266, 3) := by decide +kernel
theorem dJ6_bitCount_0f7a4_14 : decode cJ6_bitCount_0f7a4 14 = .ok (.iand, 1) := by decide +kernel
theorem dJ6_bitCount_0f7a4_15 : decode cJ6_bitCount_0f7a4 15 = .ok (.iload_n 0, 1) := by decide +kernel
theorem dJ6_bitCount_0f7a4_16 : decode cJ6_bitCount_0f7a4 16 = .ok (.iconst 2, 1) := by decide +kernel
theorem dJ6_bitCount_0f7a4_17 : decode cJ6_bitCount_0f7a4 17 = .ok (.iushr, 1) := by decide +kernel
theorem dJ6_bitCount_0f7a4_18 : decode cJ6_bitCount_0f7a4 18 = .ok (.ldc_w 266, 3) := by decide +kernel
theorem dJ6_bitCount_0f7a4_21 : decode cJ6_bitCount_0f7a4 21 = .ok (.iand, 1) := by decide +kernel
theorem dJ6_bitCount_0f7a4_22 : decode cJ6_bitCount_0f7a4 22 = .ok (.iadd, 1) := by decide +kernel
theorem dJ6_bitCount_0f7a4_23 : decode cJ6_bitCount_0f7a4 23 = .ok (.istore_n 0, 1) := by decide +kernel
theorem dJ6_bitCount_0f7a4_24 : decode cJ6_bitCount_0f7a4 24 = .ok (.iload_n 0, 1) := by decide +kernel
theorem dJ6_bitCount_0f7a4_25 : decode cJ6_bitCount_0f7a4 25 = .ok (.iload_n 0, 1) := by decide +kernel
theorem dJ6_bitCount_0f7a4_26 : decode cJ6_bitCount_0f7a4 26 = .ok (.iconst 4, 1) := by decide +kernel
theorem dJ6_bitCount_0f7a4_27 : decode cJ6_bitCount_0f7a4 27 = .ok (.iushr, 1) := by decide +kernel
theorem dJ6_bitCount_0f7a4_28 : decode cJ6_bitCount_0f7a4 28 = .ok (.iadd, 1) := by decide +kernel
theorem dJ6_bitCount_0f7a4_29 : decode cJ6_bitCount_0f7a4 29 = .ok (.ldc_w 267, 3) := by decide +kernel
theorem dJ6_bitCount_0f7a4_32 : decode cJ6_bitCount_0f7a4 32 = .ok (.iand, 1) := by decide +kernel
theorem dJ6_bitCount_0f7a4_33 : decode cJ6_bitCount_0f7a4 33 = .ok (.istore_n 0, 1) := by decide +kernel
theorem dJ6_bitCount_0f7a4_34 : decode cJ6_bitCount_0f7a4 34 = .ok (.iload_n 0, 1) := by decide +kernel
theorem dJ6_bitCount_0f7a4_35 : decode cJ6_bitCount_0f7a4 35 = .ok (.iload_n 0, 1) := by decide +kernel
theorem dJ6_bitCount_0f7a4_36 : decode cJ6_bitCount_0f7a4 36 = .ok (.bipush 8, 2) := by decide +kernel
theorem dJ6_bitCount_0f7a4_38 : decode cJ6_bitCount_0f7a4 38 = .ok (.iushr, 1) := by decide +kernel
theorem dJ6_bitCount_0f7a4_39 : decode cJ6_bitCount_0f7a4 39 = .ok (.iadd, 1) := by decide +kernel
theorem dJ6_bitCount_0f7a4_40 : decode cJ6_bitCount_0f7a4 40 = .ok (.istore_n 0, 1) := by decide +kernel
theorem dJ6_bitCount_0f7a4_41 : decode cJ6_bitCount_0f7a4 41 = .ok (.iload_n 0, 1) := by decide +kernel
theorem dJ6_bitCount_0f7a4_42 : decode cJ6_bitCount_0f7a4 42 = .ok (.iload_n 0, 1) := by decide +kernel
theorem dJ6_bitCount_0f7a4_43 : decode cJ6_bitCount_0f7a4 43 = .ok (.bipush 16, 2) := by decide +kernel
theorem dJ6_bitCount_0f7a4_45 : decode cJ6_bitCount_0f7a4 45 = .ok (.iushr, 1) := by decide +kernel
theorem dJ6_bitCount_0f7a4_46 : decode cJ6_bitCount_0f7a4 46 = .ok (.iadd, 1) := by decide +kernel
theorem dJ6_bitCount_0f7a4_47 : decode cJ6_bitCount_0f7a4 47 = .ok (.istore_n 0, 1) := by decide +kernel
theorem dJ6_bitCount_0f7a4_48 : decode cJ6_bitCount_0f7a4 48 = .ok (.iload_n 0, 1) := by decide +kernel
theorem dJ6_bitCount_0f7a4_49 : decode cJ6_bitCount_0f7a4 49 = .ok (.bipush 63, 2) := by decide +kernel
theorem dJ6_bitCount_0f7a4_51 : decode cJ6_bitCount_0f7a4 51 = .ok (.iand, 1) := by decide +kernel
theorem dJ6_bitCount_0f7a4_52 : decode cJ6_bitCount_0f7a4 52 = .ok (.ireturn, 1) := by decide +kernel
theorem dJ6_compare_7cf53_0 : decode cJ6_compare_7cf53 0 = .ok (.iload_n 0, 1) := by decide +kernel
theorem dJ6_compare_7cf53_1 : decode cJ6_compare_7cf53 1 = .ok (.iload_n 1, 1) := by decide +kernel
theorem dJ6_compare_7cf53_2 : decode cJ6_compare_7cf53 2 = .ok (.if_icmp .ge 7, 3) := by decide +kernel
theorem dJ6_compare_7cf53_5 : decode cJ6_compare_7cf53 5 = .ok (.iconst (-1), 1) := by decide +kernel
theorem dJ6_compare_7cf53_6 : decode cJ6_compare_7cf53 6 = .ok (.goto 13, 3) := by decide +kernel
theorem dJ6_compare_7cf53_9 : decode cJ6_compare_7cf53 9 = .ok (.iload_n 0, 1) := by decide +kernel
theorem dJ6_compare_7cf53_10 : decode cJ6_compare_7cf53 10 = .ok (.iload_n 1, 1) := by decide +kernel
theorem dJ6_compare_7cf53_11 : decode cJ6_compare_7cf53 11 = .ok (.if_icmp .ne 7, 3) := by decide +kernel
theorem dJ6_compare_7cf53_14 : decode cJ6_compare_7cf53 14 = .ok (.iconst 0, 1) := by decide +kernel
theorem dJ6_compare_7cf53_15 : decode cJ6_compare_7cf53 15 = .ok (.goto 4, 3) := by decide +kernel
theorem dJ6_compare_7cf53_18 : decode cJ6_compare_7cf53 18 = .ok (.iconst 1, 1) := by decide +kernel
theorem dJ6_compare_7cf53_19 : decode cJ6_compare_7cf53 19 = .ok (.ireturn, 1) := by decide +kernel
def b_X7_dueWhenTold_0 (q : Nat) (v1 : Int32) (S : St) : Option Int32 := some v1
def L_X7_dueWhenTold (q : Nat) (a1 : Int32) (S : St) : Option Int32 := b_X7_dueWhenTold_0 q a1 S
def b_X7_sumOf_0 (q : Nat) (v1 : Int32) (v2 : Int32) (S : St) : Option Int32 := some (v1 + v2)
def L_X7_sumOf (q : Nat) (a1 : Int32) (a2 : Int32) (S : St) : Option Int32 := b_X7_sumOf_0 q a1 a2 S
def b_X7_strengthOf_0 (q : Nat) (v1 : Int32) (S : St) : Option Int32 := (if (0 : Int32) ≤ v1 then some v1 else some (-v1))
def L_X7_strengthOf (q : Nat) (a1 : Int32) (S : St) : Option Int32 := b_X7_strengthOf_0 q a1 S
def b_X7_buysOf_0 (q : Nat) (v1 : Int32) (v2 : Int32) (S : St) : Option Int32 := (if (v1 : Int32) ≤ v2 then some 0 else some 1)
def L_X7_buysOf (q : Nat) (a1 : Int32) (a2 : Int32) (S : St) : Option Int32 := b_X7_buysOf_0 q a1 a2 S
def b_X7_priceOf_0 (q : Nat) (v1 : Int32) (v2 : Int32) (S : St) : Option Int32 := some (((v1 * v2) + 3) / 4)
def L_X7_priceOf (q : Nat) (a1 : Int32) (a2 : Int32) (S : St) : Option Int32 := b_X7_priceOf_0 q a1 a2 S
def b_X7_fadeBy_0 (q : Nat) (v1 : Int32) (S : St) : Option Int32 := some v1
def L_X7_fadeBy (q : Nat) (a1 : Int32) (S : St) : Option Int32 := b_X7_fadeBy_0 q a1 S
def b_X0_dueWhenTold_0 (q : Nat) (v1 : Int32) (S : St) : Option Int32 := (gq S q).bind fun k2 => (L_X7_dueWhenTold q v1 S).bind fun r1 => nm (if (r1 : Int32) < 12 then r1 else 12) fun m3 => some m3
def L_X0_dueWhenTold (q : Nat) (a1 : Int32) (S : St) : Option Int32 := b_X0_dueWhenTold_0 q a1 S
def b_X4_strengthOf_0 (q : Nat) (v1 : Int32) (S : St) : Option Int32 := (gq S q).bind fun k2 => (L_X7_strengthOf q v1 S).bind fun r1 => (gq S q).bind fun k3 => some (r1 + k3.2)
def L_X4_strengthOf (q : Nat) (a1 : Int32) (S : St) : Option Int32 := b_X4_strengthOf_0 q a1 S
def b_X4_fadeBy_0 (q : Nat) (v1 : Int32) (S : St) : Option Int32 := (gq S q).bind fun k2 => (L_X7_fadeBy q v1 S).bind fun r1 => nm (if (0 : Int32) < (r1 - 1) then r1 - 1 else 0) fun m3 => some m3
def L_X4_fadeBy (q : Nat) (a1 : Int32) (S : St) : Option Int32 := b_X4_fadeBy_0 q a1 S
def b_X5_sumOf_0 (q : Nat) (v1 : Int32) (v2 : Int32) (S : St) : Option Int32 := (gq S q).bind fun k2 => (L_X7_sumOf q v1 v2 S).bind fun r1 => some (r1 + v2)
def L_X5_sumOf (q : Nat) (a1 : Int32) (a2 : Int32) (S : St) : Option Int32 := b_X5_sumOf_0 q a1 a2 S
def b_X1_buysOf_0 (q : Nat) (v1 : Int32) (v2 : Int32) (S : St) : Option Int32 := (if (v1 : Int32) < v2 then some 0 else some 1)
def L_X1_buysOf (q : Nat) (a1 : Int32) (a2 : Int32) (S : St) : Option Int32 := b_X1_buysOf_0 q a1 a2 S
def b_X1_priceOf_0 (q : Nat) (v1 : Int32) (v2 : Int32) (S : St) : Option Int32 := (gq S q).bind fun k2 => (L_X7_priceOf q v1 v2 S).bind fun r1 => some (r1 / 2)
def L_X1_priceOf (q : Nat) (a1 : Int32) (a2 : Int32) (S : St) : Option Int32 := b_X1_priceOf_0 q a1 a2 S
def b_X9_strengthOf_0 (q : Nat) (v1 : Int32) (S : St) : Option Int32 := (gq S q).bind fun k2 => (L_X4_strengthOf q v1 S).bind fun r1 => some (2 * r1)
def L_X9_strengthOf (q : Nat) (a1 : Int32) (S : St) : Option Int32 := b_X9_strengthOf_0 q a1 S
def b_X9_buysOf_0 (q : Nat) (S : St) : Option Int32 := some 0
def L_X9_buysOf (q : Nat) (a1 : Int32) (a2 : Int32) (S : St) : Option Int32 := b_X9_buysOf_0 q S
def b_X6_sumOf_0 (q : Nat) (v2 : Int32) (S : St) : Option Int32 := (gq S q).bind fun k2 => (L_X5_sumOf q 0 v2 S).bind fun r1 => some r1
def L_X6_sumOf (q : Nat) (a1 : Int32) (a2 : Int32) (S : St) : Option Int32 := b_X6_sumOf_0 q a2 S
def b_X3_sumOf_0 (q : Nat) (v1 : Int32) (v2 : Int32) (S : St) : Option Int32 := (gq S q).bind fun k2 => (L_X7_sumOf q (2 * v1) v2 S).bind fun r1 => some r1
def L_X3_sumOf (q : Nat) (a1 : Int32) (a2 : Int32) (S : St) : Option Int32 := b_X3_sumOf_0 q a1 a2 S
def b_X3_priceOf_0 (q : Nat) (v1 : Int32) (v2 : Int32) (S : St) : Option Int32 := (gq S q).bind fun k2 => (L_X1_priceOf q v1 v2 S).bind fun r1 => nm (if (0 : Int32) < (r1 - 1) then r1 - 1 else 0) fun m3 => some m3
def L_X3_priceOf (q : Nat) (a1 : Int32) (a2 : Int32) (S : St) : Option Int32 := b_X3_priceOf_0 q a1 a2 S
def b_X3_fadeBy_0 (q : Nat) (v1 : Int32) (S : St) : Option Int32 := (gq S q).bind fun k2 => (L_X7_fadeBy q v1 S).bind fun r1 => some (2 * r1)
def L_X3_fadeBy (q : Nat) (a1 : Int32) (S : St) : Option Int32 := b_X3_fadeBy_0 q a1 S
def b_J6_bitCount_0f7a4_0 (v0 : Int32) (S : St) : Option Int32 := some ((((((((v0 - (((v0.toUInt32 >>> ((1 : Int32).toUInt32 &&& Int32.toUInt32 31)).toInt32) &&& 1431655765)) &&& 858993459) + ((((v0 - (((v0.toUInt32 >>> ((1 : Int32).toUInt32 &&& Int32.toUInt32 31)).toInt32) &&& 1431655765)).toUInt32 >>> ((2 : Int32).toUInt32 &&& Int32.toUInt32 31)).toInt32) &&& 858993459)) + (((((v0 - (((v0.toUInt32 >>> ((1 : Int32).toUInt32 &&& Int32.toUInt32 31)).toInt32) &&& 1431655765)) &&& 858993459) + ((((v0 - (((v0.toUInt32 >>> ((1 : Int32).toUInt32 &&& Int32.toUInt32 31)).toInt32) &&& 1431655765)).toUInt32 >>> ((2 : Int32).toUInt32 &&& Int32.toUInt32 31)).toInt32) &&& 858993459)).toUInt32 >>> ((4 : Int32).toUInt32 &&& Int32.toUInt32 31)).toInt32)) &&& 252645135) + (((((((v0 - (((v0.toUInt32 >>> ((1 : Int32).toUInt32 &&& Int32.toUInt32 31)).toInt32) &&& 1431655765)) &&& 858993459) + ((((v0 - (((v0.toUInt32 >>> ((1 : Int32).toUInt32 &&& Int32.toUInt32 31)).toInt32) &&& 1431655765)).toUInt32 >>> ((2 : Int32).toUInt32 &&& Int32.toUInt32 31)).toInt32) &&& 858993459)) + (((((v0 - (((v0.toUInt32 >>> ((1 : Int32).toUInt32 &&& Int32.toUInt32 31)).toInt32) &&& 1431655765)) &&& 858993459) + ((((v0 - (((v0.toUInt32 >>> ((1 : Int32).toUInt32 &&& Int32.toUInt32 31)).toInt32) &&& 1431655765)).toUInt32 >>> ((2 : Int32).toUInt32 &&& Int32.toUInt32 31)).toInt32) &&& 858993459)).toUInt32 >>> ((4 : Int32).toUInt32 &&& Int32.toUInt32 31)).toInt32)) &&& 252645135).toUInt32 >>> ((8 : Int32).toUInt32 &&& Int32.toUInt32 31)).toInt32)) + ((((((((v0 - (((v0.toUInt32 >>> ((1 : Int32).toUInt32 &&& Int32.toUInt32 31)).toInt32) &&& 1431655765)) &&& 858993459) + ((((v0 - (((v0.toUInt32 >>> ((1 : Int32).toUInt32 &&& Int32.toUInt32 31)).toInt32) &&& 1431655765)).toUInt32 >>> ((2 : Int32).toUInt32 &&& Int32.toUInt32 31)).toInt32) &&& 858993459)) + (((((v0 - (((v0.toUInt32 >>> ((1 : Int32).toUInt32 &&& Int32.toUInt32 31)).toInt32) &&& 1431655765)) &&& 858993459) + ((((v0 - (((v0.toUInt32 >>> ((1 : Int32).toUInt32 &&& Int32.toUInt32 31)).toInt32) &&& 1431655765)).toUInt32 >>> ((2 : Int32).toUInt32 &&& Int32.toUInt32 31)).toInt32) &&& 858993459)).toUInt32 >>> ((4 : Int32).toUInt32 &&& Int32.toUInt32 31)).toInt32)) &&& 252645135) + (((((((v0 - (((v0.toUInt32 >>> ((1 : Int32).toUInt32 &&& Int32.toUInt32 31)).toInt32) &&& 1431655765)) &&& 858993459) + ((((v0 - (((v0.toUInt32 >>> ((1 : Int32).toUInt32 &&& Int32.toUInt32 31)).toInt32) &&& 1431655765)).toUInt32 >>> ((2 : Int32).toUInt32 &&& Int32.toUInt32 31)).toInt32) &&& 858993459)) + (((((v0 - (((v0.toUInt32 >>> ((1 : Int32).toUInt32 &&& Int32.toUInt32 31)).toInt32) &&& 1431655765)) &&& 858993459) + ((((v0 - (((v0.toUInt32 >>> ((1 : Int32).toUInt32 &&& Int32.toUInt32 31)).toInt32) &&& 1431655765)).toUInt32 >>> ((2 : Int32).toUInt32 &&& Int32.toUInt32 31)).toInt32) &&& 858993459)).toUInt32 >>> ((4 : Int32).toUInt32 &&& Int32.toUInt32 31)).toInt32)) &&& 252645135).toUInt32 >>> ((8 : Int32).toUInt32 &&& Int32.toUInt32 31)).toInt32)).toUInt32 >>> ((16 : Int32).toUInt32 &&& Int32.toUInt32 31)).toInt32)) &&& 63)
def L_J6_bitCount_0f7a4 (a0 : Int32) (S : St) : Option Int32 := b_J6_bitCount_0f7a4_0 a0 S
def b_J6_compare_7cf53_0 (v0 : Int32) (v1 : Int32) (S : St) : Option Int32 := (if (v1 : Int32) ≤ v0 then (if (v0 : Int32) = v1 then some 0 else some 1) else some ((-1)))
def L_J6_compare_7cf53 (a0 : Int32) (a1 : Int32) (S : St) : Option Int32 := b_J6_compare_7cf53_0 a0 a1 S
section WALKS
variable {p : Program} {e : Env} {s : State} {m : MethodId} {args : Array Value} {below : List Frame} {meth : Method} {c : Code} {D : va_G} {ct : Nat → ClassId} {B : Nat} {Hb : Heap}
set_option maxRecDepth 100000 in
set_option maxHeartbeats 4000000 in
theorem w_X7_dueWhenTold_0 (l : Launch) {V : Int32} (C0 : XC D ct p s m args meth c cX7_dueWhenTold 2 (some .int) RX7) (q : Nat) (v1 : Int32) (S : St) {H : Heap} {locs : List Loc} {ls : Array Slot} (h : (b_X7_dueWhenTold_0 q v1 S).bind some = some V) (hP : MP D ct B Hb S H) (hS : va_S (AB B) s.heap H locs) (hl : lv_has ls 2 [(1, .int v1)]) : W p l e { frames := 0, cells := 0, slots := 0, locals := 0 } s m args below meth c H locs 0 0 (MQ below (qI D ct B Hb S V) args s 0 0 (AB B)) (F0 m 0 ls []) := by
  obtain ⟨hx, hb, hr, hml, hown, hts, hK, hlocks, hN⟩ := id C0
  unfold b_X7_dueWhenTold_0 at h
  refine lv_iload_n hx hb dX7_dueWhenTold_0 rfl (lv_at hl 0 rfl) ?_
  exact r_I C0 hP hS h dX7_dueWhenTold_1
set_option maxRecDepth 100000 in
set_option maxHeartbeats 4000000 in
theorem c_X7_dueWhenTold (l : Launch) (q : Nat) (a1 : Int32) {D : va_G} {ct : Nat → ClassId} {B : Nat} {Hb : Heap} {S : St} {V : Int32} (h : L_X7_dueWhenTold q a1 S = some V) : Met l yX7_dueWhenTold (Cond.code yX7_dueWhenTold cX7_dueWhenTold 2 (some .int) :: tG) { frames := 0, cells := 0, slots := 0, locals := 0 } (va_Pc [.ref (B + q), .int a1] (MPK D ct B Hb S)) (qI D ct B Hb S V) 0 0 (AB B) := by
  refine mk_met (by decide +kernel) (Nat.le_of_ble_eq_true rfl) (fun p e s m args below meth c ls C0 hP hl _ => ?_)
  have h := ob_of h
  exact w_X7_dueWhenTold_0 l C0 q a1 S h hP va_S.rf (lv_sub hl [1] rfl)
set_option maxRecDepth 100000 in
set_option maxHeartbeats 4000000 in
theorem w_X7_sumOf_0 (l : Launch) {V : Int32} (C0 : XC D ct p s m args meth c cX7_sumOf 3 (some .int) RX7) (q : Nat) (v1 : Int32) (v2 : Int32) (S : St) {H : Heap} {locs : List Loc} {ls : Array Slot} (h : (b_X7_sumOf_0 q v1 v2 S).bind some = some V) (hP : MP D ct B Hb S H) (hS : va_S (AB B) s.heap H locs) (hl : lv_has ls 3 [(1, .int v1), (2, .int v2)]) : W p l e { frames := 0, cells := 0, slots := 0, locals := 0 } s m args below meth c H locs 0 0 (MQ below (qI D ct B Hb S V) args s 0 0 (AB B)) (F0 m 0 ls []) := by
  obtain ⟨hx, hb, hr, hml, hown, hts, hK, hlocks, hN⟩ := id C0
  unfold b_X7_sumOf_0 at h
  refine lv_iload_n hx hb dX7_sumOf_0 rfl (lv_at hl 0 rfl) ?_
  refine lv_iload_n hx hb dX7_sumOf_1 rfl (lv_at hl 1 rfl) ?_
  refine lv_iadd hx hb dX7_sumOf_2 ?_
  exact r_I C0 hP hS h dX7_sumOf_3
set_option maxRecDepth 100000 in
set_option maxHeartbeats 4000000 in
theorem c_X7_sumOf (l : Launch) (q : Nat) (a1 : Int32) (a2 : Int32) {D : va_G} {ct : Nat → ClassId} {B : Nat} {Hb : Heap} {S : St} {V : Int32} (h : L_X7_sumOf q a1 a2 S = some V) : Met l yX7_sumOf (Cond.code yX7_sumOf cX7_sumOf 3 (some .int) :: tG) { frames := 0, cells := 0, slots := 0, locals := 0 } (va_Pc [.ref (B + q), .int a1, .int a2] (MPK D ct B Hb S)) (qI D ct B Hb S V) 0 0 (AB B) := by
  refine mk_met (by decide +kernel) (Nat.le_of_ble_eq_true rfl) (fun p e s m args below meth c ls C0 hP hl _ => ?_)
  have h := ob_of h
  exact w_X7_sumOf_0 l C0 q a1 a2 S h hP va_S.rf (lv_sub hl [1, 2] rfl)
set_option maxRecDepth 100000 in
set_option maxHeartbeats 4000000 in
theorem w_X7_strengthOf_0 (l : Launch) {V : Int32} (C0 : XC D ct p s m args meth c cX7_strengthOf 2 (some .int) RX7) (q : Nat) (v1 : Int32) (S : St) {H : Heap} {locs : List Loc} {ls : Array Slot} (h : (b_X7_strengthOf_0 q v1 S).bind some = some V) (hP : MP D ct B Hb S H) (hS : va_S (AB B) s.heap H locs) (hl : lv_has ls 2 [(1, .int v1)]) : W p l e { frames := 0, cells := 0, slots := 0, locals := 0 } s m args below meth c H locs 0 0 (MQ below (qI D ct B Hb S V) args s 0 0 (AB B)) (F0 m 0 ls []) := by
  obtain ⟨hx, hb, hr, hml, hown, hts, hK, hlocks, hN⟩ := id C0
  unfold b_X7_strengthOf_0 at h
  refine lv_iload_n hx hb dX7_strengthOf_0 rfl (lv_at hl 0 rfl) ?_
  refine lv_if_ge (tgt := 9) hx hb dX7_strengthOf_1 (by decide) (fun z1 => ?_) (fun z1 => ?_)
  · have h := ob_t h z1
    refine lv_iload_n hx hb dX7_strengthOf_9 rfl (lv_at hl 0 rfl) ?_
    exact r_I C0 hP hS h dX7_strengthOf_10
  · have h := ob_f h z1
    refine lv_iload_n hx hb dX7_strengthOf_4 rfl (lv_at hl 0 rfl) ?_
    refine lv_ineg hx hb dX7_strengthOf_5 ?_
    refine lv_goto (tgt := 10) hx hb dX7_strengthOf_6 (by decide) ?_
    exact r_I C0 hP hS h dX7_strengthOf_10
set_option maxRecDepth 100000 in
set_option maxHeartbeats 4000000 in
theorem c_X7_strengthOf (l : Launch) (q : Nat) (a1 : Int32) {D : va_G} {ct : Nat → ClassId} {B : Nat} {Hb : Heap} {S : St} {V : Int32} (h : L_X7_strengthOf q a1 S = some V) : Met l yX7_strengthOf (Cond.code yX7_strengthOf cX7_strengthOf 2 (some .int) :: tG) { frames := 0, cells := 0, slots := 0, locals := 0 } (va_Pc [.ref (B + q), .int a1] (MPK D ct B Hb S)) (qI D ct B Hb S V) 0 0 (AB B) := by
  refine mk_met (by decide +kernel) (Nat.le_of_ble_eq_true rfl) (fun p e s m args below meth c ls C0 hP hl _ => ?_)
  have h := ob_of h
  exact w_X7_strengthOf_0 l C0 q a1 S h hP va_S.rf (lv_sub hl [1] rfl)
set_option maxRecDepth 100000 in
set_option maxHeartbeats 4000000 in
theorem w_X7_buysOf_0 (l : Launch) {V : Int32} (C0 : XC D ct p s m args meth c cX7_buysOf 3 (some .boolean) RX7) (q : Nat) (v1 : Int32) (v2 : Int32) (S : St) {H : Heap} {locs : List Loc} {ls : Array Slot} (h : (b_X7_buysOf_0 q v1 v2 S).bind some = some V) (hP : MP D ct B Hb S H) (hS : va_S (AB B) s.heap H locs) (hl : lv_has ls 3 [(1, .int v1), (2, .int v2)]) : W p l e { frames := 0, cells := 0, slots := 0, locals := 0 } s m args below meth c H locs 0 0 (MQ below (qI D ct B Hb S V) args s 0 0 (AB B)) (F0 m 0 ls []) := by
  obtain ⟨hx, hb, hr, hml, hown, hts, hK, hlocks, hN⟩ := id C0
  unfold b_X7_buysOf_0 at h
  refine lv_iload_n hx hb dX7_buysOf_0 rfl (lv_at hl 0 rfl) ?_
  refine lv_iload_n hx hb dX7_buysOf_1 rfl (lv_at hl 1 rfl) ?_
  refine lv_icmp_le (tgt := 9) hx hb dX7_buysOf_2 (by decide) (fun z1 => ?_) (fun z1 => ?_)
  · have h := ob_t h z1
    refine lv_iconst (v := 0) hx hb dX7_buysOf_9 (by decide) ?_
    exact r_Z C0 hP hS bool_0 h dX7_buysOf_10
  · have h := ob_f h z1
    refine lv_iconst (v := 1) hx hb dX7_buysOf_5 (by decide) ?_
    refine lv_goto (tgt := 10) hx hb dX7_buysOf_6 (by decide) ?_
    exact r_Z C0 hP hS bool_1 h dX7_buysOf_10
set_option maxRecDepth 100000 in
set_option maxHeartbeats 4000000 in
theorem c_X7_buysOf (l : Launch) (q : Nat) (a1 : Int32) (a2 : Int32) {D : va_G} {ct : Nat → ClassId} {B : Nat} {Hb : Heap} {S : St} {V : Int32} (h : L_X7_buysOf q a1 a2 S = some V) : Met l yX7_buysOf (Cond.code yX7_buysOf cX7_buysOf 3 (some .boolean) :: tG) { frames := 0, cells := 0, slots := 0, locals := 0 } (va_Pc [.ref (B + q), .int a1, .int a2] (MPK D ct B Hb S)) (qI D ct B Hb S V) 0 0 (AB B) := by
  refine mk_met (by decide +kernel) (Nat.le_of_ble_eq_true rfl) (fun p e s m args below meth c ls C0 hP hl _ => ?_)
  have h := ob_of h
  exact w_X7_buysOf_0 l C0 q a1 a2 S h hP va_S.rf (lv_sub hl [1, 2] rfl)
set_option maxRecDepth 100000 in
set_option maxHeartbeats 4000000 in
theorem w_X7_priceOf_0 (l : Launch) {V : Int32} (C0 : XC D ct p s m args meth c cX7_priceOf 3 (some .int) RX7) (q : Nat) (v1 : Int32) (v2 : Int32) (S : St) {H : Heap} {locs : List Loc} {ls : Array Slot} (h : (b_X7_priceOf_0 q v1 v2 S).bind some = some V) (hP : MP D ct B Hb S H) (hS : va_S (AB B) s.heap H locs) (hl : lv_has ls 3 [(1, .int v1), (2, .int v2)]) : W p l e { frames := 0, cells := 0, slots := 0, locals := 0 } s m args below meth c H locs 0 0 (MQ below (qI D ct B Hb S V) args s 0 0 (AB B)) (F0 m 0 ls []) := by
  obtain ⟨hx, hb, hr, hml, hown, hts, hK, hlocks, hN⟩ := id C0
  unfold b_X7_priceOf_0 at h
  refine lv_iload_n hx hb dX7_priceOf_0 rfl (lv_at hl 0 rfl) ?_
  refine lv_iload_n hx hb dX7_priceOf_1 rfl (lv_at hl 1 rfl) ?_
  refine lv_imul hx hb dX7_priceOf_2 ?_
  refine lv_iconst (v := 3) hx hb dX7_priceOf_3 (by decide) ?_
  refine lv_iadd hx hb dX7_priceOf_4 ?_
  refine lv_iconst (v := 4) hx hb dX7_priceOf_5 (by decide) ?_
  refine lv_idiv hx hb dX7_priceOf_6 (by decide) ?_
  exact r_I C0 hP hS h dX7_priceOf_7
set_option maxRecDepth 100000 in
set_option maxHeartbeats 4000000 in
theorem c_X7_priceOf (l : Launch) (q : Nat) (a1 : Int32) (a2 : Int32) {D : va_G} {ct : Nat → ClassId} {B : Nat} {Hb : Heap} {S : St} {V : Int32} (h : L_X7_priceOf q a1 a2 S = some V) : Met l yX7_priceOf (Cond.code yX7_priceOf cX7_priceOf 3 (some .int) :: tG) { frames := 0, cells := 0, slots := 0, locals := 0 } (va_Pc [.ref (B + q), .int a1, .int a2] (MPK D ct B Hb S)) (qI D ct B Hb S V) 0 0 (AB B) := by
  refine mk_met (by decide +kernel) (Nat.le_of_ble_eq_true rfl) (fun p e s m args below meth c ls C0 hP hl _ => ?_)
  have h := ob_of h
  exact w_X7_priceOf_0 l C0 q a1 a2 S h hP va_S.rf (lv_sub hl [1, 2] rfl)
set_option maxRecDepth 100000 in
set_option maxHeartbeats 4000000 in
theorem w_X7_fadeBy_0 (l : Launch) {V : Int32} (C0 : XC D ct p s m args meth c cX7_fadeBy 2 (some .int) RX7) (q : Nat) (v1 : Int32) (S : St) {H : Heap} {locs : List Loc} {ls : Array Slot} (h : (b_X7_fadeBy_0 q v1 S).bind some = some V) (hP : MP D ct B Hb S H) (hS : va_S (AB B) s.heap H locs) (hl : lv_has ls 2 [(1, .int v1)]) : W p l e { frames := 0, cells := 0, slots := 0, locals := 0 } s m args below meth c H locs 0 0 (MQ below (qI D ct B Hb S V) args s 0 0 (AB B)) (F0 m 0 ls []) := by
  obtain ⟨hx, hb, hr, hml, hown, hts, hK, hlocks, hN⟩ := id C0
  unfold b_X7_fadeBy_0 at h
  refine lv_iload_n hx hb dX7_fadeBy_0 rfl (lv_at hl 0 rfl) ?_
  exact r_I C0 hP hS h dX7_fadeBy_1
set_option maxRecDepth 100000 in
set_option maxHeartbeats 4000000 in
theorem c_X7_fadeBy (l : Launch) (q : Nat) (a1 : Int32) {D : va_G} {ct : Nat → ClassId} {B : Nat} {Hb : Heap} {S : St} {V : Int32} (h : L_X7_fadeBy q a1 S = some V) : Met l yX7_fadeBy (Cond.code yX7_fadeBy cX7_fadeBy 2 (some .int) :: tG) { frames := 0, cells := 0, slots := 0, locals := 0 } (va_Pc [.ref (B + q), .int a1] (MPK D ct B Hb S)) (qI D ct B Hb S V) 0 0 (AB B) := by
  refine mk_met (by decide +kernel) (Nat.le_of_ble_eq_true rfl) (fun p e s m args below meth c ls C0 hP hl _ => ?_)
  have h := ob_of h
  exact w_X7_fadeBy_0 l C0 q a1 S h hP va_S.rf (lv_sub hl [1] rfl)
set_option maxRecDepth 100000 in
set_option maxHeartbeats 4000000 in
theorem w_X0_dueWhenTold_0 (l : Launch) {V : Int32} (C0 : XC D ct p s m args meth c cX0_dueWhenTold 2 (some .int) RX0) (q : Nat) (v1 : Int32) (S : St) {H : Heap} {locs : List Loc} {ls : Array Slot} (h : (b_X0_dueWhenTold_0 q v1 S).bind some = some V) (hP : MP D ct B Hb S H) (hS : va_S (AB B) s.heap H locs) (hl : lv_has ls 2 [(0, .ref (B + q)), (1, .int v1)]) : W p l e { frames := 1, cells := 0, slots := 0, locals := 21 } s m args below meth c H locs 0 0 (MQ below (qI D ct B Hb S V) args s 0 0 (AB B)) (F0 m 0 ls []) := by
  obtain ⟨hx, hb, hr, hml, hown, hts, hK, hlocks, hN⟩ := id C0
  unfold b_X0_dueWhenTold_0 at h
  refine lv_bipush (v := 12) hx hb dX0_dueWhenTold_0 (by decide) ?_
  refine lv_aload_n hx hb dX0_dueWhenTold_2 rfl (lv_at hl 0 rfl) ?_
  refine lv_iload_n hx hb dX0_dueWhenTold_3 rfl (lv_at hl 1 rfl) ?_
  obtain ⟨k2, ek2, h⟩ := ob_bd h
  obtain ⟨r1, hr1, h⟩ := ob_bd h
  refine n_I (kUp (As := [.int v1]) C0 (c_X7_dueWhenTold l q v1 hr1) ⟨wd_642, wd_632, wd_628, wd_366, wd_626, wd_3⟩ ⟨by decide, kd_X7_dueWhenTold.2.2.2⟩ ⟨Nat.le_of_ble_eq_true rfl, Nat.le_of_ble_eq_true rfl⟩ hP ek2 rfl hl.1 rfl (Nat.le_of_ble_eq_true rfl) dX0_dueWhenTold_4 ⟨Nat.le_of_ble_eq_true rfl, Nat.le_of_ble_eq_true rfl⟩) hS (fun H locs hP hS => ?_)
  refine x_min C0 hl.1 ⟨wd_633, wd_634, wd_18, wd_635⟩ (Nat.le_of_ble_eq_true rfl) (Nat.le_of_ble_eq_true rfl) ⟨Nat.le_of_ble_eq_true rfl, Nat.le_of_ble_eq_true rfl⟩ dX0_dueWhenTold_7 ?_
  obtain ⟨m3, em3, h⟩ := ob_nm h
  rw [← em3]
  exact r_I C0 hP hS h dX0_dueWhenTold_10
set_option maxRecDepth 100000 in
set_option maxHeartbeats 4000000 in
theorem c_X0_dueWhenTold (l : Launch) (q : Nat) (a1 : Int32) {D : va_G} {ct : Nat → ClassId} {B : Nat} {Hb : Heap} {S : St} {V : Int32} (h : L_X0_dueWhenTold q a1 S = some V) : Met l yX0_dueWhenTold (Cond.code yX0_dueWhenTold cX0_dueWhenTold 2 (some .int) :: tG) { frames := 1, cells := 0, slots := 0, locals := 21 } (va_Pc [.ref (B + q), .int a1] (MPK D ct B Hb S)) (qI D ct B Hb S V) 0 0 (AB B) := by
  refine mk_met (by decide +kernel) (Nat.le_of_ble_eq_true rfl) (fun p e s m args below meth c ls C0 hP hl _ => ?_)
  have h := ob_of h
  exact w_X0_dueWhenTold_0 l C0 q a1 S h hP va_S.rf (lv_sub hl [0, 1] rfl)
set_option maxRecDepth 100000 in
set_option maxHeartbeats 4000000 in
theorem w_X4_strengthOf_0 (l : Launch) {V : Int32} (C0 : XC D ct p s m args meth c cX4_strengthOf 2 (some .int) RX4) (q : Nat) (v1 : Int32) (S : St) {H : Heap} {locs : List Loc} {ls : Array Slot} (h : (b_X4_strengthOf_0 q v1 S).bind some = some V) (hP : MP D ct B Hb S H) (hS : va_S (AB B) s.heap H locs) (hl : lv_has ls 2 [(0, .ref (B + q)), (1, .int v1)]) : W p l e { frames := 1, cells := 0, slots := 0, locals := 21 } s m args below meth c H locs 0 0 (MQ below (qI D ct B Hb S V) args s 0 0 (AB B)) (F0 m 0 ls []) := by
  obtain ⟨hx, hb, hr, hml, hown, hts, hK, hlocks, hN⟩ := id C0
  unfold b_X4_strengthOf_0 at h
  refine lv_aload_n hx hb dX4_strengthOf_0 rfl (lv_at hl 0 rfl) ?_
  refine lv_iload_n hx hb dX4_strengthOf_1 rfl (lv_at hl 1 rfl) ?_
  obtain ⟨k2, ek2, h⟩ := ob_bd h
  obtain ⟨r1, hr1, h⟩ := ob_bd h
  refine n_I (kUp (As := [.int v1]) C0 (c_X7_strengthOf l q v1 hr1) ⟨wd_699, wd_692, wd_685, wd_375, wd_683, wd_3⟩ ⟨by decide, kd_X7_strengthOf.2.2.2⟩ ⟨Nat.le_of_ble_eq_true rfl, Nat.le_of_ble_eq_true rfl⟩ hP ek2 rfl hl.1 rfl (Nat.le_of_ble_eq_true rfl) dX4_strengthOf_2 ⟨Nat.le_of_ble_eq_true rfl, Nat.le_of_ble_eq_true rfl⟩) hS (fun H locs hP hS => ?_)
  refine lv_aload_n hx hb dX4_strengthOf_5 rfl (lv_at hl 0 rfl) ?_
  obtain ⟨k3, ek3, h⟩ := ob_bd h
  refine x_pl C0 hP ek3 1 (by decide) (Or.inr ⟨rfl, rfl⟩) wd_51 (fun x9 h9 => u_same (hts _ wd_52) x9 h9) rfl dX4_strengthOf_6 ?_
  refine lv_iadd hx hb dX4_strengthOf_9 ?_
  exact r_I C0 hP hS h dX4_strengthOf_10
set_option maxRecDepth 100000 in
set_option maxHeartbeats 4000000 in
theorem c_X4_strengthOf (l : Launch) (q : Nat) (a1 : Int32) {D : va_G} {ct : Nat → ClassId} {B : Nat} {Hb : Heap} {S : St} {V : Int32} (h : L_X4_strengthOf q a1 S = some V) : Met l yX4_strengthOf (Cond.code yX4_strengthOf cX4_strengthOf 2 (some .int) :: tG) { frames := 1, cells := 0, slots := 0, locals := 21 } (va_Pc [.ref (B + q), .int a1] (MPK D ct B Hb S)) (qI D ct B Hb S V) 0 0 (AB B) := by
  refine mk_met (by decide +kernel) (Nat.le_of_ble_eq_true rfl) (fun p e s m args below meth c ls C0 hP hl _ => ?_)
  have h := ob_of h
  exact w_X4_strengthOf_0 l C0 q a1 S h hP va_S.rf (lv_sub hl [0, 1] rfl)
set_option maxRecDepth 100000 in
set_option maxHeartbeats 4000000 in
theorem w_X4_fadeBy_0 (l : Launch) {V : Int32} (C0 : XC D ct p s m args meth c cX4_fadeBy 2 (some .int) RX4) (q : Nat) (v1 : Int32) (S : St) {H : Heap} {locs : List Loc} {ls : Array Slot} (h : (b_X4_fadeBy_0 q v1 S).bind some = some V) (hP : MP D ct B Hb S H) (hS : va_S (AB B) s.heap H locs) (hl : lv_has ls 2 [(0, .ref (B + q)), (1, .int v1)]) : W p l e { frames := 1, cells := 0, slots := 0, locals := 21 } s m args below meth c H locs 0 0 (MQ below (qI D ct B Hb S V) args s 0 0 (AB B)) (F0 m 0 ls []) := by
  obtain ⟨hx, hb, hr, hml, hown, hts, hK, hlocks, hN⟩ := id C0
  unfold b_X4_fadeBy_0 at h
  refine lv_iconst (v := 0) hx hb dX4_fadeBy_0 (by decide) ?_
  refine lv_aload_n hx hb dX4_fadeBy_1 rfl (lv_at hl 0 rfl) ?_
  refine lv_iload_n hx hb dX4_fadeBy_2 rfl (lv_at hl 1 rfl) ?_
  obtain ⟨k2, ek2, h⟩ := ob_bd h
  obtain ⟨r1, hr1, h⟩ := ob_bd h
  refine n_I (kUp (As := [.int v1]) C0 (c_X7_fadeBy l q v1 hr1) ⟨wd_785, wd_780, wd_768, wd_375, wd_766, wd_3⟩ ⟨by decide, kd_X7_fadeBy.2.2.2⟩ ⟨Nat.le_of_ble_eq_true rfl, Nat.le_of_ble_eq_true rfl⟩ hP ek2 rfl hl.1 rfl (Nat.le_of_ble_eq_true rfl) dX4_fadeBy_3 ⟨Nat.le_of_ble_eq_true rfl, Nat.le_of_ble_eq_true rfl⟩) hS (fun H locs hP hS => ?_)
  refine lv_iconst (v := 1) hx hb dX4_fadeBy_6 (by decide) ?_
  refine lv_isub hx hb dX4_fadeBy_7 ?_
  refine x_max C0 hl.1 ⟨wd_781, wd_709, wd_18, wd_710⟩ (Nat.le_of_ble_eq_true rfl) (Nat.le_of_ble_eq_true rfl) ⟨Nat.le_of_ble_eq_true rfl, Nat.le_of_ble_eq_true rfl⟩ dX4_fadeBy_8 ?_
  obtain ⟨m3, em3, h⟩ := ob_nm h
  rw [← em3]
  exact r_I C0 hP hS h dX4_fadeBy_11
set_option maxRecDepth 100000 in
set_option maxHeartbeats 4000000 in
theorem c_X4_fadeBy (l : Launch) (q : Nat) (a1 : Int32) {D : va_G} {ct : Nat → ClassId} {B : Nat} {Hb : Heap} {S : St} {V : Int32} (h : L_X4_fadeBy q a1 S = some V) : Met l yX4_fadeBy (Cond.code yX4_fadeBy cX4_fadeBy 2 (some .int) :: tG) { frames := 1, cells := 0, slots := 0, locals := 21 } (va_Pc [.ref (B + q), .int a1] (MPK D ct B Hb S)) (qI D ct B Hb S V) 0 0 (AB B) := by
  refine mk_met (by decide +kernel) (Nat.le_of_ble_eq_true rfl) (fun p e s m args below meth c ls C0 hP hl _ => ?_)
  have h := ob_of h
  exact w_X4_fadeBy_0 l C0 q a1 S h hP va_S.rf (lv_sub hl [0, 1] rfl)
set_option maxRecDepth 100000 in
set_option maxHeartbeats 4000000 in
theorem w_X5_sumOf_0 (l : Launch) {V : Int32} (C0 : XC D ct p s m args meth c cX5_sumOf 3 (some .int) RX5) (q : Nat) (v1 : Int32) (v2 : Int32) (S : St) {H : Heap} {locs : List Loc} {ls : Array Slot} (h : (b_X5_sumOf_0 q v1 v2 S).bind some = some V) (hP : MP D ct B Hb S H) (hS : va_S (AB B) s.heap H locs) (hl : lv_has ls 3 [(0, .ref (B + q)), (1, .int v1), (2, .int v2)]) : W p l e { frames := 1, cells := 0, slots := 0, locals := 22 } s m args below meth c H locs 0 0 (MQ below (qI D ct B Hb S V) args s 0 0 (AB B)) (F0 m 0 ls []) := by
  obtain ⟨hx, hb, hr, hml, hown, hts, hK, hlocks, hN⟩ := id C0
  unfold b_X5_sumOf_0 at h
  refine lv_aload_n hx hb dX5_sumOf_0 rfl (lv_at hl 0 rfl) ?_
  refine lv_iload_n hx hb dX5_sumOf_1 rfl (lv_at hl 1 rfl) ?_
  refine lv_iload_n hx hb dX5_sumOf_2 rfl (lv_at hl 2 rfl) ?_
  obtain ⟨k2, ek2, h⟩ := ob_bd h
  obtain ⟨r1, hr1, h⟩ := ob_bd h
  refine n_I (kUp (As := [.int v1, .int v2]) C0 (c_X7_sumOf l q v1 v2 hr1) ⟨wd_677, wd_671, wd_658, wd_393, wd_656, wd_3⟩ ⟨by decide, kd_X7_sumOf.2.2.2⟩ ⟨Nat.le_of_ble_eq_true rfl, Nat.le_of_ble_eq_true rfl⟩ hP ek2 rfl hl.1 rfl (Nat.le_of_ble_eq_true rfl) dX5_sumOf_3 ⟨Nat.le_of_ble_eq_true rfl, Nat.le_of_ble_eq_true rfl⟩) hS (fun H locs hP hS => ?_)
  refine lv_iload_n hx hb dX5_sumOf_6 rfl (lv_at hl 2 rfl) ?_
  refine lv_iadd hx hb dX5_sumOf_7 ?_
  exact r_I C0 hP hS h dX5_sumOf_8
set_option maxRecDepth 100000 in
set_option maxHeartbeats 4000000 in
theorem c_X5_sumOf (l : Launch) (q : Nat) (a1 : Int32) (a2 : Int32) {D : va_G} {ct : Nat → ClassId} {B : Nat} {Hb : Heap} {S : St} {V : Int32} (h : L_X5_sumOf q a1 a2 S = some V) : Met l yX5_sumOf (Cond.code yX5_sumOf cX5_sumOf 3 (some .int) :: tG) { frames := 1, cells := 0, slots := 0, locals := 22 } (va_Pc [.ref (B + q), .int a1, .int a2] (MPK D ct B Hb S)) (qI D ct B Hb S V) 0 0 (AB B) := by
  refine mk_met (by decide +kernel) (Nat.le_of_ble_eq_true rfl) (fun p e s m args below meth c ls C0 hP hl _ => ?_)
  have h := ob_of h
  exact w_X5_sumOf_0 l C0 q a1 a2 S h hP va_S.rf (lv_sub hl [0, 1, 2] rfl)
set_option maxRecDepth 100000 in
set_option maxHeartbeats 4000000 in
theorem w_X1_buysOf_0 (l : Launch) {V : Int32} (C0 : XC D ct p s m args meth c cX1_buysOf 3 (some .boolean) RX1) (q : Nat) (v1 : Int32) (v2 : Int32) (S : St) {H : Heap} {locs : List Loc} {ls : Array Slot} (h : (b_X1_buysOf_0 q v1 v2 S).bind some = some V) (hP : MP D ct B Hb S H) (hS : va_S (AB B) s.heap H locs) (hl : lv_has ls 3 [(1, .int v1), (2, .int v2)]) : W p l e { frames := 0, cells := 0, slots := 0, locals := 0 } s m args below meth c H locs 0 0 (MQ below (qI D ct B Hb S V) args s 0 0 (AB B)) (F0 m 0 ls []) := by
  obtain ⟨hx, hb, hr, hml, hown, hts, hK, hlocks, hN⟩ := id C0
  unfold b_X1_buysOf_0 at h
  refine lv_iload_n hx hb dX1_buysOf_0 rfl (lv_at hl 0 rfl) ?_
  refine lv_iload_n hx hb dX1_buysOf_1 rfl (lv_at hl 1 rfl) ?_
  refine lv_icmp_lt (tgt := 9) hx hb dX1_buysOf_2 (by decide) (fun z1 => ?_) (fun z1 => ?_)
  · have h := ob_t h z1
    refine lv_iconst (v := 0) hx hb dX1_buysOf_9 (by decide) ?_
    exact r_Z C0 hP hS bool_0 h dX1_buysOf_10
  · have h := ob_f h z1
    refine lv_iconst (v := 1) hx hb dX1_buysOf_5 (by decide) ?_
    refine lv_goto (tgt := 10) hx hb dX1_buysOf_6 (by decide) ?_
    exact r_Z C0 hP hS bool_1 h dX1_buysOf_10
set_option maxRecDepth 100000 in
set_option maxHeartbeats 4000000 in
theorem c_X1_buysOf (l : Launch) (q : Nat) (a1 : Int32) (a2 : Int32) {D : va_G} {ct : Nat → ClassId} {B : Nat} {Hb : Heap} {S : St} {V : Int32} (h : L_X1_buysOf q a1 a2 S = some V) : Met l yX1_buysOf (Cond.code yX1_buysOf cX1_buysOf 3 (some .boolean) :: tG) { frames := 0, cells := 0, slots := 0, locals := 0 } (va_Pc [.ref (B + q), .int a1, .int a2] (MPK D ct B Hb S)) (qI D ct B Hb S V) 0 0 (AB B) := by
  refine mk_met (by decide +kernel) (Nat.le_of_ble_eq_true rfl) (fun p e s m args below meth c ls C0 hP hl _ => ?_)
  have h := ob_of h
  exact w_X1_buysOf_0 l C0 q a1 a2 S h hP va_S.rf (lv_sub hl [1, 2] rfl)
set_option maxRecDepth 100000 in
set_option maxHeartbeats 4000000 in
theorem w_X1_priceOf_0 (l : Launch) {V : Int32} (C0 : XC D ct p s m args meth c cX1_priceOf 3 (some .int) RX1) (q : Nat) (v1 : Int32) (v2 : Int32) (S : St) {H : Heap} {locs : List Loc} {ls : Array Slot} (h : (b_X1_priceOf_0 q v1 v2 S).bind some = some V) (hP : MP D ct B Hb S H) (hS : va_S (AB B) s.heap H locs) (hl : lv_has ls 3 [(0, .ref (B + q)), (1, .int v1), (2, .int v2)]) : W p l e { frames := 1, cells := 0, slots := 0, locals := 22 } s m args below meth c H locs 0 0 (MQ below (qI D ct B Hb S V) args s 0 0 (AB B)) (F0 m 0 ls []) := by
  obtain ⟨hx, hb, hr, hml, hown, hts, hK, hlocks, hN⟩ := id C0
  unfold b_X1_priceOf_0 at h
  refine lv_aload_n hx hb dX1_priceOf_0 rfl (lv_at hl 0 rfl) ?_
  refine lv_iload_n hx hb dX1_priceOf_1 rfl (lv_at hl 1 rfl) ?_
  refine lv_iload_n hx hb dX1_priceOf_2 rfl (lv_at hl 2 rfl) ?_
  obtain ⟨k2, ek2, h⟩ := ob_bd h
  obtain ⟨r1, hr1, h⟩ := ob_bd h
  refine n_I (kUp (As := [.int v1, .int v2]) C0 (c_X7_priceOf l q v1 v2 hr1) ⟨wd_734, wd_724, wd_719, wd_411, wd_717, wd_3⟩ ⟨by decide, kd_X7_priceOf.2.2.2⟩ ⟨Nat.le_of_ble_eq_true rfl, Nat.le_of_ble_eq_true rfl⟩ hP ek2 rfl hl.1 rfl (Nat.le_of_ble_eq_true rfl) dX1_priceOf_3 ⟨Nat.le_of_ble_eq_true rfl, Nat.le_of_ble_eq_true rfl⟩) hS (fun H locs hP hS => ?_)
  refine lv_iconst (v := 2) hx hb dX1_priceOf_6 (by decide) ?_
  refine lv_idiv hx hb dX1_priceOf_7 (by decide) ?_
  exact r_I C0 hP hS h dX1_priceOf_8
set_option maxRecDepth 100000 in
set_option maxHeartbeats 4000000 in
theorem c_X1_priceOf (l : Launch) (q : Nat) (a1 : Int32) (a2 : Int32) {D : va_G} {ct : Nat → ClassId} {B : Nat} {Hb : Heap} {S : St} {V : Int32} (h : L_X1_priceOf q a1 a2 S = some V) : Met l yX1_priceOf (Cond.code yX1_priceOf cX1_priceOf 3 (some .int) :: tG) { frames := 1, cells := 0, slots := 0, locals := 22 } (va_Pc [.ref (B + q), .int a1, .int a2] (MPK D ct B Hb S)) (qI D ct B Hb S V) 0 0 (AB B) := by
  refine mk_met (by decide +kernel) (Nat.le_of_ble_eq_true rfl) (fun p e s m args below meth c ls C0 hP hl _ => ?_)
  have h := ob_of h
  exact w_X1_priceOf_0 l C0 q a1 a2 S h hP va_S.rf (lv_sub hl [0, 1, 2] rfl)
set_option maxRecDepth 100000 in
set_option maxHeartbeats 4000000 in
theorem w_X9_strengthOf_0 (l : Launch) {V : Int32} (C0 : XC D ct p s m args meth c cX9_strengthOf 2 (some .int) RX9) (q : Nat) (v1 : Int32) (S : St) {H : Heap} {locs : List Loc} {ls : Array Slot} (h : (b_X9_strengthOf_0 q v1 S).bind some = some V) (hP : MP D ct B Hb S H) (hS : va_S (AB B) s.heap H locs) (hl : lv_has ls 2 [(0, .ref (B + q)), (1, .int v1)]) : W p l e { frames := 2, cells := 0, slots := 0, locals := 42 } s m args below meth c H locs 0 0 (MQ below (qI D ct B Hb S V) args s 0 0 (AB B)) (F0 m 0 ls []) := by
  obtain ⟨hx, hb, hr, hml, hown, hts, hK, hlocks, hN⟩ := id C0
  unfold b_X9_strengthOf_0 at h
  refine lv_iconst (v := 2) hx hb dX9_strengthOf_0 (by decide) ?_
  refine lv_aload_n hx hb dX9_strengthOf_1 rfl (lv_at hl 0 rfl) ?_
  refine lv_iload_n hx hb dX9_strengthOf_2 rfl (lv_at hl 1 rfl) ?_
  obtain ⟨k2, ek2, h⟩ := ob_bd h
  obtain ⟨r1, hr1, h⟩ := ob_bd h
  refine n_I (kUp (As := [.int v1]) C0 (c_X4_strengthOf l q v1 hr1) ⟨wd_691, wd_698, wd_943, wd_384, wd_690, wd_7⟩ ⟨by decide, kd_X4_strengthOf.2.2.2⟩ ⟨Nat.le_of_ble_eq_true rfl, Nat.le_of_ble_eq_true rfl⟩ hP ek2 rfl hl.1 rfl (Nat.le_of_ble_eq_true rfl) dX9_strengthOf_3 ⟨Nat.le_of_ble_eq_true rfl, Nat.le_of_ble_eq_true rfl⟩) hS (fun H locs hP hS => ?_)
  refine lv_imul hx hb dX9_strengthOf_6 ?_
  exact r_I C0 hP hS h dX9_strengthOf_7
set_option maxRecDepth 100000 in
set_option maxHeartbeats 4000000 in
theorem c_X9_strengthOf (l : Launch) (q : Nat) (a1 : Int32) {D : va_G} {ct : Nat → ClassId} {B : Nat} {Hb : Heap} {S : St} {V : Int32} (h : L_X9_strengthOf q a1 S = some V) : Met l yX9_strengthOf (Cond.code yX9_strengthOf cX9_strengthOf 2 (some .int) :: tG) { frames := 2, cells := 0, slots := 0, locals := 42 } (va_Pc [.ref (B + q), .int a1] (MPK D ct B Hb S)) (qI D ct B Hb S V) 0 0 (AB B) := by
  refine mk_met (by decide +kernel) (Nat.le_of_ble_eq_true rfl) (fun p e s m args below meth c ls C0 hP hl _ => ?_)
  have h := ob_of h
  exact w_X9_strengthOf_0 l C0 q a1 S h hP va_S.rf (lv_sub hl [0, 1] rfl)
set_option maxRecDepth 100000 in
set_option maxHeartbeats 4000000 in
theorem w_X9_buysOf_0 (l : Launch) {V : Int32} (C0 : XC D ct p s m args meth c cX9_buysOf 3 (some .boolean) RX9) (q : Nat) (S : St) {H : Heap} {locs : List Loc} {ls : Array Slot} (h : (b_X9_buysOf_0 q S).bind some = some V) (hP : MP D ct B Hb S H) (hS : va_S (AB B) s.heap H locs) (hl : lv_has ls 3 []) : W p l e { frames := 0, cells := 0, slots := 0, locals := 0 } s m args below meth c H locs 0 0 (MQ below (qI D ct B Hb S V) args s 0 0 (AB B)) (F0 m 0 ls []) := by
  obtain ⟨hx, hb, hr, hml, hown, hts, hK, hlocks, hN⟩ := id C0
  unfold b_X9_buysOf_0 at h
  refine lv_iconst (v := 0) hx hb dX9_buysOf_0 (by decide) ?_
  exact r_Z C0 hP hS bool_0 h dX9_buysOf_1
set_option maxRecDepth 100000 in
set_option maxHeartbeats 4000000 in
theorem c_X9_buysOf (l : Launch) (q : Nat) (a1 : Int32) (a2 : Int32) {D : va_G} {ct : Nat → ClassId} {B : Nat} {Hb : Heap} {S : St} {V : Int32} (h : L_X9_buysOf q a1 a2 S = some V) : Met l yX9_buysOf (Cond.code yX9_buysOf cX9_buysOf 3 (some .boolean) :: tG) { frames := 0, cells := 0, slots := 0, locals := 0 } (va_Pc [.ref (B + q), .int a1, .int a2] (MPK D ct B Hb S)) (qI D ct B Hb S V) 0 0 (AB B) := by
  refine mk_met (by decide +kernel) (Nat.le_of_ble_eq_true rfl) (fun p e s m args below meth c ls C0 hP hl _ => ?_)
  have h := ob_of h
  exact w_X9_buysOf_0 l C0 q S h hP va_S.rf (lv_sub hl [] rfl)
set_option maxRecDepth 100000 in
set_option maxHeartbeats 4000000 in
theorem w_X6_sumOf_0 (l : Launch) {V : Int32} (C0 : XC D ct p s m args meth c cX6_sumOf 3 (some .int) RX6) (q : Nat) (v2 : Int32) (S : St) {H : Heap} {locs : List Loc} {ls : Array Slot} (h : (b_X6_sumOf_0 q v2 S).bind some = some V) (hP : MP D ct B Hb S H) (hS : va_S (AB B) s.heap H locs) (hl : lv_has ls 3 [(0, .ref (B + q)), (2, .int v2)]) : W p l e { frames := 2, cells := 0, slots := 0, locals := 44 } s m args below meth c H locs 0 0 (MQ below (qI D ct B Hb S V) args s 0 0 (AB B)) (F0 m 0 ls []) := by
  obtain ⟨hx, hb, hr, hml, hown, hts, hK, hlocks, hN⟩ := id C0
  unfold b_X6_sumOf_0 at h
  refine lv_aload_n hx hb dX6_sumOf_0 rfl (lv_at hl 0 rfl) ?_
  refine lv_iconst (v := 0) hx hb dX6_sumOf_1 (by decide) ?_
  refine lv_iload_n hx hb dX6_sumOf_2 rfl (lv_at hl 1 rfl) ?_
  obtain ⟨k2, ek2, h⟩ := ob_bd h
  obtain ⟨r1, hr1, h⟩ := ob_bd h
  refine n_I (kUp (As := [.int 0, .int v2]) C0 (c_X5_sumOf l q 0 v2 hr1) ⟨wd_670, wd_675, wd_942, wd_402, wd_669, wd_9⟩ ⟨by decide, kd_X5_sumOf.2.2.2⟩ ⟨Nat.le_of_ble_eq_true rfl, Nat.le_of_ble_eq_true rfl⟩ hP ek2 rfl hl.1 rfl (Nat.le_of_ble_eq_true rfl) dX6_sumOf_3 ⟨Nat.le_of_ble_eq_true rfl, Nat.le_of_ble_eq_true rfl⟩) hS (fun H locs hP hS => ?_)
  exact r_I C0 hP hS h dX6_sumOf_6
set_option maxRecDepth 100000 in
set_option maxHeartbeats 4000000 in
theorem c_X6_sumOf (l : Launch) (q : Nat) (a1 : Int32) (a2 : Int32) {D : va_G} {ct : Nat → ClassId} {B : Nat} {Hb : Heap} {S : St} {V : Int32} (h : L_X6_sumOf q a1 a2 S = some V) : Met l yX6_sumOf (Cond.code yX6_sumOf cX6_sumOf 3 (some .int) :: tG) { frames := 2, cells := 0, slots := 0, locals := 44 } (va_Pc [.ref (B + q), .int a1, .int a2] (MPK D ct B Hb S)) (qI D ct B Hb S V) 0 0 (AB B) := by
  refine mk_met (by decide +kernel) (Nat.le_of_ble_eq_true rfl) (fun p e s m args below meth c ls C0 hP hl _ => ?_)
  have h := ob_of h
  exact w_X6_sumOf_0 l C0 q a2 S h hP va_S.rf (lv_sub hl [0, 2] rfl)
set_option maxRecDepth 100000 in
set_option maxHeartbeats 4000000 in
theorem w_X3_sumOf_0 (l : Launch) {V : Int32} (C0 : XC D ct p s m args meth c cX3_sumOf 3 (some .int) RX3) (q : Nat) (v1 : Int32) (v2 : Int32) (S : St) {H : Heap} {locs : List Loc} {ls : Array Slot} (h : (b_X3_sumOf_0 q v1 v2 S).bind some = some V) (hP : MP D ct B Hb S H) (hS : va_S (AB B) s.heap H locs) (hl : lv_has ls 3 [(0, .ref (B + q)), (1, .int v1), (2, .int v2)]) : W p l e { frames := 1, cells := 0, slots := 0, locals := 22 } s m args below meth c H locs 0 0 (MQ below (qI D ct B Hb S V) args s 0 0 (AB B)) (F0 m 0 ls []) := by
  obtain ⟨hx, hb, hr, hml, hown, hts, hK, hlocks, hN⟩ := id C0
  unfold b_X3_sumOf_0 at h
  refine lv_aload_n hx hb dX3_sumOf_0 rfl (lv_at hl 0 rfl) ?_
  refine lv_iconst (v := 2) hx hb dX3_sumOf_1 (by decide) ?_
  refine lv_iload_n hx hb dX3_sumOf_2 rfl (lv_at hl 1 rfl) ?_
  refine lv_imul hx hb dX3_sumOf_3 ?_
  refine lv_iload_n hx hb dX3_sumOf_4 rfl (lv_at hl 2 rfl) ?_
  obtain ⟨k2, ek2, h⟩ := ob_bd h
  obtain ⟨r1, hr1, h⟩ := ob_bd h
  refine n_I (kUA (x := ⟨RX1, "sumOf", "(II)I"⟩) (As := [.int (2 * v1), .int v2]) C0 (c_X7_sumOf l q (2 * v1) v2 hr1) rfl ⟨wd_677, wd_664, wd_665, wd_420, wd_411, wd_656, wd_3⟩ ⟨by decide, kd_X7_sumOf.2.2.2⟩ ⟨Nat.le_of_ble_eq_true rfl, Nat.le_of_ble_eq_true rfl⟩ hP ek2 rfl hl.1 rfl (Nat.le_of_ble_eq_true rfl) dX3_sumOf_5 ⟨Nat.le_of_ble_eq_true rfl, Nat.le_of_ble_eq_true rfl⟩) hS (fun H locs hP hS => ?_)
  exact r_I C0 hP hS h dX3_sumOf_8
set_option maxRecDepth 100000 in
set_option maxHeartbeats 4000000 in
theorem c_X3_sumOf (l : Launch) (q : Nat) (a1 : Int32) (a2 : Int32) {D : va_G} {ct : Nat → ClassId} {B : Nat} {Hb : Heap} {S : St} {V : Int32} (h : L_X3_sumOf q a1 a2 S = some V) : Met l yX3_sumOf (Cond.code yX3_sumOf cX3_sumOf 3 (some .int) :: tG) { frames := 1, cells := 0, slots := 0, locals := 22 } (va_Pc [.ref (B + q), .int a1, .int a2] (MPK D ct B Hb S)) (qI D ct B Hb S V) 0 0 (AB B) := by
  refine mk_met (by decide +kernel) (Nat.le_of_ble_eq_true rfl) (fun p e s m args below meth c ls C0 hP hl _ => ?_)
  have h := ob_of h
  exact w_X3_sumOf_0 l C0 q a1 a2 S h hP va_S.rf (lv_sub hl [0, 1, 2] rfl)
set_option maxRecDepth 100000 in
set_option maxHeartbeats 4000000 in
theorem w_X3_priceOf_0 (l : Launch) {V : Int32} (C0 : XC D ct p s m args meth c cX3_priceOf 3 (some .int) RX3) (q : Nat) (v1 : Int32) (v2 : Int32) (S : St) {H : Heap} {locs : List Loc} {ls : Array Slot} (h : (b_X3_priceOf_0 q v1 v2 S).bind some = some V) (hP : MP D ct B Hb S H) (hS : va_S (AB B) s.heap H locs) (hl : lv_has ls 3 [(0, .ref (B + q)), (1, .int v1), (2, .int v2)]) : W p l e { frames := 2, cells := 0, slots := 0, locals := 44 } s m args below meth c H locs 0 0 (MQ below (qI D ct B Hb S V) args s 0 0 (AB B)) (F0 m 0 ls []) := by
  obtain ⟨hx, hb, hr, hml, hown, hts, hK, hlocks, hN⟩ := id C0
  unfold b_X3_priceOf_0 at h
  refine lv_iconst (v := 0) hx hb dX3_priceOf_0 (by decide) ?_
  refine lv_aload_n hx hb dX3_priceOf_1 rfl (lv_at hl 0 rfl) ?_
  refine lv_iload_n hx hb dX3_priceOf_2 rfl (lv_at hl 1 rfl) ?_
  refine lv_iload_n hx hb dX3_priceOf_3 rfl (lv_at hl 2 rfl) ?_
  obtain ⟨k2, ek2, h⟩ := ob_bd h
  obtain ⟨r1, hr1, h⟩ := ob_bd h
  refine n_I (kUp (As := [.int v1, .int v2]) C0 (c_X1_priceOf l q v1 v2 hr1) ⟨wd_723, wd_728, wd_944, wd_420, wd_722, wd_11⟩ ⟨by decide, kd_X1_priceOf.2.2.2⟩ ⟨Nat.le_of_ble_eq_true rfl, Nat.le_of_ble_eq_true rfl⟩ hP ek2 rfl hl.1 rfl (Nat.le_of_ble_eq_true rfl) dX3_priceOf_4 ⟨Nat.le_of_ble_eq_true rfl, Nat.le_of_ble_eq_true rfl⟩) hS (fun H locs hP hS => ?_)
  refine lv_iconst (v := 1) hx hb dX3_priceOf_7 (by decide) ?_
  refine lv_isub hx hb dX3_priceOf_8 ?_
  refine x_max C0 hl.1 ⟨wd_729, wd_709, wd_18, wd_710⟩ (Nat.le_of_ble_eq_true rfl) (Nat.le_of_ble_eq_true rfl) ⟨Nat.le_of_ble_eq_true rfl, Nat.le_of_ble_eq_true rfl⟩ dX3_priceOf_9 ?_
  obtain ⟨m3, em3, h⟩ := ob_nm h
  rw [← em3]
  exact r_I C0 hP hS h dX3_priceOf_12
set_option maxRecDepth 100000 in
set_option maxHeartbeats 4000000 in
theorem c_X3_priceOf (l : Launch) (q : Nat) (a1 : Int32) (a2 : Int32) {D : va_G} {ct : Nat → ClassId} {B : Nat} {Hb : Heap} {S : St} {V : Int32} (h : L_X3_priceOf q a1 a2 S = some V) : Met l yX3_priceOf (Cond.code yX3_priceOf cX3_priceOf 3 (some .int) :: tG) { frames := 2, cells := 0, slots := 0, locals := 44 } (va_Pc [.ref (B + q), .int a1, .int a2] (MPK D ct B Hb S)) (qI D ct B Hb S V) 0 0 (AB B) := by
  refine mk_met (by decide +kernel) (Nat.le_of_ble_eq_true rfl) (fun p e s m args below meth c ls C0 hP hl _ => ?_)
  have h := ob_of h
  exact w_X3_priceOf_0 l C0 q a1 a2 S h hP va_S.rf (lv_sub hl [0, 1, 2] rfl)
set_option maxRecDepth 100000 in
set_option maxHeartbeats 4000000 in
theorem w_X3_fadeBy_0 (l : Launch) {V : Int32} (C0 : XC D ct p s m args meth c cX3_fadeBy 2 (some .int) RX3) (q : Nat) (v1 : Int32) (S : St) {H : Heap} {locs : List Loc} {ls : Array Slot} (h : (b_X3_fadeBy_0 q v1 S).bind some = some V) (hP : MP D ct B Hb S H) (hS : va_S (AB B) s.heap H locs) (hl : lv_has ls 2 [(0, .ref (B + q)), (1, .int v1)]) : W p l e { frames := 1, cells := 0, slots := 0, locals := 21 } s m args below meth c H locs 0 0 (MQ below (qI D ct B Hb S V) args s 0 0 (AB B)) (F0 m 0 ls []) := by
  obtain ⟨hx, hb, hr, hml, hown, hts, hK, hlocks, hN⟩ := id C0
  unfold b_X3_fadeBy_0 at h
  refine lv_iconst (v := 2) hx hb dX3_fadeBy_0 (by decide) ?_
  refine lv_aload_n hx hb dX3_fadeBy_1 rfl (lv_at hl 0 rfl) ?_
  refine lv_iload_n hx hb dX3_fadeBy_2 rfl (lv_at hl 1 rfl) ?_
  obtain ⟨k2, ek2, h⟩ := ob_bd h
  obtain ⟨r1, hr1, h⟩ := ob_bd h
  refine n_I (kUA (x := ⟨RX1, "fadeBy", "(I)I"⟩) (As := [.int v1]) C0 (c_X7_fadeBy l q v1 hr1) rfl ⟨wd_785, wd_774, wd_775, wd_420, wd_411, wd_766, wd_3⟩ ⟨by decide, kd_X7_fadeBy.2.2.2⟩ ⟨Nat.le_of_ble_eq_true rfl, Nat.le_of_ble_eq_true rfl⟩ hP ek2 rfl hl.1 rfl (Nat.le_of_ble_eq_true rfl) dX3_fadeBy_3 ⟨Nat.le_of_ble_eq_true rfl, Nat.le_of_ble_eq_true rfl⟩) hS (fun H locs hP hS => ?_)
  refine lv_imul hx hb dX3_fadeBy_6 ?_
  exact r_I C0 hP hS h dX3_fadeBy_7
set_option maxRecDepth 100000 in
set_option maxHeartbeats 4000000 in
theorem c_X3_fadeBy (l : Launch) (q : Nat) (a1 : Int32) {D : va_G} {ct : Nat → ClassId} {B : Nat} {Hb : Heap} {S : St} {V : Int32} (h : L_X3_fadeBy q a1 S = some V) : Met l yX3_fadeBy (Cond.code yX3_fadeBy cX3_fadeBy 2 (some .int) :: tG) { frames := 1, cells := 0, slots := 0, locals := 21 } (va_Pc [.ref (B + q), .int a1] (MPK D ct B Hb S)) (qI D ct B Hb S V) 0 0 (AB B) := by
  refine mk_met (by decide +kernel) (Nat.le_of_ble_eq_true rfl) (fun p e s m args below meth c ls C0 hP hl _ => ?_)
  have h := ob_of h
  exact w_X3_fadeBy_0 l C0 q a1 S h hP va_S.rf (lv_sub hl [0, 1] rfl)
set_option maxRecDepth 100000 in
set_option maxHeartbeats 4000000 in
theorem w_J6_bitCount_0f7a4_0 (l : Launch) {V : Int32} (C0 : XC D ct p s m args meth c cJ6_bitCount_0f7a4 1 (some .int) RJ6) (v0 : Int32) (S : St) {H : Heap} {locs : List Loc} {ls : Array Slot} (h : (b_J6_bitCount_0f7a4_0 v0 S).bind some = some V) (hP : MP D ct B Hb S H) (hS : va_S (AB B) s.heap H locs) (hl : lv_has ls 1 [(0, .int v0)]) : W p l e { frames := 0, cells := 0, slots := 0, locals := 0 } s m args below meth c H locs 0 0 (MQ below (qI D ct B Hb S V) args s 0 0 (AB B)) (F0 m 0 ls []) := by
  obtain ⟨hx, hb, hr, hml, hown, hts, hK, hlocks, hN⟩ := id C0
  unfold b_J6_bitCount_0f7a4_0 at h
  refine lv_iload_n hx hb dJ6_bitCount_0f7a4_0 rfl (lv_at hl 0 rfl) ?_
  refine lv_iload_n hx hb dJ6_bitCount_0f7a4_1 rfl (lv_at hl 0 rfl) ?_
  refine lv_iconst (v := 1) hx hb dJ6_bitCount_0f7a4_2 (by decide) ?_
  refine lv_iushr hx hb dJ6_bitCount_0f7a4_3 rfl ?_
  refine lv_ldcw (v := 1431655765) hx hb hown (hts _ wd_871) dJ6_bitCount_0f7a4_4 ?_
  refine lv_iand hx hb dJ6_bitCount_0f7a4_7 ?_
  refine lv_isub hx hb dJ6_bitCount_0f7a4_8 ?_
  refine lv_istore_n (lv' := [(0, .int (v0 - (((v0.toUInt32 >>> ((1 : Int32).toUInt32 &&& Int32.toUInt32 31)).toInt32) &&& 1431655765)))]) hx hb dJ6_bitCount_0f7a4_9 rfl hl (by decide) rfl (fun ls hl => ?_)
  refine lv_iload_n hx hb dJ6_bitCount_0f7a4_10 rfl (lv_at hl 0 rfl) ?_
  refine lv_ldcw (v := 858993459) hx hb hown (hts _ wd_872) dJ6_bitCount_0f7a4_11 ?_
  refine lv_iand hx hb dJ6_bitCount_0f7a4_14 ?_
  refine lv_iload_n hx hb dJ6_bitCount_0f7a4_15 rfl (lv_at hl 0 rfl) ?_
  refine lv_iconst (v := 2) hx hb dJ6_bitCount_0f7a4_16 (by decide) ?_
  refine lv_iushr hx hb dJ6_bitCount_0f7a4_17 rfl ?_
  refine lv_ldcw (v := 858993459) hx hb hown (hts _ wd_872) dJ6_bitCount_0f7a4_18 ?_
  refine lv_iand hx hb dJ6_bitCount_0f7a4_21 ?_
  refine lv_iadd hx hb dJ6_bitCount_0f7a4_22 ?_
  refine lv_istore_n (lv' := [(0, .int (((v0 - (((v0.toUInt32 >>> ((1 : Int32).toUInt32 &&& Int32.toUInt32 31)).toInt32) &&& 1431655765)) &&& 858993459) + ((((v0 - (((v0.toUInt32 >>> ((1 : Int32).toUInt32 &&& Int32.toUInt32 31)).toInt32) &&& 1431655765)).toUInt32 >>> ((2 : Int32).toUInt32 &&& Int32.toUInt32 31)).toInt32) &&& 858993459)))]) hx hb dJ6_bitCount_0f7a4_23 rfl hl (by decide) rfl (fun ls hl => ?_)
  refine lv_iload_n hx hb dJ6_bitCount_0f7a4_24 rfl (lv_at hl 0 rfl) ?_
  refine lv_iload_n hx hb dJ6_bitCount_0f7a4_25 rfl (lv_at hl 0 rfl) ?_
  refine lv_iconst (v := 4) hx hb dJ6_bitCount_0f7a4_26 (by decide) ?_
  refine lv_iushr hx hb dJ6_bitCount_0f7a4_27 rfl ?_
  refine lv_iadd hx hb dJ6_bitCount_0f7a4_28 ?_
  refine lv_ldcw (v := 252645135) hx hb hown (hts _ wd_873) dJ6_bitCount_0f7a4_29 ?_
  refine lv_iand hx hb dJ6_bitCount_0f7a4_32 ?_
  refine lv_istore_n (lv' := [(0, .int (((((v0 - (((v0.toUInt32 >>> ((1 : Int32).toUInt32 &&& Int32.toUInt32 31)).toInt32) &&& 1431655765)) &&& 858993459) + ((((v0 - (((v0.toUInt32 >>> ((1 : Int32).toUInt32 &&& Int32.toUInt32 31)).toInt32) &&& 1431655765)).toUInt32 >>> ((2 : Int32).toUInt32 &&& Int32.toUInt32 31)).toInt32) &&& 858993459)) + (((((v0 - (((v0.toUInt32 >>> ((1 : Int32).toUInt32 &&& Int32.toUInt32 31)).toInt32) &&& 1431655765)) &&& 858993459) + ((((v0 - (((v0.toUInt32 >>> ((1 : Int32).toUInt32 &&& Int32.toUInt32 31)).toInt32) &&& 1431655765)).toUInt32 >>> ((2 : Int32).toUInt32 &&& Int32.toUInt32 31)).toInt32) &&& 858993459)).toUInt32 >>> ((4 : Int32).toUInt32 &&& Int32.toUInt32 31)).toInt32)) &&& 252645135))]) hx hb dJ6_bitCount_0f7a4_33 rfl hl (by decide) rfl (fun ls hl => ?_)
  refine lv_iload_n hx hb dJ6_bitCount_0f7a4_34 rfl (lv_at hl 0 rfl) ?_
  refine lv_iload_n hx hb dJ6_bitCount_0f7a4_35 rfl (lv_at hl 0 rfl) ?_
  refine lv_bipush (v := 8) hx hb dJ6_bitCount_0f7a4_36 (by decide) ?_
  refine lv_iushr hx hb dJ6_bitCount_0f7a4_38 rfl ?_
  refine lv_iadd hx hb dJ6_bitCount_0f7a4_39 ?_
  refine lv_istore_n (lv' := [(0, .int ((((((v0 - (((v0.toUInt32 >>> ((1 : Int32).toUInt32 &&& Int32.toUInt32 31)).toInt32) &&& 1431655765)) &&& 858993459) + ((((v0 - (((v0.toUInt32 >>> ((1 : Int32).toUInt32 &&& Int32.toUInt32 31)).toInt32) &&& 1431655765)).toUInt32 >>> ((2 : Int32).toUInt32 &&& Int32.toUInt32 31)).toInt32) &&& 858993459)) + (((((v0 - (((v0.toUInt32 >>> ((1 : Int32).toUInt32 &&& Int32.toUInt32 31)).toInt32) &&& 1431655765)) &&& 858993459) + ((((v0 - (((v0.toUInt32 >>> ((1 : Int32).toUInt32 &&& Int32.toUInt32 31)).toInt32) &&& 1431655765)).toUInt32 >>> ((2 : Int32).toUInt32 &&& Int32.toUInt32 31)).toInt32) &&& 858993459)).toUInt32 >>> ((4 : Int32).toUInt32 &&& Int32.toUInt32 31)).toInt32)) &&& 252645135) + (((((((v0 - (((v0.toUInt32 >>> ((1 : Int32).toUInt32 &&& Int32.toUInt32 31)).toInt32) &&& 1431655765)) &&& 858993459) + ((((v0 - (((v0.toUInt32 >>> ((1 : Int32).toUInt32 &&& Int32.toUInt32 31)).toInt32) &&& 1431655765)).toUInt32 >>> ((2 : Int32).toUInt32 &&& Int32.toUInt32 31)).toInt32) &&& 858993459)) + (((((v0 - (((v0.toUInt32 >>> ((1 : Int32).toUInt32 &&& Int32.toUInt32 31)).toInt32) &&& 1431655765)) &&& 858993459) + ((((v0 - (((v0.toUInt32 >>> ((1 : Int32).toUInt32 &&& Int32.toUInt32 31)).toInt32) &&& 1431655765)).toUInt32 >>> ((2 : Int32).toUInt32 &&& Int32.toUInt32 31)).toInt32) &&& 858993459)).toUInt32 >>> ((4 : Int32).toUInt32 &&& Int32.toUInt32 31)).toInt32)) &&& 252645135).toUInt32 >>> ((8 : Int32).toUInt32 &&& Int32.toUInt32 31)).toInt32)))]) hx hb dJ6_bitCount_0f7a4_40 rfl hl (by decide) rfl (fun ls hl => ?_)
  refine lv_iload_n hx hb dJ6_bitCount_0f7a4_41 rfl (lv_at hl 0 rfl) ?_
  refine lv_iload_n hx hb dJ6_bitCount_0f7a4_42 rfl (lv_at hl 0 rfl) ?_
  refine lv_bipush (v := 16) hx hb dJ6_bitCount_0f7a4_43 (by decide) ?_
  refine lv_iushr hx hb dJ6_bitCount_0f7a4_45 rfl ?_
  refine lv_iadd hx hb dJ6_bitCount_0f7a4_46 ?_
  refine lv_istore_n (lv' := [(0, .int (((((((v0 - (((v0.toUInt32 >>> ((1 : Int32).toUInt32 &&& Int32.toUInt32 31)).toInt32) &&& 1431655765)) &&& 858993459) + ((((v0 - (((v0.toUInt32 >>> ((1 : Int32).toUInt32 &&& Int32.toUInt32 31)).toInt32) &&& 1431655765)).toUInt32 >>> ((2 : Int32).toUInt32 &&& Int32.toUInt32 31)).toInt32) &&& 858993459)) + (((((v0 - (((v0.toUInt32 >>> ((1 : Int32).toUInt32 &&& Int32.toUInt32 31)).toInt32) &&& 1431655765)) &&& 858993459) + ((((v0 - (((v0.toUInt32 >>> ((1 : Int32).toUInt32 &&& Int32.toUInt32 31)).toInt32) &&& 1431655765)).toUInt32 >>> ((2 : Int32).toUInt32 &&& Int32.toUInt32 31)).toInt32) &&& 858993459)).toUInt32 >>> ((4 : Int32).toUInt32 &&& Int32.toUInt32 31)).toInt32)) &&& 252645135) + (((((((v0 - (((v0.toUInt32 >>> ((1 : Int32).toUInt32 &&& Int32.toUInt32 31)).toInt32) &&& 1431655765)) &&& 858993459) + ((((v0 - (((v0.toUInt32 >>> ((1 : Int32).toUInt32 &&& Int32.toUInt32 31)).toInt32) &&& 1431655765)).toUInt32 >>> ((2 : Int32).toUInt32 &&& Int32.toUInt32 31)).toInt32) &&& 858993459)) + (((((v0 - (((v0.toUInt32 >>> ((1 : Int32).toUInt32 &&& Int32.toUInt32 31)).toInt32) &&& 1431655765)) &&& 858993459) + ((((v0 - (((v0.toUInt32 >>> ((1 : Int32).toUInt32 &&& Int32.toUInt32 31)).toInt32) &&& 1431655765)).toUInt32 >>> ((2 : Int32).toUInt32 &&& Int32.toUInt32 31)).toInt32) &&& 858993459)).toUInt32 >>> ((4 : Int32).toUInt32 &&& Int32.toUInt32 31)).toInt32)) &&& 252645135).toUInt32 >>> ((8 : Int32).toUInt32 &&& Int32.toUInt32 31)).toInt32)) + ((((((((v0 - (((v0.toUInt32 >>> ((1 : Int32).toUInt32 &&& Int32.toUInt32 31)).toInt32) &&& 1431655765)) &&& 858993459) + ((((v0 - (((v0.toUInt32 >>> ((1 : Int32).toUInt32 &&& Int32.toUInt32 31)).toInt32) &&& 1431655765)).toUInt32 >>> ((2 : Int32).toUInt32 &&& Int32.toUInt32 31)).toInt32) &&& 858993459)) + (((((v0 - (((v0.toUInt32 >>> ((1 : Int32).toUInt32 &&& Int32.toUInt32 31)).toInt32) &&& 1431655765)) &&& 858993459) + ((((v0 - (((v0.toUInt32 >>> ((1 : Int32).toUInt32 &&& Int32.toUInt32 31)).toInt32) &&& 1431655765)).toUInt32 >>> ((2 : Int32).toUInt32 &&& Int32.toUInt32 31)).toInt32) &&& 858993459)).toUInt32 >>> ((4 : Int32).toUInt32 &&& Int32.toUInt32 31)).toInt32)) &&& 252645135) + (((((((v0 - (((v0.toUInt32 >>> ((1 : Int32).toUInt32 &&& Int32.toUInt32 31)).toInt32) &&& 1431655765)) &&& 858993459) + ((((v0 - (((v0.toUInt32 >>> ((1 : Int32).toUInt32 &&& Int32.toUInt32 31)).toInt32) &&& 1431655765)).toUInt32 >>> ((2 : Int32).toUInt32 &&& Int32.toUInt32 31)).toInt32) &&& 858993459)) + (((((v0 - (((v0.toUInt32 >>> ((1 : Int32).toUInt32 &&& Int32.toUInt32 31)).toInt32) &&& 1431655765)) &&& 858993459) + ((((v0 - (((v0.toUInt32 >>> ((1 : Int32).toUInt32 &&& Int32.toUInt32 31)).toInt32) &&& 1431655765)).toUInt32 >>> ((2 : Int32).toUInt32 &&& Int32.toUInt32 31)).toInt32) &&& 858993459)).toUInt32 >>> ((4 : Int32).toUInt32 &&& Int32.toUInt32 31)).toInt32)) &&& 252645135).toUInt32 >>> ((8 : Int32).toUInt32 &&& Int32.toUInt32 31)).toInt32)).toUInt32 >>> ((16 : Int32).toUInt32 &&& Int32.toUInt32 31)).toInt32)))]) hx hb dJ6_bitCount_0f7a4_47 rfl hl (by decide) rfl (fun ls hl => ?_)
  refine lv_iload_n hx hb dJ6_bitCount_0f7a4_48 rfl (lv_at hl 0 rfl) ?_
  refine lv_bipush (v := 63) hx hb dJ6_bitCount_0f7a4_49 (by decide) ?_
  refine lv_iand hx hb dJ6_bitCount_0f7a4_51 ?_
  exact r_I C0 hP hS h dJ6_bitCount_0f7a4_52
set_option maxRecDepth 100000 in
set_option maxHeartbeats 4000000 in
theorem c_J6_bitCount_0f7a4 (l : Launch) (a0 : Int32) {D : va_G} {ct : Nat → ClassId} {B : Nat} {Hb : Heap} {S : St} {V : Int32} (h : L_J6_bitCount_0f7a4 a0 S = some V) : Met l yJ6_bitCount_0f7a4 (Cond.code yJ6_bitCount_0f7a4 cJ6_bitCount_0f7a4 1 (some .int) :: tG) { frames := 0, cells := 0, slots := 0, locals := 0 } (va_Pc [.int a0] (MPK D ct B Hb S)) (qI D ct B Hb S V) 0 0 (AB B) := by
  refine mk_met (by decide +kernel) (Nat.le_of_ble_eq_true rfl) (fun p e s m args below meth c ls C0 hP hl _ => ?_)
  have h := ob_of h
  exact w_J6_bitCount_0f7a4_0 l C0 a0 S h hP va_S.rf (lv_sub hl [0] rfl)
set_option maxRecDepth 100000 in
set_option maxHeartbeats 4000000 in
theorem w_J6_compare_7cf53_0 (l : Launch) {V : Int32} (C0 : XC D ct p s m args meth c cJ6_compare_7cf53 2 (some .int) RJ6) (v0 : Int32) (v1 : Int32) (S : St) {H : Heap} {locs : List Loc} {ls : Array Slot} (h : (b_J6_compare_7cf53_0 v0 v1 S).bind some = some V) (hP : MP D ct B Hb S H) (hS : va_S (AB B) s.heap H locs) (hl : lv_has ls 2 [(0, .int v0), (1, .int v1)]) : W p l e { frames := 0, cells := 0, slots := 0, locals := 0 } s m args below meth c H locs 0 0 (MQ below (qI D ct B Hb S V) args s 0 0 (AB B)) (F0 m 0 ls []) := by
  obtain ⟨hx, hb, hr, hml, hown, hts, hK, hlocks, hN⟩ := id C0
  unfold b_J6_compare_7cf53_0 at h
  refine lv_iload_n hx hb dJ6_compare_7cf53_0 rfl (lv_at hl 0 rfl) ?_
  refine lv_iload_n hx hb dJ6_compare_7cf53_1 rfl (lv_at hl 1 rfl) ?_
  refine lv_icmp_ge (tgt := 9) hx hb dJ6_compare_7cf53_2 (by decide) (fun z1 => ?_) (fun z1 => ?_)
  · have h := ob_t h z1
    refine lv_iload_n hx hb dJ6_compare_7cf53_9 rfl (lv_at hl 0 rfl) ?_
    refine lv_iload_n hx hb dJ6_compare_7cf53_10 rfl (lv_at hl 1 rfl) ?_
    refine lv_icmp_ne (tgt := 18) hx hb dJ6_compare_7cf53_11 (by decide) (fun z2 => ?_) (fun z2 => ?_)
    · have h := ob_f h z2
      refine lv_iconst (v := 1) hx hb dJ6_compare_7cf53_18 (by decide) ?_
      exact r_I C0 hP hS h dJ6_compare_7cf53_19
    · have h := ob_t h z2
      refine lv_iconst (v := 0) hx hb dJ6_compare_7cf53_14 (by decide) ?_
      refine lv_goto (tgt := 19) hx hb dJ6_compare_7cf53_15 (by decide) ?_
      exact r_I C0 hP hS h dJ6_compare_7cf53_19
  · have h := ob_f h z1
    refine lv_iconst (v := (-1)) hx hb dJ6_compare_7cf53_5 (by decide) ?_
    refine lv_goto (tgt := 19) hx hb dJ6_compare_7cf53_6 (by decide) ?_
    exact r_I C0 hP hS h dJ6_compare_7cf53_19
set_option maxRecDepth 100000 in
set_option maxHeartbeats 4000000 in
theorem c_J6_compare_7cf53 (l : Launch) (a0 : Int32) (a1 : Int32) {D : va_G} {ct : Nat → ClassId} {B : Nat} {Hb : Heap} {S : St} {V : Int32} (h : L_J6_compare_7cf53 a0 a1 S = some V) : Met l yJ6_compare_7cf53 (Cond.code yJ6_compare_7cf53 cJ6_compare_7cf53 2 (some .int) :: tG) { frames := 0, cells := 0, slots := 0, locals := 0 } (va_Pc [.int a0, .int a1] (MPK D ct B Hb S)) (qI D ct B Hb S V) 0 0 (AB B) := by
  refine mk_met (by decide +kernel) (Nat.le_of_ble_eq_true rfl) (fun p e s m args below meth c ls C0 hP hl _ => ?_)
  have h := ob_of h
  exact w_J6_compare_7cf53_0 l C0 a0 a1 S h hP va_S.rf (lv_sub hl [0, 1] rfl)
end WALKS
def L_v_dueWhenTold (q : Nat) (a1 : Int32) (S : St) : Option Int32 := (gq S q).bind fun z => if z.1 = 0 then L_X7_dueWhenTold q a1 S else if z.1 = 1 then L_X0_dueWhenTold q a1 S else if z.1 = 2 then L_X7_dueWhenTold q a1 S else if z.1 = 3 then L_X7_dueWhenTold q a1 S else if z.1 = 4 then L_X7_dueWhenTold q a1 S else if z.1 = 5 then L_X7_dueWhenTold q a1 S else if z.1 = 6 then L_X7_dueWhenTold q a1 S else L_X7_dueWhenTold q a1 S
def L_v_sumOf (q : Nat) (a1 : Int32) (a2 : Int32) (S : St) : Option Int32 := (gq S q).bind fun z => if z.1 = 0 then L_X7_sumOf q a1 a2 S else if z.1 = 1 then L_X7_sumOf q a1 a2 S else if z.1 = 2 then L_X7_sumOf q a1 a2 S else if z.1 = 3 then L_X7_sumOf q a1 a2 S else if z.1 = 4 then L_X5_sumOf q a1 a2 S else if z.1 = 5 then L_X6_sumOf q a1 a2 S else if z.1 = 6 then L_X7_sumOf q a1 a2 S else L_X3_sumOf q a1 a2 S
def L_v_strengthOf (q : Nat) (a1 : Int32) (S : St) : Option Int32 := (gq S q).bind fun z => if z.1 = 0 then L_X7_strengthOf q a1 S else if z.1 = 1 then L_X7_strengthOf q a1 S else if z.1 = 2 then L_X4_strengthOf q a1 S else if z.1 = 3 then L_X9_strengthOf q a1 S else if z.1 = 4 then L_X7_strengthOf q a1 S else if z.1 = 5 then L_X7_strengthOf q a1 S else if z.1 = 6 then L_X7_strengthOf q a1 S else L_X7_strengthOf q a1 S
def L_v_buysOf (q : Nat) (a1 : Int32) (a2 : Int32) (S : St) : Option Int32 := (gq S q).bind fun z => if z.1 = 0 then L_X7_buysOf q a1 a2 S else if z.1 = 1 then L_X7_buysOf q a1 a2 S else if z.1 = 2 then L_X7_buysOf q a1 a2 S else if z.1 = 3 then L_X9_buysOf q a1 a2 S else if z.1 = 4 then L_X7_buysOf q a1 a2 S else if z.1 = 5 then L_X7_buysOf q a1 a2 S else if z.1 = 6 then L_X1_buysOf q a1 a2 S else L_X1_buysOf q a1 a2 S
def L_v_priceOf (q : Nat) (a1 : Int32) (a2 : Int32) (S : St) : Option Int32 := (gq S q).bind fun z => if z.1 = 0 then L_X7_priceOf q a1 a2 S else if z.1 = 1 then L_X7_priceOf q a1 a2 S else if z.1 = 2 then L_X7_priceOf q a1 a2 S else if z.1 = 3 then L_X7_priceOf q a1 a2 S else if z.1 = 4 then L_X7_priceOf q a1 a2 S else if z.1 = 5 then L_X7_priceOf q a1 a2 S else if z.1 = 6 then L_X1_priceOf q a1 a2 S else L_X3_priceOf q a1 a2 S
def L_v_fadeBy (q : Nat) (a1 : Int32) (S : St) : Option Int32 := (gq S q).bind fun z => if z.1 = 0 then L_X7_fadeBy q a1 S else if z.1 = 1 then L_X7_fadeBy q a1 S else if z.1 = 2 then L_X4_fadeBy q a1 S else if z.1 = 3 then L_X4_fadeBy q a1 S else if z.1 = 4 then L_X7_fadeBy q a1 S else if z.1 = 5 then L_X7_fadeBy q a1 S else if z.1 = 6 then L_X7_fadeBy q a1 S else L_X3_fadeBy q a1 S
section VIRT
variable {p : Program} {e : Env} {s : State} {m : MethodId} {args : Array Value} {below : List Frame} {meth : Method} {c : Code} {D : va_G} {ct : Nat → ClassId} {B : Nat} {Hb : Heap}
set_option maxRecDepth 100000 in
set_option maxHeartbeats 4000000 in
theorem kv_dueWhenTold (l : Launch) {R : Room} {cc : ByteArray} {nL pc cells slots index : Nat} {ret : Option FieldType} {own : String} {ls : Array Slot} {st rest : List Value} {H : Heap} {locs : List Loc} {S : St} (C0 : XC D ct p s m args meth c cc nL ret own) (hl : Cond.methodLink own index yX7_dueWhenTold ∈ tG) (q : Nat) (a1 : Int32) {V : Int32} (h : L_v_dueWhenTold q a1 S = some V) (hR : 2 ≤ R.frames ∧ 42 ≤ R.locals) (hP : MP D ct B Hb S H) (hsize : ls.size = nL) (hst : st = ([.int a1] : List Value).reverse ++ .ref (B + q) :: rest) (hcat : (rest.map fun v => v.category).sum ≤ 8) (hdg : decode cc pc = .ok (.invokevirtual index, 3)) (hf : cells ≤ R.cells ∧ slots ≤ R.slots := by exact ⟨Nat.le_of_ble_eq_true rfl, Nat.le_of_ble_eq_true rfl⟩) : va_Run p l e R s m args below meth c H locs cells slots 0 0 (F0 m pc ls st) rest (qI D ct B Hb S V (.ref (B + q) :: [.int a1]).toArray) (AB B) := by
  unfold L_v_dueWhenTold at h
  cases hz : gq S q with
  | none => rw [hz] at h; cases h
  | some z =>
    rw [hz] at h
    have h : (if z.1 = 0 then L_X7_dueWhenTold q a1 S else if z.1 = 1 then L_X0_dueWhenTold q a1 S else if z.1 = 2 then L_X7_dueWhenTold q a1 S else if z.1 = 3 then L_X7_dueWhenTold q a1 S else if z.1 = 4 then L_X7_dueWhenTold q a1 S else if z.1 = 5 then L_X7_dueWhenTold q a1 S else if z.1 = 6 then L_X7_dueWhenTold q a1 S else L_X7_dueWhenTold q a1 S) = some V := h
    rcases Decidable.em (z.1 = 0) with k0 | k0
    · rw [if_pos k0] at h
      exact kVU (x := yX7_dueWhenTold) (C := RX7) (As := [.int a1]) C0 (c_X7_dueWhenTold l q a1 h) ⟨wd_642, hl, wd_628, wd_626, wd_627, wd_626, wd_3, wd_642⟩ kd_X7_dueWhenTold.2 ⟨Nat.le_trans (Nat.le_of_ble_eq_true rfl) hR.1, Nat.le_trans (Nat.le_of_ble_eq_true rfl) hR.2⟩ hP hz (by rw [k0]; rfl) rfl hsize hst hcat hdg hf
    · rw [if_neg k0] at h
      rcases Decidable.em (z.1 = 1) with k1 | k1
      · rw [if_pos k1] at h
        exact kVU (x := yX7_dueWhenTold) (C := RX0) (As := [.int a1]) C0 (c_X0_dueWhenTold l q a1 h) ⟨wd_631, hl, wd_628, wd_626, wd_629, wd_630, wd_6, wd_642⟩ kd_X7_dueWhenTold.2 ⟨Nat.le_trans (Nat.le_of_ble_eq_true rfl) hR.1, Nat.le_trans (Nat.le_of_ble_eq_true rfl) hR.2⟩ hP hz (by rw [k1]; rfl) rfl hsize hst hcat hdg hf
      · rw [if_neg k1] at h
        rcases Decidable.em (z.1 = 2) with k2 | k2
        · rw [if_pos k2] at h
          exact kVU (x := yX7_dueWhenTold) (C := RX4) (As := [.int a1]) C0 (c_X7_dueWhenTold l q a1 h) ⟨wd_642, hl, wd_628, wd_626, wd_638, wd_626, wd_3, wd_642⟩ kd_X7_dueWhenTold.2 ⟨Nat.le_trans (Nat.le_of_ble_eq_true rfl) hR.1, Nat.le_trans (Nat.le_of_ble_eq_true rfl) hR.2⟩ hP hz (by rw [k2]; rfl) rfl hsize hst hcat hdg hf
        · rw [if_neg k2] at h
          rcases Decidable.em (z.1 = 3) with k3 | k3
          · rw [if_pos k3] at h
            exact kVU (x := yX7_dueWhenTold) (C := RX9) (As := [.int a1]) C0 (c_X7_dueWhenTold l q a1 h) ⟨wd_642, hl, wd_628, wd_626, wd_641, wd_626, wd_3, wd_642⟩ kd_X7_dueWhenTold.2 ⟨Nat.le_trans (Nat.le_of_ble_eq_true rfl) hR.1, Nat.le_trans (Nat.le_of_ble_eq_true rfl) hR.2⟩ hP hz (by rw [k3]; rfl) rfl hsize hst hcat hdg hf
          · rw [if_neg k3] at h
            rcases Decidable.em (z.1 = 4) with k4 | k4
            · rw [if_pos k4] at h
              exact kVU (x := yX7_dueWhenTold) (C := RX5) (As := [.int a1]) C0 (c_X7_dueWhenTold l q a1 h) ⟨wd_642, hl, wd_628, wd_626, wd_639, wd_626, wd_3, wd_642⟩ kd_X7_dueWhenTold.2 ⟨Nat.le_trans (Nat.le_of_ble_eq_true rfl) hR.1, Nat.le_trans (Nat.le_of_ble_eq_true rfl) hR.2⟩ hP hz (by rw [k4]; rfl) rfl hsize hst hcat hdg hf
            · rw [if_neg k4] at h
              rcases Decidable.em (z.1 = 5) with k5 | k5
              · rw [if_pos k5] at h
                exact kVU (x := yX7_dueWhenTold) (C := RX6) (As := [.int a1]) C0 (c_X7_dueWhenTold l q a1 h) ⟨wd_642, hl, wd_628, wd_626, wd_640, wd_626, wd_3, wd_642⟩ kd_X7_dueWhenTold.2 ⟨Nat.le_trans (Nat.le_of_ble_eq_true rfl) hR.1, Nat.le_trans (Nat.le_of_ble_eq_true rfl) hR.2⟩ hP hz (by rw [k5]; rfl) rfl hsize hst hcat hdg hf
              · rw [if_neg k5] at h
                rcases Decidable.em (z.1 = 6) with k6 | k6
                · rw [if_pos k6] at h
                  exact kVU (x := yX7_dueWhenTold) (C := RX1) (As := [.int a1]) C0 (c_X7_dueWhenTold l q a1 h) ⟨wd_642, hl, wd_628, wd_626, wd_636, wd_626, wd_3, wd_642⟩ kd_X7_dueWhenTold.2 ⟨Nat.le_trans (Nat.le_of_ble_eq_true rfl) hR.1, Nat.le_trans (Nat.le_of_ble_eq_true rfl) hR.2⟩ hP hz (by rw [k6]; rfl) rfl hsize hst hcat hdg hf
                · rw [if_neg k6] at h
                  exact kVU (x := yX7_dueWhenTold) (C := RX3) (As := [.int a1]) C0 (c_X7_dueWhenTold l q a1 h) ⟨wd_642, hl, wd_628, wd_626, wd_637, wd_626, wd_3, wd_642⟩ kd_X7_dueWhenTold.2 ⟨Nat.le_trans (Nat.le_of_ble_eq_true rfl) hR.1, Nat.le_trans (Nat.le_of_ble_eq_true rfl) hR.2⟩ hP hz (by rw [ciK_else k0 k1 k2 k3 k4 k5 k6]; rfl) rfl hsize hst hcat hdg hf
set_option maxRecDepth 100000 in
set_option maxHeartbeats 4000000 in
theorem kv_sumOf (l : Launch) {R : Room} {cc : ByteArray} {nL pc cells slots index : Nat} {ret : Option FieldType} {own : String} {ls : Array Slot} {st rest : List Value} {H : Heap} {locs : List Loc} {S : St} (C0 : XC D ct p s m args meth c cc nL ret own) (hl : Cond.methodLink own index yX7_sumOf ∈ tG) (q : Nat) (a1 : Int32) (a2 : Int32) {V : Int32} (h : L_v_sumOf q a1 a2 S = some V) (hR : 3 ≤ R.frames ∧ 66 ≤ R.locals) (hP : MP D ct B Hb S H) (hsize : ls.size = nL) (hst : st = ([.int a1, .int a2] : List Value).reverse ++ .ref (B + q) :: rest) (hcat : (rest.map fun v => v.category).sum ≤ 8) (hdg : decode cc pc = .ok (.invokevirtual index, 3)) (hf : cells ≤ R.cells ∧ slots ≤ R.slots := by exact ⟨Nat.le_of_ble_eq_true rfl, Nat.le_of_ble_eq_true rfl⟩) : va_Run p l e R s m args below meth c H locs cells slots 0 0 (F0 m pc ls st) rest (qI D ct B Hb S V (.ref (B + q) :: [.int a1, .int a2]).toArray) (AB B) := by
  unfold L_v_sumOf at h
  cases hz : gq S q with
  | none => rw [hz] at h; cases h
  | some z =>
    rw [hz] at h
    have h : (if z.1 = 0 then L_X7_sumOf q a1 a2 S else if z.1 = 1 then L_X7_sumOf q a1 a2 S else if z.1 = 2 then L_X7_sumOf q a1 a2 S else if z.1 = 3 then L_X7_sumOf q a1 a2 S else if z.1 = 4 then L_X5_sumOf q a1 a2 S else if z.1 = 5 then L_X6_sumOf q a1 a2 S else if z.1 = 6 then L_X7_sumOf q a1 a2 S else L_X3_sumOf q a1 a2 S) = some V := h
    rcases Decidable.em (z.1 = 0) with k0 | k0
    · rw [if_pos k0] at h
      exact kVU (x := yX7_sumOf) (C := RX7) (As := [.int a1, .int a2]) C0 (c_X7_sumOf l q a1 a2 h) ⟨wd_677, hl, wd_658, wd_656, wd_657, wd_656, wd_3, wd_677⟩ kd_X7_sumOf.2 ⟨Nat.le_trans (Nat.le_of_ble_eq_true rfl) hR.1, Nat.le_trans (Nat.le_of_ble_eq_true rfl) hR.2⟩ hP hz (by rw [k0]; rfl) rfl hsize hst hcat hdg hf
    · rw [if_neg k0] at h
      rcases Decidable.em (z.1 = 1) with k1 | k1
      · rw [if_pos k1] at h
        exact kVU (x := yX7_sumOf) (C := RX0) (As := [.int a1, .int a2]) C0 (c_X7_sumOf l q a1 a2 h) ⟨wd_677, hl, wd_658, wd_656, wd_659, wd_656, wd_3, wd_677⟩ kd_X7_sumOf.2 ⟨Nat.le_trans (Nat.le_of_ble_eq_true rfl) hR.1, Nat.le_trans (Nat.le_of_ble_eq_true rfl) hR.2⟩ hP hz (by rw [k1]; rfl) rfl hsize hst hcat hdg hf
      · rw [if_neg k1] at h
        rcases Decidable.em (z.1 = 2) with k2 | k2
        · rw [if_pos k2] at h
          exact kVU (x := yX7_sumOf) (C := RX4) (As := [.int a1, .int a2]) C0 (c_X7_sumOf l q a1 a2 h) ⟨wd_677, hl, wd_658, wd_656, wd_667, wd_656, wd_3, wd_677⟩ kd_X7_sumOf.2 ⟨Nat.le_trans (Nat.le_of_ble_eq_true rfl) hR.1, Nat.le_trans (Nat.le_of_ble_eq_true rfl) hR.2⟩ hP hz (by rw [k2]; rfl) rfl hsize hst hcat hdg hf
        · rw [if_neg k2] at h
          rcases Decidable.em (z.1 = 3) with k3 | k3
          · rw [if_pos k3] at h
            exact kVU (x := yX7_sumOf) (C := RX9) (As := [.int a1, .int a2]) C0 (c_X7_sumOf l q a1 a2 h) ⟨wd_677, hl, wd_658, wd_656, wd_676, wd_656, wd_3, wd_677⟩ kd_X7_sumOf.2 ⟨Nat.le_trans (Nat.le_of_ble_eq_true rfl) hR.1, Nat.le_trans (Nat.le_of_ble_eq_true rfl) hR.2⟩ hP hz (by rw [k3]; rfl) rfl hsize hst hcat hdg hf
          · rw [if_neg k3] at h
            rcases Decidable.em (z.1 = 4) with k4 | k4
            · rw [if_pos k4] at h
              exact kVU (x := yX7_sumOf) (C := RX5) (As := [.int a1, .int a2]) C0 (c_X5_sumOf l q a1 a2 h) ⟨wd_670, hl, wd_658, wd_656, wd_668, wd_669, wd_9, wd_677⟩ kd_X7_sumOf.2 ⟨Nat.le_trans (Nat.le_of_ble_eq_true rfl) hR.1, Nat.le_trans (Nat.le_of_ble_eq_true rfl) hR.2⟩ hP hz (by rw [k4]; rfl) rfl hsize hst hcat hdg hf
            · rw [if_neg k4] at h
              rcases Decidable.em (z.1 = 5) with k5 | k5
              · rw [if_pos k5] at h
                exact kVU (x := yX7_sumOf) (C := RX6) (As := [.int a1, .int a2]) C0 (c_X6_sumOf l q a1 a2 h) ⟨wd_674, hl, wd_658, wd_656, wd_672, wd_673, wd_10, wd_677⟩ kd_X7_sumOf.2 ⟨Nat.le_trans (Nat.le_of_ble_eq_true rfl) hR.1, Nat.le_trans (Nat.le_of_ble_eq_true rfl) hR.2⟩ hP hz (by rw [k5]; rfl) rfl hsize hst hcat hdg hf
              · rw [if_neg k5] at h
                rcases Decidable.em (z.1 = 6) with k6 | k6
                · rw [if_pos k6] at h
                  exact kVU (x := yX7_sumOf) (C := RX1) (As := [.int a1, .int a2]) C0 (c_X7_sumOf l q a1 a2 h) ⟨wd_677, hl, wd_658, wd_656, wd_660, wd_656, wd_3, wd_677⟩ kd_X7_sumOf.2 ⟨Nat.le_trans (Nat.le_of_ble_eq_true rfl) hR.1, Nat.le_trans (Nat.le_of_ble_eq_true rfl) hR.2⟩ hP hz (by rw [k6]; rfl) rfl hsize hst hcat hdg hf
                · rw [if_neg k6] at h
                  exact kVU (x := yX7_sumOf) (C := RX3) (As := [.int a1, .int a2]) C0 (c_X3_sumOf l q a1 a2 h) ⟨wd_663, hl, wd_658, wd_656, wd_661, wd_662, wd_12, wd_677⟩ kd_X7_sumOf.2 ⟨Nat.le_trans (Nat.le_of_ble_eq_true rfl) hR.1, Nat.le_trans (Nat.le_of_ble_eq_true rfl) hR.2⟩ hP hz (by rw [ciK_else k0 k1 k2 k3 k4 k5 k6]; rfl) rfl hsize hst hcat hdg hf
set_option maxRecDepth 100000 in
set_option maxHeartbeats 4000000 in
theorem kv_strengthOf (l : Launch) {R : Room} {cc : ByteArray} {nL pc cells slots index : Nat} {ret : Option FieldType} {own : String} {ls : Array Slot} {st rest : List Value} {H : Heap} {locs : List Loc} {S : St} (C0 : XC D ct p s m args meth c cc nL ret own) (hl : Cond.methodLink own index yX7_strengthOf ∈ tG) (q : Nat) (a1 : Int32) {V : Int32} (h : L_v_strengthOf q a1 S = some V) (hR : 3 ≤ R.frames ∧ 63 ≤ R.locals) (hP : MP D ct B Hb S H) (hsize : ls.size = nL) (hst : st = ([.int a1] : List Value).reverse ++ .ref (B + q) :: rest) (hcat : (rest.map fun v => v.category).sum ≤ 8) (hdg : decode cc pc = .ok (.invokevirtual index, 3)) (hf : cells ≤ R.cells ∧ slots ≤ R.slots := by exact ⟨Nat.le_of_ble_eq_true rfl, Nat.le_of_ble_eq_true rfl⟩) : va_Run p l e R s m args below meth c H locs cells slots 0 0 (F0 m pc ls st) rest (qI D ct B Hb S V (.ref (B + q) :: [.int a1]).toArray) (AB B) := by
  unfold L_v_strengthOf at h
  cases hz : gq S q with
  | none => rw [hz] at h; cases h
  | some z =>
    rw [hz] at h
    have h : (if z.1 = 0 then L_X7_strengthOf q a1 S else if z.1 = 1 then L_X7_strengthOf q a1 S else if z.1 = 2 then L_X4_strengthOf q a1 S else if z.1 = 3 then L_X9_strengthOf q a1 S else if z.1 = 4 then L_X7_strengthOf q a1 S else if z.1 = 5 then L_X7_strengthOf q a1 S else if z.1 = 6 then L_X7_strengthOf q a1 S else L_X7_strengthOf q a1 S) = some V := h
    rcases Decidable.em (z.1 = 0) with k0 | k0
    · rw [if_pos k0] at h
      exact kVU (x := yX7_strengthOf) (C := RX7) (As := [.int a1]) C0 (c_X7_strengthOf l q a1 h) ⟨wd_699, hl, wd_685, wd_683, wd_684, wd_683, wd_3, wd_699⟩ kd_X7_strengthOf.2 ⟨Nat.le_trans (Nat.le_of_ble_eq_true rfl) hR.1, Nat.le_trans (Nat.le_of_ble_eq_true rfl) hR.2⟩ hP hz (by rw [k0]; rfl) rfl hsize hst hcat hdg hf
    · rw [if_neg k0] at h
      rcases Decidable.em (z.1 = 1) with k1 | k1
      · rw [if_pos k1] at h
        exact kVU (x := yX7_strengthOf) (C := RX0) (As := [.int a1]) C0 (c_X7_strengthOf l q a1 h) ⟨wd_699, hl, wd_685, wd_683, wd_686, wd_683, wd_3, wd_699⟩ kd_X7_strengthOf.2 ⟨Nat.le_trans (Nat.le_of_ble_eq_true rfl) hR.1, Nat.le_trans (Nat.le_of_ble_eq_true rfl) hR.2⟩ hP hz (by rw [k1]; rfl) rfl hsize hst hcat hdg hf
      · rw [if_neg k1] at h
        rcases Decidable.em (z.1 = 2) with k2 | k2
        · rw [if_pos k2] at h
          exact kVU (x := yX7_strengthOf) (C := RX4) (As := [.int a1]) C0 (c_X4_strengthOf l q a1 h) ⟨wd_691, hl, wd_685, wd_683, wd_689, wd_690, wd_7, wd_699⟩ kd_X7_strengthOf.2 ⟨Nat.le_trans (Nat.le_of_ble_eq_true rfl) hR.1, Nat.le_trans (Nat.le_of_ble_eq_true rfl) hR.2⟩ hP hz (by rw [k2]; rfl) rfl hsize hst hcat hdg hf
        · rw [if_neg k2] at h
          rcases Decidable.em (z.1 = 3) with k3 | k3
          · rw [if_pos k3] at h
            exact kVU (x := yX7_strengthOf) (C := RX9) (As := [.int a1]) C0 (c_X9_strengthOf l q a1 h) ⟨wd_697, hl, wd_685, wd_683, wd_695, wd_696, wd_8, wd_699⟩ kd_X7_strengthOf.2 ⟨Nat.le_trans (Nat.le_of_ble_eq_true rfl) hR.1, Nat.le_trans (Nat.le_of_ble_eq_true rfl) hR.2⟩ hP hz (by rw [k3]; rfl) rfl hsize hst hcat hdg hf
          · rw [if_neg k3] at h
            rcases Decidable.em (z.1 = 4) with k4 | k4
            · rw [if_pos k4] at h
              exact kVU (x := yX7_strengthOf) (C := RX5) (As := [.int a1]) C0 (c_X7_strengthOf l q a1 h) ⟨wd_699, hl, wd_685, wd_683, wd_693, wd_683, wd_3, wd_699⟩ kd_X7_strengthOf.2 ⟨Nat.le_trans (Nat.le_of_ble_eq_true rfl) hR.1, Nat.le_trans (Nat.le_of_ble_eq_true rfl) hR.2⟩ hP hz (by rw [k4]; rfl) rfl hsize hst hcat hdg hf
            · rw [if_neg k4] at h
              rcases Decidable.em (z.1 = 5) with k5 | k5
              · rw [if_pos k5] at h
                exact kVU (x := yX7_strengthOf) (C := RX6) (As := [.int a1]) C0 (c_X7_strengthOf l q a1 h) ⟨wd_699, hl, wd_685, wd_683, wd_694, wd_683, wd_3, wd_699⟩ kd_X7_strengthOf.2 ⟨Nat.le_trans (Nat.le_of_ble_eq_true rfl) hR.1, Nat.le_trans (Nat.le_of_ble_eq_true rfl) hR.2⟩ hP hz (by rw [k5]; rfl) rfl hsize hst hcat hdg hf
              · rw [if_neg k5] at h
                rcases Decidable.em (z.1 = 6) with k6 | k6
                · rw [if_pos k6] at h
                  exact kVU (x := yX7_strengthOf) (C := RX1) (As := [.int a1]) C0 (c_X7_strengthOf l q a1 h) ⟨wd_699, hl, wd_685, wd_683, wd_687, wd_683, wd_3, wd_699⟩ kd_X7_strengthOf.2 ⟨Nat.le_trans (Nat.le_of_ble_eq_true rfl) hR.1, Nat.le_trans (Nat.le_of_ble_eq_true rfl) hR.2⟩ hP hz (by rw [k6]; rfl) rfl hsize hst hcat hdg hf
                · rw [if_neg k6] at h
                  exact kVU (x := yX7_strengthOf) (C := RX3) (As := [.int a1]) C0 (c_X7_strengthOf l q a1 h) ⟨wd_699, hl, wd_685, wd_683, wd_688, wd_683, wd_3, wd_699⟩ kd_X7_strengthOf.2 ⟨Nat.le_trans (Nat.le_of_ble_eq_true rfl) hR.1, Nat.le_trans (Nat.le_of_ble_eq_true rfl) hR.2⟩ hP hz (by rw [ciK_else k0 k1 k2 k3 k4 k5 k6]; rfl) rfl hsize hst hcat hdg hf
set_option maxRecDepth 100000 in
set_option maxHeartbeats 4000000 in
theorem kv_buysOf (l : Launch) {R : Room} {cc : ByteArray} {nL pc cells slots index : Nat} {ret : Option FieldType} {own : String} {ls : Array Slot} {st rest : List Value} {H : Heap} {locs : List Loc} {S : St} (C0 : XC D ct p s m args meth c cc nL ret own) (hl : Cond.methodLink own index yX7_buysOf ∈ tG) (q : Nat) (a1 : Int32) (a2 : Int32) {V : Int32} (h : L_v_buysOf q a1 a2 S = some V) (hR : 1 ≤ R.frames ∧ 22 ≤ R.locals) (hP : MP D ct B Hb S H) (hsize : ls.size = nL) (hst : st = ([.int a1, .int a2] : List Value).reverse ++ .ref (B + q) :: rest) (hcat : (rest.map fun v => v.category).sum ≤ 8) (hdg : decode cc pc = .ok (.invokevirtual index, 3)) (hf : cells ≤ R.cells ∧ slots ≤ R.slots := by exact ⟨Nat.le_of_ble_eq_true rfl, Nat.le_of_ble_eq_true rfl⟩) : va_Run p l e R s m args below meth c H locs cells slots 0 0 (F0 m pc ls st) rest (qI D ct B Hb S V (.ref (B + q) :: [.int a1, .int a2]).toArray) (AB B) := by
  unfold L_v_buysOf at h
  cases hz : gq S q with
  | none => rw [hz] at h; cases h
  | some z =>
    rw [hz] at h
    have h : (if z.1 = 0 then L_X7_buysOf q a1 a2 S else if z.1 = 1 then L_X7_buysOf q a1 a2 S else if z.1 = 2 then L_X7_buysOf q a1 a2 S else if z.1 = 3 then L_X9_buysOf q a1 a2 S else if z.1 = 4 then L_X7_buysOf q a1 a2 S else if z.1 = 5 then L_X7_buysOf q a1 a2 S else if z.1 = 6 then L_X1_buysOf q a1 a2 S else L_X1_buysOf q a1 a2 S) = some V := h
    rcases Decidable.em (z.1 = 0) with k0 | k0
    · rw [if_pos k0] at h
      exact kVU (x := yX7_buysOf) (C := RX7) (As := [.int a1, .int a2]) C0 (c_X7_buysOf l q a1 a2 h) ⟨wd_750, hl, wd_738, wd_736, wd_737, wd_736, wd_3, wd_750⟩ kd_X7_buysOf.2 ⟨Nat.le_trans (Nat.le_of_ble_eq_true rfl) hR.1, Nat.le_trans (Nat.le_of_ble_eq_true rfl) hR.2⟩ hP hz (by rw [k0]; rfl) rfl hsize hst hcat hdg hf
    · rw [if_neg k0] at h
      rcases Decidable.em (z.1 = 1) with k1 | k1
      · rw [if_pos k1] at h
        exact kVU (x := yX7_buysOf) (C := RX0) (As := [.int a1, .int a2]) C0 (c_X7_buysOf l q a1 a2 h) ⟨wd_750, hl, wd_738, wd_736, wd_739, wd_736, wd_3, wd_750⟩ kd_X7_buysOf.2 ⟨Nat.le_trans (Nat.le_of_ble_eq_true rfl) hR.1, Nat.le_trans (Nat.le_of_ble_eq_true rfl) hR.2⟩ hP hz (by rw [k1]; rfl) rfl hsize hst hcat hdg hf
      · rw [if_neg k1] at h
        rcases Decidable.em (z.1 = 2) with k2 | k2
        · rw [if_pos k2] at h
          exact kVU (x := yX7_buysOf) (C := RX4) (As := [.int a1, .int a2]) C0 (c_X7_buysOf l q a1 a2 h) ⟨wd_750, hl, wd_738, wd_736, wd_744, wd_736, wd_3, wd_750⟩ kd_X7_buysOf.2 ⟨Nat.le_trans (Nat.le_of_ble_eq_true rfl) hR.1, Nat.le_trans (Nat.le_of_ble_eq_true rfl) hR.2⟩ hP hz (by rw [k2]; rfl) rfl hsize hst hcat hdg hf
        · rw [if_neg k2] at h
          rcases Decidable.em (z.1 = 3) with k3 | k3
          · rw [if_pos k3] at h
            exact kVU (x := yX7_buysOf) (C := RX9) (As := [.int a1, .int a2]) C0 (c_X9_buysOf l q a1 a2 h) ⟨wd_749, hl, wd_738, wd_736, wd_747, wd_748, wd_8, wd_750⟩ kd_X7_buysOf.2 ⟨Nat.le_trans (Nat.le_of_ble_eq_true rfl) hR.1, Nat.le_trans (Nat.le_of_ble_eq_true rfl) hR.2⟩ hP hz (by rw [k3]; rfl) rfl hsize hst hcat hdg hf
          · rw [if_neg k3] at h
            rcases Decidable.em (z.1 = 4) with k4 | k4
            · rw [if_pos k4] at h
              exact kVU (x := yX7_buysOf) (C := RX5) (As := [.int a1, .int a2]) C0 (c_X7_buysOf l q a1 a2 h) ⟨wd_750, hl, wd_738, wd_736, wd_745, wd_736, wd_3, wd_750⟩ kd_X7_buysOf.2 ⟨Nat.le_trans (Nat.le_of_ble_eq_true rfl) hR.1, Nat.le_trans (Nat.le_of_ble_eq_true rfl) hR.2⟩ hP hz (by rw [k4]; rfl) rfl hsize hst hcat hdg hf
            · rw [if_neg k4] at h
              rcases Decidable.em (z.1 = 5) with k5 | k5
              · rw [if_pos k5] at h
                exact kVU (x := yX7_buysOf) (C := RX6) (As := [.int a1, .int a2]) C0 (c_X7_buysOf l q a1 a2 h) ⟨wd_750, hl, wd_738, wd_736, wd_746, wd_736, wd_3, wd_750⟩ kd_X7_buysOf.2 ⟨Nat.le_trans (Nat.le_of_ble_eq_true rfl) hR.1, Nat.le_trans (Nat.le_of_ble_eq_true rfl) hR.2⟩ hP hz (by rw [k5]; rfl) rfl hsize hst hcat hdg hf
              · rw [if_neg k5] at h
                rcases Decidable.em (z.1 = 6) with k6 | k6
                · rw [if_pos k6] at h
                  exact kVU (x := yX7_buysOf) (C := RX1) (As := [.int a1, .int a2]) C0 (c_X1_buysOf l q a1 a2 h) ⟨wd_742, hl, wd_738, wd_736, wd_740, wd_741, wd_11, wd_750⟩ kd_X7_buysOf.2 ⟨Nat.le_trans (Nat.le_of_ble_eq_true rfl) hR.1, Nat.le_trans (Nat.le_of_ble_eq_true rfl) hR.2⟩ hP hz (by rw [k6]; rfl) rfl hsize hst hcat hdg hf
                · rw [if_neg k6] at h
                  exact kVU (x := yX7_buysOf) (C := RX3) (As := [.int a1, .int a2]) C0 (c_X1_buysOf l q a1 a2 h) ⟨wd_742, hl, wd_738, wd_736, wd_743, wd_741, wd_11, wd_750⟩ kd_X7_buysOf.2 ⟨Nat.le_trans (Nat.le_of_ble_eq_true rfl) hR.1, Nat.le_trans (Nat.le_of_ble_eq_true rfl) hR.2⟩ hP hz (by rw [ciK_else k0 k1 k2 k3 k4 k5 k6]; rfl) rfl hsize hst hcat hdg hf
set_option maxRecDepth 100000 in
set_option maxHeartbeats 4000000 in
theorem kv_priceOf (l : Launch) {R : Room} {cc : ByteArray} {nL pc cells slots index : Nat} {ret : Option FieldType} {own : String} {ls : Array Slot} {st rest : List Value} {H : Heap} {locs : List Loc} {S : St} (C0 : XC D ct p s m args meth c cc nL ret own) (hl : Cond.methodLink own index yX7_priceOf ∈ tG) (q : Nat) (a1 : Int32) (a2 : Int32) {V : Int32} (h : L_v_priceOf q a1 a2 S = some V) (hR : 3 ≤ R.frames ∧ 66 ≤ R.locals) (hP : MP D ct B Hb S H) (hsize : ls.size = nL) (hst : st = ([.int a1, .int a2] : List Value).reverse ++ .ref (B + q) :: rest) (hcat : (rest.map fun v => v.category).sum ≤ 8) (hdg : decode cc pc = .ok (.invokevirtual index, 3)) (hf : cells ≤ R.cells ∧ slots ≤ R.slots := by exact ⟨Nat.le_of_ble_eq_true rfl, Nat.le_of_ble_eq_true rfl⟩) : va_Run p l e R s m args below meth c H locs cells slots 0 0 (F0 m pc ls st) rest (qI D ct B Hb S V (.ref (B + q) :: [.int a1, .int a2]).toArray) (AB B) := by
  unfold L_v_priceOf at h
  cases hz : gq S q with
  | none => rw [hz] at h; cases h
  | some z =>
    rw [hz] at h
    have h : (if z.1 = 0 then L_X7_priceOf q a1 a2 S else if z.1 = 1 then L_X7_priceOf q a1 a2 S else if z.1 = 2 then L_X7_priceOf q a1 a2 S else if z.1 = 3 then L_X7_priceOf q a1 a2 S else if z.1 = 4 then L_X7_priceOf q a1 a2 S else if z.1 = 5 then L_X7_priceOf q a1 a2 S else if z.1 = 6 then L_X1_priceOf q a1 a2 S else L_X3_priceOf q a1 a2 S) = some V := h
    rcases Decidable.em (z.1 = 0) with k0 | k0
    · rw [if_pos k0] at h
      exact kVU (x := yX7_priceOf) (C := RX7) (As := [.int a1, .int a2]) C0 (c_X7_priceOf l q a1 a2 h) ⟨wd_734, hl, wd_719, wd_717, wd_718, wd_717, wd_3, wd_734⟩ kd_X7_priceOf.2 ⟨Nat.le_trans (Nat.le_of_ble_eq_true rfl) hR.1, Nat.le_trans (Nat.le_of_ble_eq_true rfl) hR.2⟩ hP hz (by rw [k0]; rfl) rfl hsize hst hcat hdg hf
    · rw [if_neg k0] at h
      rcases Decidable.em (z.1 = 1) with k1 | k1
      · rw [if_pos k1] at h
        exact kVU (x := yX7_priceOf) (C := RX0) (As := [.int a1, .int a2]) C0 (c_X7_priceOf l q a1 a2 h) ⟨wd_734, hl, wd_719, wd_717, wd_720, wd_717, wd_3, wd_734⟩ kd_X7_priceOf.2 ⟨Nat.le_trans (Nat.le_of_ble_eq_true rfl) hR.1, Nat.le_trans (Nat.le_of_ble_eq_true rfl) hR.2⟩ hP hz (by rw [k1]; rfl) rfl hsize hst hcat hdg hf
      · rw [if_neg k1] at h
        rcases Decidable.em (z.1 = 2) with k2 | k2
        · rw [if_pos k2] at h
          exact kVU (x := yX7_priceOf) (C := RX4) (As := [.int a1, .int a2]) C0 (c_X7_priceOf l q a1 a2 h) ⟨wd_734, hl, wd_719, wd_717, wd_730, wd_717, wd_3, wd_734⟩ kd_X7_priceOf.2 ⟨Nat.le_trans (Nat.le_of_ble_eq_true rfl) hR.1, Nat.le_trans (Nat.le_of_ble_eq_true rfl) hR.2⟩ hP hz (by rw [k2]; rfl) rfl hsize hst hcat hdg hf
        · rw [if_neg k2] at h
          rcases Decidable.em (z.1 = 3) with k3 | k3
          · rw [if_pos k3] at h
            exact kVU (x := yX7_priceOf) (C := RX9) (As := [.int a1, .int a2]) C0 (c_X7_priceOf l q a1 a2 h) ⟨wd_734, hl, wd_719, wd_717, wd_733, wd_717, wd_3, wd_734⟩ kd_X7_priceOf.2 ⟨Nat.le_trans (Nat.le_of_ble_eq_true rfl) hR.1, Nat.le_trans (Nat.le_of_ble_eq_true rfl) hR.2⟩ hP hz (by rw [k3]; rfl) rfl hsize hst hcat hdg hf
          · rw [if_neg k3] at h
            rcases Decidable.em (z.1 = 4) with k4 | k4
            · rw [if_pos k4] at h
              exact kVU (x := yX7_priceOf) (C := RX5) (As := [.int a1, .int a2]) C0 (c_X7_priceOf l q a1 a2 h) ⟨wd_734, hl, wd_719, wd_717, wd_731, wd_717, wd_3, wd_734⟩ kd_X7_priceOf.2 ⟨Nat.le_trans (Nat.le_of_ble_eq_true rfl) hR.1, Nat.le_trans (Nat.le_of_ble_eq_true rfl) hR.2⟩ hP hz (by rw [k4]; rfl) rfl hsize hst hcat hdg hf
            · rw [if_neg k4] at h
              rcases Decidable.em (z.1 = 5) with k5 | k5
              · rw [if_pos k5] at h
                exact kVU (x := yX7_priceOf) (C := RX6) (As := [.int a1, .int a2]) C0 (c_X7_priceOf l q a1 a2 h) ⟨wd_734, hl, wd_719, wd_717, wd_732, wd_717, wd_3, wd_734⟩ kd_X7_priceOf.2 ⟨Nat.le_trans (Nat.le_of_ble_eq_true rfl) hR.1, Nat.le_trans (Nat.le_of_ble_eq_true rfl) hR.2⟩ hP hz (by rw [k5]; rfl) rfl hsize hst hcat hdg hf
              · rw [if_neg k5] at h
                rcases Decidable.em (z.1 = 6) with k6 | k6
                · rw [if_pos k6] at h
                  exact kVU (x := yX7_priceOf) (C := RX1) (As := [.int a1, .int a2]) C0 (c_X1_priceOf l q a1 a2 h) ⟨wd_723, hl, wd_719, wd_717, wd_721, wd_722, wd_11, wd_734⟩ kd_X7_priceOf.2 ⟨Nat.le_trans (Nat.le_of_ble_eq_true rfl) hR.1, Nat.le_trans (Nat.le_of_ble_eq_true rfl) hR.2⟩ hP hz (by rw [k6]; rfl) rfl hsize hst hcat hdg hf
                · rw [if_neg k6] at h
                  exact kVU (x := yX7_priceOf) (C := RX3) (As := [.int a1, .int a2]) C0 (c_X3_priceOf l q a1 a2 h) ⟨wd_727, hl, wd_719, wd_717, wd_725, wd_726, wd_12, wd_734⟩ kd_X7_priceOf.2 ⟨Nat.le_trans (Nat.le_of_ble_eq_true rfl) hR.1, Nat.le_trans (Nat.le_of_ble_eq_true rfl) hR.2⟩ hP hz (by rw [ciK_else k0 k1 k2 k3 k4 k5 k6]; rfl) rfl hsize hst hcat hdg hf
set_option maxRecDepth 100000 in
set_option maxHeartbeats 4000000 in
theorem kv_fadeBy (l : Launch) {R : Room} {cc : ByteArray} {nL pc cells slots index : Nat} {ret : Option FieldType} {own : String} {ls : Array Slot} {st rest : List Value} {H : Heap} {locs : List Loc} {S : St} (C0 : XC D ct p s m args meth c cc nL ret own) (hl : Cond.methodLink own index yX7_fadeBy ∈ tG) (q : Nat) (a1 : Int32) {V : Int32} (h : L_v_fadeBy q a1 S = some V) (hR : 2 ≤ R.frames ∧ 42 ≤ R.locals) (hP : MP D ct B Hb S H) (hsize : ls.size = nL) (hst : st = ([.int a1] : List Value).reverse ++ .ref (B + q) :: rest) (hcat : (rest.map fun v => v.category).sum ≤ 8) (hdg : decode cc pc = .ok (.invokevirtual index, 3)) (hf : cells ≤ R.cells ∧ slots ≤ R.slots := by exact ⟨Nat.le_of_ble_eq_true rfl, Nat.le_of_ble_eq_true rfl⟩) : va_Run p l e R s m args below meth c H locs cells slots 0 0 (F0 m pc ls st) rest (qI D ct B Hb S V (.ref (B + q) :: [.int a1]).toArray) (AB B) := by
  unfold L_v_fadeBy at h
  cases hz : gq S q with
  | none => rw [hz] at h; cases h
  | some z =>
    rw [hz] at h
    have h : (if z.1 = 0 then L_X7_fadeBy q a1 S else if z.1 = 1 then L_X7_fadeBy q a1 S else if z.1 = 2 then L_X4_fadeBy q a1 S else if z.1 = 3 then L_X4_fadeBy q a1 S else if z.1 = 4 then L_X7_fadeBy q a1 S else if z.1 = 5 then L_X7_fadeBy q a1 S else if z.1 = 6 then L_X7_fadeBy q a1 S else L_X3_fadeBy q a1 S) = some V := h
    rcases Decidable.em (z.1 = 0) with k0 | k0
    · rw [if_pos k0] at h
      exact kVU (x := yX7_fadeBy) (C := RX7) (As := [.int a1]) C0 (c_X7_fadeBy l q a1 h) ⟨wd_785, hl, wd_768, wd_766, wd_767, wd_766, wd_3, wd_785⟩ kd_X7_fadeBy.2 ⟨Nat.le_trans (Nat.le_of_ble_eq_true rfl) hR.1, Nat.le_trans (Nat.le_of_ble_eq_true rfl) hR.2⟩ hP hz (by rw [k0]; rfl) rfl hsize hst hcat hdg hf
    · rw [if_neg k0] at h
      rcases Decidable.em (z.1 = 1) with k1 | k1
      · rw [if_pos k1] at h
        exact kVU (x := yX7_fadeBy) (C := RX0) (As := [.int a1]) C0 (c_X7_fadeBy l q a1 h) ⟨wd_785, hl, wd_768, wd_766, wd_769, wd_766, wd_3, wd_785⟩ kd_X7_fadeBy.2 ⟨Nat.le_trans (Nat.le_of_ble_eq_true rfl) hR.1, Nat.le_trans (Nat.le_of_ble_eq_true rfl) hR.2⟩ hP hz (by rw [k1]; rfl) rfl hsize hst hcat hdg hf
      · rw [if_neg k1] at h
        rcases Decidable.em (z.1 = 2) with k2 | k2
        · rw [if_pos k2] at h
          exact kVU (x := yX7_fadeBy) (C := RX4) (As := [.int a1]) C0 (c_X4_fadeBy l q a1 h) ⟨wd_779, hl, wd_768, wd_766, wd_777, wd_778, wd_7, wd_785⟩ kd_X7_fadeBy.2 ⟨Nat.le_trans (Nat.le_of_ble_eq_true rfl) hR.1, Nat.le_trans (Nat.le_of_ble_eq_true rfl) hR.2⟩ hP hz (by rw [k2]; rfl) rfl hsize hst hcat hdg hf
        · rw [if_neg k2] at h
          rcases Decidable.em (z.1 = 3) with k3 | k3
          · rw [if_pos k3] at h
            exact kVU (x := yX7_fadeBy) (C := RX9) (As := [.int a1]) C0 (c_X4_fadeBy l q a1 h) ⟨wd_779, hl, wd_768, wd_766, wd_784, wd_778, wd_7, wd_785⟩ kd_X7_fadeBy.2 ⟨Nat.le_trans (Nat.le_of_ble_eq_true rfl) hR.1, Nat.le_trans (Nat.le_of_ble_eq_true rfl) hR.2⟩ hP hz (by rw [k3]; rfl) rfl hsize hst hcat hdg hf
          · rw [if_neg k3] at h
            rcases Decidable.em (z.1 = 4) with k4 | k4
            · rw [if_pos k4] at h
              exact kVU (x := yX7_fadeBy) (C := RX5) (As := [.int a1]) C0 (c_X7_fadeBy l q a1 h) ⟨wd_785, hl, wd_768, wd_766, wd_782, wd_766, wd_3, wd_785⟩ kd_X7_fadeBy.2 ⟨Nat.le_trans (Nat.le_of_ble_eq_true rfl) hR.1, Nat.le_trans (Nat.le_of_ble_eq_true rfl) hR.2⟩ hP hz (by rw [k4]; rfl) rfl hsize hst hcat hdg hf
            · rw [if_neg k4] at h
              rcases Decidable.em (z.1 = 5) with k5 | k5
              · rw [if_pos k5] at h
                exact kVU (x := yX7_fadeBy) (C := RX6) (As := [.int a1]) C0 (c_X7_fadeBy l q a1 h) ⟨wd_785, hl, wd_768, wd_766, wd_783, wd_766, wd_3, wd_785⟩ kd_X7_fadeBy.2 ⟨Nat.le_trans (Nat.le_of_ble_eq_true rfl) hR.1, Nat.le_trans (Nat.le_of_ble_eq_true rfl) hR.2⟩ hP hz (by rw [k5]; rfl) rfl hsize hst hcat hdg hf
              · rw [if_neg k5] at h
                rcases Decidable.em (z.1 = 6) with k6 | k6
                · rw [if_pos k6] at h
                  exact kVU (x := yX7_fadeBy) (C := RX1) (As := [.int a1]) C0 (c_X7_fadeBy l q a1 h) ⟨wd_785, hl, wd_768, wd_766, wd_770, wd_766, wd_3, wd_785⟩ kd_X7_fadeBy.2 ⟨Nat.le_trans (Nat.le_of_ble_eq_true rfl) hR.1, Nat.le_trans (Nat.le_of_ble_eq_true rfl) hR.2⟩ hP hz (by rw [k6]; rfl) rfl hsize hst hcat hdg hf
                · rw [if_neg k6] at h
                  exact kVU (x := yX7_fadeBy) (C := RX3) (As := [.int a1]) C0 (c_X3_fadeBy l q a1 h) ⟨wd_773, hl, wd_768, wd_766, wd_771, wd_772, wd_12, wd_785⟩ kd_X7_fadeBy.2 ⟨Nat.le_trans (Nat.le_of_ble_eq_true rfl) hR.1, Nat.le_trans (Nat.le_of_ble_eq_true rfl) hR.2⟩ hP hz (by rw [ciK_else k0 k1 k2 k3 k4 k5 k6]; rfl) rfl hsize hst hcat hdg hf
end VIRT
