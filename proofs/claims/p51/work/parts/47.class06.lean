theorem dX11_again_0 : decode cX11_again 0 = .ok (.iload_n 1, 1) := by decide +kernel
theorem dX11_again_1 : decode cX11_again 1 = .ok (.iconst 0, 1) := by decide +kernel
theorem dX11_again_2 : decode cX11_again 2 = .ok (.iconst 1, 1) := by decide +kernel
theorem dX11_again_3 : decode cX11_again 3 = .ok (.invokestatic 110, 3) := by decide +kernel
theorem dX11_again_6 : decode cX11_again 6 = .ok (.ifCond .eq 5, 3) := by decide +kernel
theorem dX11_again_9 : decode cX11_again 9 = .ok (.iconst (-1), 1) := by decide +kernel
theorem dX11_again_10 : decode cX11_again 10 = .ok (.ireturn, 1) := by decide +kernel
theorem dX11_again_11 : decode cX11_again 11 = .ok (.aload_n 0, 1) := by decide +kernel
theorem dX11_again_12 : decode cX11_again 12 = .ok (.getfield 16, 3) := by decide +kernel
theorem dX11_again_15 : decode cX11_again 15 = .ok (.aload_n 0, 1) := by decide +kernel
theorem dX11_again_16 : decode cX11_again 16 = .ok (.getfield 12, 3) := by decide +kernel
theorem dX11_again_19 : decode cX11_again 19 = .ok (.invokevirtual 74, 3) := by decide +kernel
theorem dX11_again_22 : decode cX11_again 22 = .ok (.iconst 0, 1) := by decide +kernel
theorem dX11_again_23 : decode cX11_again 23 = .ok (.istore_n 2, 1) := by decide +kernel
theorem dX11_again_24 : decode cX11_again 24 = .ok (.iload_n 2, 1) := by decide +kernel
theorem dX11_again_25 : decode cX11_again 25 = .ok (.bipush 40, 2) := by decide +kernel
theorem dX11_again_27 : decode cX11_again 27 = .ok (.if_icmp .gt 132, 3) := by decide +kernel
theorem dX11_again_30 : decode cX11_again 30 = .ok (.aload_n 0, 1) := by decide +kernel
theorem dX11_again_31 : decode cX11_again 31 = .ok (.getfield 16, 3) := by decide +kernel
theorem dX11_again_34 : decode cX11_again 34 = .ok (.getfield 107, 3) := by decide +kernel
theorem dX11_again_37 : decode cX11_again 37 = .ok (.iconst 0, 1) := by decide +kernel
theorem dX11_again_38 : decode cX11_again 38 = .ok (.aload_n 0, 1) := by decide +kernel
theorem dX11_again_39 : decode cX11_again 39 = .ok (.getfield 57, 3) := by decide +kernel
theorem dX11_again_42 : decode cX11_again 42 = .ok (.iload_n 2, 1) := by decide +kernel
theorem dX11_again_43 : decode cX11_again 43 = .ok (.aaload, 1) := by decide +kernel
theorem dX11_again_44 : decode cX11_again 44 = .ok (.iconst 0, 1) := by decide +kernel
theorem dX11_again_45 : decode cX11_again 45 = .ok (.aload_n 0, 1) := by decide +kernel
theorem dX11_again_46 : decode cX11_again 46 = .ok (.getfield 16, 3) := by decide +kernel
theorem dX11_again_49 : decode cX11_again 49 = .ok (.getfield 185, 3) := by decide +kernel
theorem dX11_again_52 : decode cX11_again 52 = .ok (.invokestatic 255, 3) := by decide +kernel
theorem dX11_again_55 : decode cX11_again 55 = .ok (.aload_n 0, 1) := by decide +kernel
theorem dX11_again_56 : decode cX11_again 56 = .ok (.iload_n 2, 1) := by decide +kernel
theorem dX11_again_57 : decode cX11_again 57 = .ok (.invokevirtual 261, 3) := by decide +kernel
theorem dX11_again_60 : decode cX11_again 60 = .ok (.istore_n 3, 1) := by decide +kernel
theorem dX11_again_61 : decode cX11_again 61 = .ok (.iload_n 3, 1) := by decide +kernel
theorem dX11_again_62 : decode cX11_again 62 = .ok (.ifCond .lt 13, 3) := by decide +kernel
theorem dX11_again_65 : decode cX11_again 65 = .ok (.iload_n 1, 1) := by decide +kernel
theorem dX11_again_66 : decode cX11_again 66 = .ok (.ifCond .ne 7, 3) := by decide +kernel
theorem dX11_again_69 : decode cX11_again 69 = .ok (.iload_n 2, 1) := by decide +kernel
theorem dX11_again_70 : decode cX11_again 70 = .ok (.goto 4, 3) := by decide +kernel
theorem dX11_again_73 : decode cX11_again 73 = .ok (.iload_n 3, 1) := by decide +kernel
theorem dX11_again_74 : decode cX11_again 74 = .ok (.ireturn, 1) := by decide +kernel
theorem dX11_again_75 : decode cX11_again 75 = .ok (.aload_n 0, 1) := by decide +kernel
theorem dX11_again_76 : decode cX11_again 76 = .ok (.getfield 31, 3) := by decide +kernel
theorem dX11_again_79 : decode cX11_again 79 = .ok (.aload_n 0, 1) := by decide +kernel
theorem dX11_again_80 : decode cX11_again 80 = .ok (.getfield 16, 3) := by decide +kernel
theorem dX11_again_83 : decode cX11_again 83 = .ok (.iconst (-1), 1) := by decide +kernel
theorem dX11_again_84 : decode cX11_again 84 = .ok (.invokevirtual 166, 3) := by decide +kernel
theorem dX11_again_87 : decode cX11_again 87 = .ok (.iconst 0, 1) := by decide +kernel
theorem dX11_again_88 : decode cX11_again 88 = .ok (.istore 4, 2) := by decide +kernel
theorem dX11_again_90 : decode cX11_again 90 = .ok (.iload 4, 2) := by decide +kernel
theorem dX11_again_92 : decode cX11_again 92 = .ok (.aload_n 0, 1) := by decide +kernel
theorem dX11_again_93 : decode cX11_again 93 = .ok (.getfield 16, 3) := by decide +kernel
theorem dX11_again_96 : decode cX11_again 96 = .ok (.getfield 185, 3) := by decide +kernel
theorem dX11_again_99 : decode cX11_again 99 = .ok (.if_icmp .ge 54, 3) := by decide +kernel
theorem dX11_again_102 : decode cX11_again 102 = .ok (.aload_n 0, 1) := by decide +kernel
theorem dX11_again_103 : decode cX11_again 103 = .ok (.getfield 16, 3) := by decide +kernel
theorem dX11_again_106 : decode cX11_again 106 = .ok (.getfield 107, 3) := by decide +kernel
theorem dX11_again_109 : decode cX11_again 109 = .ok (.iload 4, 2) := by decide +kernel
theorem dX11_again_111 : decode cX11_again 111 = .ok (.iaload, 1) := by decide +kernel
theorem dX11_again_112 : decode cX11_again 112 = .ok (.aload_n 0, 1) := by decide +kernel
theorem dX11_again_113 : decode cX11_again 113 = .ok (.getfield 31, 3) := by decide +kernel
theorem dX11_again_116 : decode cX11_again 116 = .ok (.getfield 264, 3) := by decide +kernel
theorem dX11_again_119 : decode cX11_again 119 = .ok (.iload 4, 2) := by decide +kernel
theorem dX11_again_121 : decode cX11_again 121 = .ok (.iaload, 1) := by decide +kernel
theorem dX11_again_122 : decode cX11_again 122 = .ok (.iadd, 1) := by decide +kernel
theorem dX11_again_123 : decode cX11_again 123 = .ok (.istore 5, 2) := by decide +kernel
theorem dX11_again_125 : decode cX11_again 125 = .ok (.aload_n 0, 1) := by decide +kernel
theorem dX11_again_126 : decode cX11_again 126 = .ok (.getfield 16, 3) := by decide +kernel
theorem dX11_again_129 : decode cX11_again 129 = .ok (.getfield 107, 3) := by decide +kernel
theorem dX11_again_132 : decode cX11_again 132 = .ok (.iload 4, 2) := by decide +kernel
theorem dX11_again_134 : decode cX11_again 134 = .ok (.bipush (-9), 2) := by decide +kernel
theorem dX11_again_136 : decode cX11_again 136 = .ok (.bipush 9, 2) := by decide +kernel
theorem dX11_again_138 : decode cX11_again 138 = .ok (.iload 5, 2) := by decide +kernel
theorem dX11_again_140 : decode cX11_again 140 = .ok (.invokestatic 242, 3) := by decide +kernel
theorem dX11_again_143 : decode cX11_again 143 = .ok (.invokestatic 188, 3) := by decide +kernel
theorem dX11_again_146 : decode cX11_again 146 = .ok (.iastore, 1) := by decide +kernel
theorem dX11_again_147 : decode cX11_again 147 = .ok (.iinc 4 1, 3) := by decide +kernel
theorem dX11_again_150 : decode cX11_again 150 = .ok (.goto (-60), 3) := by decide +kernel
theorem dX11_again_153 : decode cX11_again 153 = .ok (.iinc 2 1, 3) := by decide +kernel
theorem dX11_again_156 : decode cX11_again 156 = .ok (.goto (-132), 3) := by decide +kernel
theorem dX11_again_159 : decode cX11_again 159 = .ok (.bipush (-4), 2) := by decide +kernel
theorem dX11_again_161 : decode cX11_again 161 = .ok (.ireturn, 1) := by decide +kernel
theorem dX11_count_0 : decode cX11_count 0 = .ok (.iload_n 1, 1) := by decide +kernel
theorem dX11_count_1 : decode cX11_count 1 = .ok (.tableswitch 117 0 7 #[47, 55, 63, 71, 81, 91, 101, 109], 47) := by decide +kernel
theorem dX11_count_48 : decode cX11_count 48 = .ok (.aload_n 0, 1) := by decide +kernel
theorem dX11_count_49 : decode cX11_count 49 = .ok (.getfield 12, 3) := by decide +kernel
theorem dX11_count_52 : decode cX11_count 52 = .ok (.getfield 185, 3) := by decide +kernel
theorem dX11_count_55 : decode cX11_count 55 = .ok (.ireturn, 1) := by decide +kernel
theorem dX11_count_56 : decode cX11_count 56 = .ok (.aload_n 0, 1) := by decide +kernel
theorem dX11_count_57 : decode cX11_count 57 = .ok (.getfield 12, 3) := by decide +kernel
theorem dX11_count_60 : decode cX11_count 60 = .ok (.getfield 196, 3) := by decide +kernel
theorem dX11_count_63 : decode cX11_count 63 = .ok (.ireturn, 1) := by decide +kernel
theorem dX11_count_64 : decode cX11_count 64 = .ok (.aload_n 0, 1) := by decide +kernel
theorem dX11_count_65 : decode cX11_count 65 = .ok (.getfield 12, 3) := by decide +kernel
theorem dX11_count_68 : decode cX11_count 68 = .ok (.getfield 222, 3) := by decide +kernel
theorem dX11_count_71 : decode cX11_count 71 = .ok (.ireturn, 1) := by decide +kernel
theorem dX11_count_72 : decode cX11_count 72 = .ok (.aload_n 0, 1) := by decide +kernel
theorem dX11_count_73 : decode cX11_count 73 = .ok (.getfield 12, 3) := by decide +kernel
theorem dX11_count_76 : decode cX11_count 76 = .ok (.getfield 121, 3) := by decide +kernel
theorem dX11_count_79 : decode cX11_count 79 = .ok (.iconst 0, 1) := by decide +kernel
theorem dX11_count_80 : decode cX11_count 80 = .ok (.iaload, 1) := by decide +kernel
theorem dX11_count_81 : decode cX11_count 81 = .ok (.ireturn, 1) := by decide +kernel
theorem dX11_count_82 : decode cX11_count 82 = .ok (.aload_n 0, 1) := by decide +kernel
theorem dX11_count_83 : decode cX11_count 83 = .ok (.getfield 12, 3) := by decide +kernel
theorem dX11_count_86 : decode cX11_count 86 = .ok (.getfield 121, 3) := by decide +kernel
theorem dX11_count_89 : decode cX11_count 89 = .ok (.iconst 1, 1) := by decide +kernel
theorem dX11_count_90 : decode cX11_count 90 = .ok (.iaload, 1) := by decide +kernel
theorem dX11_count_91 : decode cX11_count 91 = .ok (.ireturn, 1) := by decide +kernel
theorem dX11_count_92 : decode cX11_count 92 = .ok (.aload_n 0, 1) := by decide +kernel
theorem dX11_count_93 : decode cX11_count 93 = .ok (.getfield 12, 3) := by decide +kernel
theorem dX11_count_96 : decode cX11_count 96 = .ok (.getfield 121, 3) := by decide +kernel
theorem dX11_count_99 : decode cX11_count 99 = .ok (.iconst 2, 1) := by decide +kernel
theorem dX11_count_100 : decode cX11_count 100 = .ok (.iaload, 1) := by decide +kernel
theorem dX11_count_101 : decode cX11_count 101 = .ok (.ireturn, 1) := by decide +kernel
theorem dX11_count_102 : decode cX11_count 102 = .ok (.aload_n 0, 1) := by decide +kernel
theorem dX11_count_103 : decode cX11_count 103 = .ok (.getfield 12, 3) := by decide +kernel
theorem dX11_count_106 : decode cX11_count 106 = .ok (.invokevirtual 289, 3) := by decide +kernel
theorem dX11_count_109 : decode cX11_count 109 = .ok (.ireturn, 1) := by decide +kernel
theorem dX11_count_110 : decode cX11_count 110 = .ok (.aload_n 0, 1) := by decide +kernel
theorem dX11_count_111 : decode cX11_count 111 = .ok (.getfield 12, 3) := by decide +kernel
theorem dX11_count_114 : decode cX11_count 114 = .ok (.invokevirtual 292, 3) := by decide +kernel
theorem dX11_count_117 : decode cX11_count 117 = .ok (.ireturn, 1) := by decide +kernel
theorem dX11_count_118 : decode cX11_count 118 = .ok (.iconst (-1), 1) := by decide +kernel
theorem dX11_count_119 : decode cX11_count 119 = .ok (.ireturn, 1) := by decide +kernel
theorem dX11_row_0 : decode cX11_row 0 = .ok (.iload_n 1, 1) := by decide +kernel
theorem dX11_row_1 : decode cX11_row 1 = .ok (.invokestatic 127, 3) := by decide +kernel
theorem dX11_row_4 : decode cX11_row 4 = .ok (.ifCond .ne 18, 3) := by decide +kernel
theorem dX11_row_7 : decode cX11_row 7 = .ok (.iload_n 2, 1) := by decide +kernel
theorem dX11_row_8 : decode cX11_row 8 = .ok (.iconst 0, 1) := by decide +kernel
theorem dX11_row_9 : decode cX11_row 9 = .ok (.iconst 2, 1) := by decide +kernel
theorem dX11_row_10 : decode cX11_row 10 = .ok (.invokestatic 110, 3) := by decide +kernel
theorem dX11_row_13 : decode cX11_row 13 = .ok (.ifCond .ne 9, 3) := by decide +kernel
theorem dX11_row_16 : decode cX11_row 16 = .ok (.iload_n 3, 1) := by decide +kernel
theorem dX11_row_17 : decode cX11_row 17 = .ok (.bipush 100, 2) := by decide +kernel
theorem dX11_row_19 : decode cX11_row 19 = .ok (.if_icmp .le 5, 3) := by decide +kernel
theorem dX11_row_22 : decode cX11_row 22 = .ok (.iconst (-1), 1) := by decide +kernel
theorem dX11_row_23 : decode cX11_row 23 = .ok (.ireturn, 1) := by decide +kernel
theorem dX11_row_24 : decode cX11_row 24 = .ok (.iload_n 3, 1) := by decide +kernel
theorem dX11_row_25 : decode cX11_row 25 = .ok (.ifCond .ge 6, 3) := by decide +kernel
theorem dX11_row_28 : decode cX11_row 28 = .ok (.bipush (-14), 2) := by decide +kernel
theorem dX11_row_30 : decode cX11_row 30 = .ok (.ireturn, 1) := by decide +kernel
theorem dX11_row_31 : decode cX11_row 31 = .ok (.aload_n 0, 1) := by decide +kernel
theorem dX11_row_32 : decode cX11_row 32 = .ok (.getfield 47, 3) := by decide +kernel
theorem dX11_row_35 : decode cX11_row 35 = .ok (.iload_n 1, 1) := by decide +kernel
theorem dX11_row_36 : decode cX11_row 36 = .ok (.aaload, 1) := by decide +kernel
theorem dX11_row_37 : decode cX11_row 37 = .ok (.iload_n 2, 1) := by decide +kernel
theorem dX11_row_38 : decode cX11_row 38 = .ok (.iload_n 3, 1) := by decide +kernel
theorem dX11_row_39 : decode cX11_row 39 = .ok (.invokevirtual 299, 3) := by decide +kernel
theorem dX11_row_42 : decode cX11_row 42 = .ok (.aload_n 0, 1) := by decide +kernel
theorem dX11_row_43 : decode cX11_row 43 = .ok (.getfield 35, 3) := by decide +kernel
theorem dX11_row_46 : decode cX11_row 46 = .ok (.iload_n 1, 1) := by decide +kernel
theorem dX11_row_47 : decode cX11_row 47 = .ok (.iconst 2, 1) := by decide +kernel
theorem dX11_row_48 : decode cX11_row 48 = .ok (.iastore, 1) := by decide +kernel
theorem dX11_row_49 : decode cX11_row 49 = .ok (.iconst 0, 1) := by decide +kernel
theorem dX11_row_50 : decode cX11_row 50 = .ok (.ireturn, 1) := by decide +kernel
theorem dX11_put_0 : decode cX11_put 0 = .ok (.aload_n 0, 1) := by decide +kernel
theorem dX11_put_1 : decode cX11_put 1 = .ok (.iload_n 1, 1) := by decide +kernel
theorem dX11_put_2 : decode cX11_put 2 = .ok (.iconst 2, 1) := by decide +kernel
theorem dX11_put_3 : decode cX11_put 3 = .ok (.invokevirtual 66, 3) := by decide +kernel
theorem dX11_put_6 : decode cX11_put 6 = .ok (.istore 4, 2) := by decide +kernel
theorem dX11_put_8 : decode cX11_put 8 = .ok (.iload 4, 2) := by decide +kernel
theorem dX11_put_10 : decode cX11_put 10 = .ok (.ifCond .eq 6, 3) := by decide +kernel
theorem dX11_put_13 : decode cX11_put 13 = .ok (.iload 4, 2) := by decide +kernel
theorem dX11_put_15 : decode cX11_put 15 = .ok (.ireturn, 1) := by decide +kernel
theorem dX11_put_16 : decode cX11_put 16 = .ok (.aload_n 0, 1) := by decide +kernel
theorem dX11_put_17 : decode cX11_put 17 = .ok (.getfield 47, 3) := by decide +kernel
theorem dX11_put_20 : decode cX11_put 20 = .ok (.iload_n 1, 1) := by decide +kernel
theorem dX11_put_21 : decode cX11_put 21 = .ok (.aaload, 1) := by decide +kernel
theorem dX11_put_22 : decode cX11_put 22 = .ok (.iload_n 2, 1) := by decide +kernel
theorem dX11_put_23 : decode cX11_put 23 = .ok (.iconst 1, 1) := by decide +kernel
theorem dX11_put_24 : decode cX11_put 24 = .ok (.invokevirtual 302, 3) := by decide +kernel
theorem dX11_put_27 : decode cX11_put 27 = .ok (.ifCond .ne 6, 3) := by decide +kernel
theorem dX11_put_30 : decode cX11_put 30 = .ok (.bipush (-13), 2) := by decide +kernel
theorem dX11_put_32 : decode cX11_put 32 = .ok (.ireturn, 1) := by decide +kernel
theorem dX11_put_33 : decode cX11_put 33 = .ok (.aload_n 0, 1) := by decide +kernel
theorem dX11_put_34 : decode cX11_put 34 = .ok (.getfield 47, 3) := by decide +kernel
theorem dX11_put_37 : decode cX11_put 37 = .ok (.iload_n 1, 1) := by decide +kernel
theorem dX11_put_38 : decode cX11_put 38 = .ok (.aaload, 1) := by decide +kernel
theorem dX11_put_39 : decode cX11_put 39 = .ok (.iload_n 2, 1) := by decide +kernel
theorem dX11_put_40 : decode cX11_put 40 = .ok (.iload_n 3, 1) := by decide +kernel
theorem dX11_put_41 : decode cX11_put 41 = .ok (.invokevirtual 306, 3) := by decide +kernel
theorem dX11_put_44 : decode cX11_put 44 = .ok (.iconst 0, 1) := by decide +kernel
theorem dX11_put_45 : decode cX11_put 45 = .ok (.ireturn, 1) := by decide +kernel
def b_X11_again_153 (v1 : Int32) (v2 : Int32) (S : St) : Option ((Int32 × Int32 × St) ⊕ (Int32 × St)) := some (.inl (v1, (v2 + 1), S))
def b_X11_again_90 (v1 : Int32) (v2 : Int32) (v4 : Int32) (S : St) : Option ((Int32 × Int32 × Int32 × St) ⊕ ((Int32 × Int32 × St) ⊕ (Int32 × St))) := (if (gi S 19 0 : Int32) ≤ v4 then ((b_X11_again_153 v1 v2 S).map Sum.inr) else gd (inb v4 8) (gd (inb v4 11) (nm (if ((gi S (19 + 5) v4.toNatClampNeg) + (gi S 61 v4.toNatClampNeg) : Int32) < 9 then (gi S (19 + 5) v4.toNatClampNeg) + (gi S 61 v4.toNatClampNeg) else 9) fun m4 => nm (if ((-9) : Int32) < m4 then m4 else (-9)) fun m5 => gd (inb v4 8) (nm (si S (19 + 5) v4.toNatClampNeg m5) fun S7 => some (.inl (v1, v2, (v4 + 1), S7))))))
def l_X11_again_90 (x : (Int32 × Int32 × Int32 × St)) : Option ((Int32 × Int32 × Int32 × St) ⊕ ((Int32 × Int32 × St) ⊕ (Int32 × St))) := b_X11_again_90 x.1 x.2.1 x.2.2.1 x.2.2.2
def b_X11_again_65 (v1 : Int32) (v2 : Int32) (v3 : Int32) (S : St) : Option (Int32 × St) := (if (v1 : Int32) = 0 then some (v2, S) else some (v3, S))
def b_X11_again_24 (v1 : Int32) (v2 : Int32) (S : St) : Option ((Int32 × Int32 × St) ⊕ (Int32 × St)) := (if (40 : Int32) < v2 then some (.inr ((-4), S)) else gd (inb v2 41) (gd (cpb 0 0 (gi S 19 0) 8 8) (nm (sc S (19 + 5) (0 : Int32).toNatClampNeg (87 + 1 * v2.toNatClampNeg) (0 : Int32).toNatClampNeg (gi S 19 0).toNatClampNeg) fun S4 => (L_X11_dayBegunAlike v2 S4).bind fun r5 => (if (r5 : Int32) < 0 then (L_X2_run 19 ((-1)) S4).bind fun r7 => (lp 1000 (l_X11_again_90) (v1, v2, 0, r7)) else ((b_X11_again_65 v1 v2 r5 S4).map Sum.inr)))))
def l_X11_again_24 (x : (Int32 × Int32 × St)) : Option ((Int32 × Int32 × St) ⊕ (Int32 × St)) := b_X11_again_24 x.1 x.2.1 x.2.2
def b_X11_again_0 (v1 : Int32) (S : St) : Option (Int32 × St) := (L_X11_isOut v1 0 1 S).bind fun r1 => (if (r1 : Int32) = 0 then (L_X10_become 19 1 S).bind fun r3 => (lp 1000 (l_X11_again_24) (v1, 0, r3)) else some ((-1), S))
def L_X11_again (a1 : Int32) (S : St) : Option (Int32 × St) := b_X11_again_0 a1 S
def b_X11_count_0 (v1 : Int32) (S : St) : Option Int32 := (if (v1 : Int32) = 0 then some (gi S 1 0) else if (v1 : Int32) = 1 then some (gi S 1 6) else if (v1 : Int32) = 2 then some (gi S 1 11) else if (v1 : Int32) = 3 then gd (inb 0 3) (some (gi S (1 + 17) ((0 : Int32)).toNatClampNeg)) else if (v1 : Int32) = 4 then gd (inb 1 3) (some (gi S (1 + 17) ((1 : Int32)).toNatClampNeg)) else if (v1 : Int32) = 5 then gd (inb 2 3) (some (gi S (1 + 17) ((2 : Int32)).toNatClampNeg)) else if (v1 : Int32) = 6 then (L_X10_allCoins 1 S).bind fun r11 => some r11 else if (v1 : Int32) = 7 then (L_X10_pairsOfKin 1 S).bind fun r13 => some r13 else some ((-1)))
def L_X11_count (a1 : Int32) (S : St) : Option Int32 := b_X11_count_0 a1 S
def b_X11_row_0 (v1 : Int32) (v2 : Int32) (v3 : Int32) (S : St) : Option (Int32 × St) := (L_X11_isNoShelf v1 S).bind fun r1 => (if (r1 : Int32) = 0 then (L_X11_isOut v2 0 2 S).bind fun r3 => (if (r3 : Int32) = 0 then (if (v3 : Int32) ≤ 100 then (if (0 : Int32) ≤ v3 then gd (inb v1 8) ((L_X8_begin (70 + 2 * v1.toNatClampNeg) v2 v3 S).bind fun r8 => gd (inb v1 8) (nm (si r8 66 v1.toNatClampNeg 2) fun S10 => some (0, S10))) else some ((-14), S)) else some ((-1), S)) else some ((-1), S)) else some ((-1), S))
def L_X11_row (a1 : Int32) (a2 : Int32) (a3 : Int32) (S : St) : Option (Int32 × St) := b_X11_row_0 a1 a2 a3 S
def b_X11_put_0 (v1 : Int32) (v2 : Int32) (v3 : Int32) (S : St) : Option (Int32 × St) := (L_X11_shelfRefusal v1 2 S).bind fun r1 => (if (r1 : Int32) = 0 then gd (inb v1 8) ((L_X8_hasPlaces (70 + 2 * v1.toNatClampNeg) v2 1 S).bind fun r4 => (if (r4 : Int32) = 0 then some ((-13), S) else gd (inb v1 8) ((L_X8_write (70 + 2 * v1.toNatClampNeg) v2 v3 S).bind fun r7 => some (0, r7)))) else some (r1, S))
def L_X11_put (a1 : Int32) (a2 : Int32) (a3 : Int32) (S : St) : Option (Int32 × St) := b_X11_put_0 a1 a2 a3 S
section WALKS
variable {p : Program} {e : Env} {s : State} {m : MethodId} {args : Array Value} {below : List Frame} {meth : Method} {c : Code} {D : va_G} {ct : Nat → ClassId} {B : Nat} {Hb : Heap}
set_option maxRecDepth 100000 in
set_option maxHeartbeats 4000000 in
theorem w_X11_again_153 (l : Launch) {V : Int32 × St} (C0 : XC D ct p s m args meth c cX11_again 6 (some .int) RX11) (n0 : Nat) (ih0 : ∀ (v1 : Int32) (v2 : Int32) (S : St) (H : Heap) (locs : List Loc) (ls : Array Slot), (lp n0 (l_X11_again_24) (v1, v2, S)).bind some = some V → MP D ct B Hb S H → va_S (AB B) s.heap H locs → lv_has ls 6 [(0, .ref (B + 0)), (1, .int v1), (2, .int v2)] → W p l e { frames := 5, cells := 0, slots := 0, locals := 117 } s m args below meth c H locs 0 0 (MQ below (qIw D ct B Hb V) args s 0 0 (AB B)) (F0 m 24 ls [])) (v1 : Int32) (v2 : Int32) (S : St) {H : Heap} {locs : List Loc} {ls : Array Slot} (h : (b_X11_again_153 v1 v2 S).bind (lpF n0 (l_X11_again_24) some) = some V) (hP : MP D ct B Hb S H) (hS : va_S (AB B) s.heap H locs) (hl : lv_has ls 6 [(0, .ref (B + 0)), (1, .int v1), (2, .int v2)]) : W p l e { frames := 5, cells := 0, slots := 0, locals := 117 } s m args below meth c H locs 0 0 (MQ below (qIw D ct B Hb V) args s 0 0 (AB B)) (F0 m 153 ls []) := by
  obtain ⟨hx, hb, hr, hml, hown, hts, hK, hlocks, hN⟩ := id C0
  unfold b_X11_again_153 at h
  refine lv_iinc (v := v2 + 1) (lv' := [(2, .int (v2 + 1)), (0, .ref (B + 0)), (1, .int v1)]) hx hb dX11_again_153 hl (k := 2) rfl rfl (by decide) rfl (fun ls hl => ?_)
  refine lv_goto (tgt := 24) hx hb dX11_again_156 (by decide) ?_
  exact ih0 v1 (v2 + 1) S _ _ _ h hP hS (lv_sub hl [1, 2, 0] rfl)
set_option maxRecDepth 100000 in
set_option maxHeartbeats 4000000 in
theorem w_X11_again_90 (l : Launch) {V : Int32 × St} (C0 : XC D ct p s m args meth c cX11_again 6 (some .int) RX11) (n0 : Nat) (ih0 : ∀ (v1 : Int32) (v2 : Int32) (S : St) (H : Heap) (locs : List Loc) (ls : Array Slot), (lp n0 (l_X11_again_24) (v1, v2, S)).bind some = some V → MP D ct B Hb S H → va_S (AB B) s.heap H locs → lv_has ls 6 [(0, .ref (B + 0)), (1, .int v1), (2, .int v2)] → W p l e { frames := 5, cells := 0, slots := 0, locals := 117 } s m args below meth c H locs 0 0 (MQ below (qIw D ct B Hb V) args s 0 0 (AB B)) (F0 m 24 ls [])) (n1 : Nat) (ih1 : ∀ (v1 : Int32) (v2 : Int32) (v4 : Int32) (S : St) (H : Heap) (locs : List Loc) (ls : Array Slot), (lp n1 (l_X11_again_90) (v1, v2, v4, S)).bind (lpF n0 (l_X11_again_24) some) = some V → MP D ct B Hb S H → va_S (AB B) s.heap H locs → lv_has ls 6 [(0, .ref (B + 0)), (1, .int v1), (2, .int v2), (4, .int v4)] → W p l e { frames := 5, cells := 0, slots := 0, locals := 117 } s m args below meth c H locs 0 0 (MQ below (qIw D ct B Hb V) args s 0 0 (AB B)) (F0 m 90 ls [])) (v1 : Int32) (v2 : Int32) (v4 : Int32) (S : St) {H : Heap} {locs : List Loc} {ls : Array Slot} (h : (b_X11_again_90 v1 v2 v4 S).bind (lpF n1 (l_X11_again_90) (lpF n0 (l_X11_again_24) some)) = some V) (hP : MP D ct B Hb S H) (hS : va_S (AB B) s.heap H locs) (hl : lv_has ls 6 [(0, .ref (B + 0)), (1, .int v1), (2, .int v2), (4, .int v4)]) : W p l e { frames := 5, cells := 0, slots := 0, locals := 117 } s m args below meth c H locs 0 0 (MQ below (qIw D ct B Hb V) args s 0 0 (AB B)) (F0 m 90 ls []) := by
  obtain ⟨hx, hb, hr, hml, hown, hts, hK, hlocks, hN⟩ := id C0
  unfold b_X11_again_90 at h
  refine lv_iload hx hb dX11_again_90 (lv_at hl 3 rfl) ?_
  refine lv_aload_n hx hb dX11_again_92 rfl (lv_at hl 0 rfl) ?_
  refine x_get C0 hP (lay_X11 B ct S) rfl inG11 1 (by decide) wd_213 (fun _ h => h) rfl dX11_again_93 ?_
  refine x_get C0 hP (lay_X10 B ct S (Or.inr (Or.inl rfl))) rfl inG10 0 (by decide) wd_61 (fun _ h => h) rfl dX11_again_96 ?_
  refine lv_icmp_ge (tgt := 153) hx hb dX11_again_99 (by decide) (fun z1 => ?_) (fun z1 => ?_)
  · have h := ob_t h z1
    have h := ob_mp h
    exact w_X11_again_153 l C0 n0 ih0 v1 v2 S h hP hS (lv_sub hl [0, 1, 2] rfl)
  · have h := ob_f h z1
    refine lv_aload_n hx hb dX11_again_102 rfl (lv_at hl 0 rfl) ?_
    refine x_get C0 hP (lay_X11 B ct S) rfl inG11 1 (by decide) wd_213 (fun _ h => h) rfl dX11_again_103 ?_
    refine x_get C0 hP (lay_X10 B ct S (Or.inr (Or.inl rfl))) rfl inG10 4 (by decide) wd_72 (fun _ h => h) rfl dX11_again_106 ?_
    refine lv_iload hx hb dX11_again_109 (lv_at hl 3 rfl) ?_
    obtain ⟨g2, h⟩ := ob_gd h
    refine x_iald C0 hP ((fun S => lay_t5 B ct S (Or.inr (Or.inl rfl))) S) g2 dX11_again_111 ?_
    refine lv_aload_n hx hb dX11_again_112 rfl (lv_at hl 0 rfl) ?_
    refine x_get C0 hP (lay_X11 B ct S) rfl inG11 4 (by decide) wd_216 (fun _ h => h) rfl dX11_again_113 ?_
    refine x_get C0 hP (lay_X2 B ct S) rfl inG2 7 (by decide) wd_159 (fun _ h => h) rfl dX11_again_116 ?_
    refine lv_iload hx hb dX11_again_119 (lv_at hl 3 rfl) ?_
    obtain ⟨g3, h⟩ := ob_gd h
    refine x_iald C0 hP ((fun S => lay_61 B ct S) S) g3 dX11_again_121 ?_
    refine lv_iadd hx hb dX11_again_122 ?_
    refine lv_istore (lv' := [(5, .int ((gi S (19 + 5) v4.toNatClampNeg) + (gi S 61 v4.toNatClampNeg))), (0, .ref (B + 0)), (1, .int v1), (2, .int v2), (4, .int v4)]) hx hb dX11_again_123 hl (by decide) rfl (fun ls hl => ?_)
    refine lv_aload_n hx hb dX11_again_125 rfl (lv_at hl 1 rfl) ?_
    refine x_get C0 hP (lay_X11 B ct S) rfl inG11 1 (by decide) wd_213 (fun _ h => h) rfl dX11_again_126 ?_
    refine x_get C0 hP (lay_X10 B ct S (Or.inr (Or.inl rfl))) rfl inG10 4 (by decide) wd_72 (fun _ h => h) rfl dX11_again_129 ?_
    refine lv_iload hx hb dX11_again_132 (lv_at hl 4 rfl) ?_
    refine lv_bipush (v := (-9)) hx hb dX11_again_134 (by decide) ?_
    refine lv_bipush (v := 9) hx hb dX11_again_136 (by decide) ?_
    refine lv_iload hx hb dX11_again_138 (lv_at hl 0 rfl) ?_
    refine x_min C0 hl.1 ⟨wd_940, wd_634, wd_18, wd_635⟩ (Nat.le_of_ble_eq_true rfl) (Nat.le_of_ble_eq_true rfl) ⟨Nat.le_of_ble_eq_true rfl, Nat.le_of_ble_eq_true rfl⟩ dX11_again_140 ?_
    obtain ⟨m4, em4, h⟩ := ob_nm h
    rw [← em4]
    refine x_max C0 hl.1 ⟨wd_856, wd_709, wd_18, wd_710⟩ (Nat.le_of_ble_eq_true rfl) (Nat.le_of_ble_eq_true rfl) ⟨Nat.le_of_ble_eq_true rfl, Nat.le_of_ble_eq_true rfl⟩ dX11_again_143 ?_
    obtain ⟨m5, em5, h⟩ := ob_nm h
    rw [← em5]
    obtain ⟨g6, h⟩ := ob_gd h
    obtain ⟨S7, eS7, h⟩ := ob_nm h
    refine x_iast C0 hP hS (fun S => lay_t5 B ct S (Or.inr (Or.inl rfl))) g6 dX11_again_146 (fun H locs hP hS => ?_)
    rw [← eS7] at hP
    refine lv_iinc (v := v4 + 1) (lv' := [(4, .int (v4 + 1)), (5, .int ((gi S (19 + 5) v4.toNatClampNeg) + (gi S 61 v4.toNatClampNeg))), (0, .ref (B + 0)), (1, .int v1), (2, .int v2)]) hx hb dX11_again_147 hl (k := 4) rfl rfl (by decide) rfl (fun ls hl => ?_)
    refine lv_goto (tgt := 90) hx hb dX11_again_150 (by decide) ?_
    exact ih1 v1 v2 (v4 + 1) S7 _ _ _ h hP hS (lv_sub hl [2, 3, 4, 0] rfl)
set_option maxRecDepth 100000 in
set_option maxHeartbeats 4000000 in
theorem wl_X11_again_90 (l : Launch) {V : Int32 × St} (C0 : XC D ct p s m args meth c cX11_again 6 (some .int) RX11) (n0 : Nat) (ih0 : ∀ (v1 : Int32) (v2 : Int32) (S : St) (H : Heap) (locs : List Loc) (ls : Array Slot), (lp n0 (l_X11_again_24) (v1, v2, S)).bind some = some V → MP D ct B Hb S H → va_S (AB B) s.heap H locs → lv_has ls 6 [(0, .ref (B + 0)), (1, .int v1), (2, .int v2)] → W p l e { frames := 5, cells := 0, slots := 0, locals := 117 } s m args below meth c H locs 0 0 (MQ below (qIw D ct B Hb V) args s 0 0 (AB B)) (F0 m 24 ls []))  : ∀ (n1 : Nat) (v1 : Int32) (v2 : Int32) (v4 : Int32) (S : St) {H : Heap} {locs : List Loc} {ls : Array Slot}, (lp n1 (l_X11_again_90) (v1, v2, v4, S)).bind (lpF n0 (l_X11_again_24) some) = some V → MP D ct B Hb S H → va_S (AB B) s.heap H locs → lv_has ls 6 [(0, .ref (B + 0)), (1, .int v1), (2, .int v2), (4, .int v4)] → W p l e { frames := 5, cells := 0, slots := 0, locals := 117 } s m args below meth c H locs 0 0 (MQ below (qIw D ct B Hb V) args s 0 0 (AB B)) (F0 m 90 ls []) := by
  intro n1
  induction n1 with
  | zero =>
    intro v1 v2 v4 S H locs ls h hP hS hl
    exact (lp_0 h).elim
  | succ n1 ih1 =>
    intro v1 v2 v4 S H locs ls h hP hS hl
    have h := lp_s h
    exact w_X11_again_90 l C0 n0 ih0 n1 (fun v1 v2 v4 S H locs ls h hP hS hl => ih1 v1 v2 v4 S h hP hS hl) v1 v2 v4 S h hP hS hl
set_option maxRecDepth 100000 in
set_option maxHeartbeats 4000000 in
theorem w_X11_again_65 (l : Launch) {V : Int32 × St} (C0 : XC D ct p s m args meth c cX11_again 6 (some .int) RX11) (v1 : Int32) (v2 : Int32) (v3 : Int32) (S : St) {H : Heap} {locs : List Loc} {ls : Array Slot} (h : (b_X11_again_65 v1 v2 v3 S).bind some = some V) (hP : MP D ct B Hb S H) (hS : va_S (AB B) s.heap H locs) (hl : lv_has ls 6 [(1, .int v1), (2, .int v2), (3, .int v3)]) : W p l e { frames := 5, cells := 0, slots := 0, locals := 117 } s m args below meth c H locs 0 0 (MQ below (qIw D ct B Hb V) args s 0 0 (AB B)) (F0 m 65 ls []) := by
  obtain ⟨hx, hb, hr, hml, hown, hts, hK, hlocks, hN⟩ := id C0
  unfold b_X11_again_65 at h
  refine lv_iload_n hx hb dX11_again_65 rfl (lv_at hl 0 rfl) ?_
  refine lv_if_ne (tgt := 73) hx hb dX11_again_66 (by decide) (fun z1 => ?_) (fun z1 => ?_)
  · have h := ob_f h z1
    refine lv_iload_n hx hb dX11_again_73 rfl (lv_at hl 2 rfl) ?_
    exact r_Iw C0 hP hS h dX11_again_74
  · have h := ob_t h z1
    refine lv_iload_n hx hb dX11_again_69 rfl (lv_at hl 1 rfl) ?_
    refine lv_goto (tgt := 74) hx hb dX11_again_70 (by decide) ?_
    exact r_Iw C0 hP hS h dX11_again_74
set_option maxRecDepth 100000 in
set_option maxHeartbeats 4000000 in
theorem w_X11_again_24 (l : Launch) {V : Int32 × St} (C0 : XC D ct p s m args meth c cX11_again 6 (some .int) RX11) (n0 : Nat) (ih0 : ∀ (v1 : Int32) (v2 : Int32) (S : St) (H : Heap) (locs : List Loc) (ls : Array Slot), (lp n0 (l_X11_again_24) (v1, v2, S)).bind some = some V → MP D ct B Hb S H → va_S (AB B) s.heap H locs → lv_has ls 6 [(0, .ref (B + 0)), (1, .int v1), (2, .int v2)] → W p l e { frames := 5, cells := 0, slots := 0, locals := 117 } s m args below meth c H locs 0 0 (MQ below (qIw D ct B Hb V) args s 0 0 (AB B)) (F0 m 24 ls [])) (v1 : Int32) (v2 : Int32) (S : St) {H : Heap} {locs : List Loc} {ls : Array Slot} (h : (b_X11_again_24 v1 v2 S).bind (lpF n0 (l_X11_again_24) some) = some V) (hP : MP D ct B Hb S H) (hS : va_S (AB B) s.heap H locs) (hl : lv_has ls 6 [(0, .ref (B + 0)), (1, .int v1), (2, .int v2)]) : W p l e { frames := 5, cells := 0, slots := 0, locals := 117 } s m args below meth c H locs 0 0 (MQ below (qIw D ct B Hb V) args s 0 0 (AB B)) (F0 m 24 ls []) := by
  obtain ⟨hx, hb, hr, hml, hown, hts, hK, hlocks, hN⟩ := id C0
  unfold b_X11_again_24 at h
  refine lv_iload_n hx hb dX11_again_24 rfl (lv_at hl 2 rfl) ?_
  refine lv_bipush (v := 40) hx hb dX11_again_25 (by decide) ?_
  refine lv_icmp_gt (tgt := 159) hx hb dX11_again_27 (by decide) (fun z1 => ?_) (fun z1 => ?_)
  · have h := ob_t h z1
    refine lv_bipush (v := (-4)) hx hb dX11_again_159 (by decide) ?_
    exact r_Iw C0 hP hS h dX11_again_161
  · have h := ob_f h z1
    refine lv_aload_n hx hb dX11_again_30 rfl (lv_at hl 0 rfl) ?_
    refine x_get C0 hP (lay_X11 B ct S) rfl inG11 1 (by decide) wd_213 (fun _ h => h) rfl dX11_again_31 ?_
    refine x_get C0 hP (lay_X10 B ct S (Or.inr (Or.inl rfl))) rfl inG10 4 (by decide) wd_72 (fun _ h => h) rfl dX11_again_34 ?_
    refine lv_iconst (v := 0) hx hb dX11_again_37 (by decide) ?_
    refine lv_aload_n hx hb dX11_again_38 rfl (lv_at hl 0 rfl) ?_
    refine x_get C0 hP (lay_X11 B ct S) rfl inG11 8 (by decide) wd_220 (fun _ h => h) rfl dX11_again_39 ?_
    refine lv_iload_n hx hb dX11_again_42 rfl (lv_at hl 2 rfl) ?_
    obtain ⟨g2, h⟩ := ob_gd h
    refine x_aald (v := .ref (B + (87 + 1 * v2.toNatClampNeg))) C0 hP (lay_86 B ct S) rfl rfl g2 rfl dX11_again_43 ?_
    refine lv_iconst (v := 0) hx hb dX11_again_44 (by decide) ?_
    refine lv_aload_n hx hb dX11_again_45 rfl (lv_at hl 0 rfl) ?_
    refine x_get C0 hP (lay_X11 B ct S) rfl inG11 1 (by decide) wd_213 (fun _ h => h) rfl dX11_again_46 ?_
    refine x_get C0 hP (lay_X10 B ct S (Or.inr (Or.inl rfl))) rfl inG10 0 (by decide) wd_61 (fun _ h => h) rfl dX11_again_49 ?_
    obtain ⟨g3, h⟩ := ob_gd h
    obtain ⟨S4, eS4, h⟩ := ob_nm h
    refine x_copyi C0 hP hS hl.1 ⟨wd_935, wd_493, wd_492, wd_13⟩ (fun S => lay_t5 B ct S (Or.inr (Or.inl rfl))) (fun S => lay_beg B ct S (inb_lt g2)) g3 (Nat.le_of_ble_eq_true rfl) (Nat.le_trans (Nat.add_le_add_left cpy_room _) (Nat.le_of_ble_eq_true rfl)) dX11_again_52 (fun H locs hP hS => ?_)
    rw [← eS4] at hP
    refine lv_aload_n hx hb dX11_again_55 rfl (lv_at hl 0 rfl) ?_
    refine lv_iload_n hx hb dX11_again_56 rfl (lv_at hl 2 rfl) ?_
    obtain ⟨r5, hr5, h⟩ := ob_bd h
    refine n_I (kV (As := [.int v2]) C0 (c_X11_dayBegunAlike l v2 hr5) ⟨wd_939, wd_936, wd_938, wp_19, wd_1⟩ kd_X11_dayBegunAlike ⟨Nat.le_of_ble_eq_true rfl, Nat.le_of_ble_eq_true rfl⟩ hP (lay_X11 B ct S4) rfl rfl hl.1 rfl (Nat.le_of_ble_eq_true rfl) dX11_again_57 ⟨Nat.le_of_ble_eq_true rfl, Nat.le_of_ble_eq_true rfl⟩) hS (fun H locs hP hS => ?_)
    refine lv_istore_n (lv' := [(3, .int r5), (0, .ref (B + 0)), (1, .int v1), (2, .int v2)]) hx hb dX11_again_60 rfl hl (by decide) rfl (fun ls hl => ?_)
    refine lv_iload_n hx hb dX11_again_61 rfl (lv_at hl 0 rfl) ?_
    refine lv_if_lt (tgt := 75) hx hb dX11_again_62 (by decide) (fun z6 => ?_) (fun z6 => ?_)
    · have h := ob_t h z6
      refine lv_aload_n hx hb dX11_again_75 rfl (lv_at hl 1 rfl) ?_
      refine x_get C0 hP (lay_X11 B ct S4) rfl inG11 4 (by decide) wd_216 (fun _ h => h) rfl dX11_again_76 ?_
      refine lv_aload_n hx hb dX11_again_79 rfl (lv_at hl 1 rfl) ?_
      refine x_get C0 hP (lay_X11 B ct S4) rfl inG11 1 (by decide) wd_213 (fun _ h => h) rfl dX11_again_80 ?_
      refine lv_iconst (v := (-1)) hx hb dX11_again_83 (by decide) ?_
      obtain ⟨r7, hr7, h⟩ := ob_bd h
      refine n_Vw (kV (As := [.ref (B + 19), .int ((-1))]) C0 (c_X2_run l 19 (Or.inr (Or.inl rfl)) ((-1)) hr7) ⟨wd_624, wd_621, wd_622, wd_623, wd_4⟩ kd_X2_run ⟨Nat.le_of_ble_eq_true rfl, Nat.le_of_ble_eq_true rfl⟩ hP (lay_X2 B ct S4) rfl rfl hl.1 rfl (Nat.le_of_ble_eq_true rfl) dX11_again_84 ⟨Nat.le_of_ble_eq_true rfl, Nat.le_of_ble_eq_true rfl⟩) hS (fun H locs hP hS => ?_)
      refine lv_iconst (v := 0) hx hb dX11_again_87 (by decide) ?_
      refine lv_istore (lv' := [(4, .int 0), (3, .int r5), (0, .ref (B + 0)), (1, .int v1), (2, .int v2)]) hx hb dX11_again_88 hl (by decide) rfl (fun ls hl => ?_)
      exact wl_X11_again_90 l C0 n0 ih0 1000 v1 v2 0 r7 h hP hS (lv_sub hl [2, 3, 4, 0] rfl)
    · have h := ob_f h z6
      have h := ob_mp h
      exact w_X11_again_65 l C0 v1 v2 r5 S4 h hP hS (lv_sub hl [2, 3, 0] rfl)
set_option maxRecDepth 100000 in
set_option maxHeartbeats 4000000 in
theorem wl_X11_again_24 (l : Launch) {V : Int32 × St} (C0 : XC D ct p s m args meth c cX11_again 6 (some .int) RX11)  : ∀ (n0 : Nat) (v1 : Int32) (v2 : Int32) (S : St) {H : Heap} {locs : List Loc} {ls : Array Slot}, (lp n0 (l_X11_again_24) (v1, v2, S)).bind some = some V → MP D ct B Hb S H → va_S (AB B) s.heap H locs → lv_has ls 6 [(0, .ref (B + 0)), (1, .int v1), (2, .int v2)] → W p l e { frames := 5, cells := 0, slots := 0, locals := 117 } s m args below meth c H locs 0 0 (MQ below (qIw D ct B Hb V) args s 0 0 (AB B)) (F0 m 24 ls []) := by
  intro n0
  induction n0 with
  | zero =>
    intro v1 v2 S H locs ls h hP hS hl
    exact (lp_0 h).elim
  | succ n0 ih0 =>
    intro v1 v2 S H locs ls h hP hS hl
    have h := lp_s h
    exact w_X11_again_24 l C0 n0 (fun v1 v2 S H locs ls h hP hS hl => ih0 v1 v2 S h hP hS hl) v1 v2 S h hP hS hl
set_option maxRecDepth 100000 in
set_option maxHeartbeats 4000000 in
theorem w_X11_again_0 (l : Launch) {V : Int32 × St} (C0 : XC D ct p s m args meth c cX11_again 6 (some .int) RX11) (v1 : Int32) (S : St) {H : Heap} {locs : List Loc} {ls : Array Slot} (h : (b_X11_again_0 v1 S).bind some = some V) (hP : MP D ct B Hb S H) (hS : va_S (AB B) s.heap H locs) (hl : lv_has ls 6 [(0, .ref (B + 0)), (1, .int v1)]) : W p l e { frames := 5, cells := 0, slots := 0, locals := 117 } s m args below meth c H locs 0 0 (MQ below (qIw D ct B Hb V) args s 0 0 (AB B)) (F0 m 0 ls []) := by
  obtain ⟨hx, hb, hr, hml, hown, hts, hK, hlocks, hN⟩ := id C0
  unfold b_X11_again_0 at h
  refine lv_iload_n hx hb dX11_again_0 rfl (lv_at hl 1 rfl) ?_
  refine lv_iconst (v := 0) hx hb dX11_again_1 (by decide) ?_
  refine lv_iconst (v := 1) hx hb dX11_again_2 (by decide) ?_
  obtain ⟨r1, hr1, h⟩ := ob_bd h
  refine n_I (kS (As := [.int v1, .int 0, .int 1]) C0 (c_X11_isOut l v1 0 1 hr1) ⟨wd_338, wd_347, wd_337, wd_1⟩ kd_X11_isOut ⟨Nat.le_of_ble_eq_true rfl, Nat.le_of_ble_eq_true rfl⟩ hP rfl hl.1 rfl (Nat.le_of_ble_eq_true rfl) dX11_again_3 ⟨Nat.le_of_ble_eq_true rfl, Nat.le_of_ble_eq_true rfl⟩) hS (fun H locs hP hS => ?_)
  refine lv_if_eq (tgt := 11) hx hb dX11_again_6 (by decide) (fun z2 => ?_) (fun z2 => ?_)
  · have h := ob_t h z2
    refine lv_aload_n hx hb dX11_again_11 rfl (lv_at hl 0 rfl) ?_
    refine x_get C0 hP (lay_X11 B ct S) rfl inG11 1 (by decide) wd_213 (fun _ h => h) rfl dX11_again_12 ?_
    refine lv_aload_n hx hb dX11_again_15 rfl (lv_at hl 0 rfl) ?_
    refine x_get C0 hP (lay_X11 B ct S) rfl inG11 0 (by decide) wd_212 (fun _ h => h) rfl dX11_again_16 ?_
    obtain ⟨r3, hr3, h⟩ := ob_bd h
    refine n_Vw (kV (As := [.ref (B + 1)]) C0 (c_X10_become l 19 1 (Or.inr (Or.inl rfl)) (Or.inl rfl) hr3) ⟨wd_490, wd_487, wd_488, wd_489, wd_2⟩ kd_X10_become ⟨Nat.le_of_ble_eq_true rfl, Nat.le_of_ble_eq_true rfl⟩ hP (lay_X10 B ct S (Or.inr (Or.inl rfl))) rfl rfl hl.1 rfl (Nat.le_of_ble_eq_true rfl) dX11_again_19 ⟨Nat.le_of_ble_eq_true rfl, Nat.le_of_ble_eq_true rfl⟩) hS (fun H locs hP hS => ?_)
    refine lv_iconst (v := 0) hx hb dX11_again_22 (by decide) ?_
    refine lv_istore_n (lv' := [(2, .int 0), (0, .ref (B + 0)), (1, .int v1)]) hx hb dX11_again_23 rfl hl (by decide) rfl (fun ls hl => ?_)
    exact wl_X11_again_24 l C0 1000 v1 0 r3 h hP hS (lv_sub hl [1, 2, 0] rfl)
  · have h := ob_f h z2
    refine lv_iconst (v := (-1)) hx hb dX11_again_9 (by decide) ?_
    exact r_Iw C0 hP hS h dX11_again_10
set_option maxRecDepth 100000 in
set_option maxHeartbeats 4000000 in
theorem c_X11_again (l : Launch) (a1 : Int32) {D : va_G} {ct : Nat → ClassId} {B : Nat} {Hb : Heap} {S : St} {V : Int32 × St} (h : L_X11_again a1 S = some V) : Met l yX11_again (Cond.code yX11_again cX11_again 6 (some .int) :: tG) { frames := 5, cells := 0, slots := 0, locals := 117 } (va_Pc [.ref (B + 0), .int a1] (MPK D ct B Hb S)) (qIw D ct B Hb V) 0 0 (AB B) := by
  refine mk_met (by decide +kernel) (Nat.le_of_ble_eq_true rfl) (fun p e s m args below meth c ls C0 hP hl _ => ?_)
  have h := ob_of h
  exact w_X11_again_0 l C0 a1 S h hP va_S.rf (lv_sub hl [0, 1] rfl)
set_option maxRecDepth 100000 in
set_option maxHeartbeats 4000000 in
theorem w_X11_count_0 (l : Launch) {V : Int32} (C0 : XC D ct p s m args meth c cX11_count 2 (some .int) RX11) (v1 : Int32) (S : St) {H : Heap} {locs : List Loc} {ls : Array Slot} (h : (b_X11_count_0 v1 S).bind some = some V) (hP : MP D ct B Hb S H) (hS : va_S (AB B) s.heap H locs) (hl : lv_has ls 2 [(0, .ref (B + 0)), (1, .int v1)]) : W p l e { frames := 2, cells := 0, slots := 0, locals := 45 } s m args below meth c H locs 0 0 (MQ below (qI D ct B Hb S V) args s 0 0 (AB B)) (F0 m 0 ls []) := by
  obtain ⟨hx, hb, hr, hml, hown, hts, hK, hlocks, hN⟩ := id C0
  unfold b_X11_count_0 at h
  refine lv_iload_n hx hb dX11_count_0 rfl (lv_at hl 1 rfl) ?_
  rcases Decidable.em ((v1 : Int32) = 0) with z1 | z1
  · have h := ob_t h z1
    refine lv_tableIn (x := v1) (off := 47) (tgt := 48) hx hb dX11_count_1 (by rw [z1]; decide) (by rw [z1]; decide) (by rw [z1]; decide) (by decide) ?_
    refine lv_aload_n hx hb dX11_count_48 rfl (lv_at hl 0 rfl) ?_
    refine x_get C0 hP (lay_X11 B ct S) rfl inG11 0 (by decide) wd_212 (fun _ h => h) rfl dX11_count_49 ?_
    refine x_get C0 hP (lay_X10 B ct S (Or.inl rfl)) rfl inG10 0 (by decide) wd_61 (fun _ h => h) rfl dX11_count_52 ?_
    exact r_I C0 hP hS h dX11_count_55
  · have h := ob_f h z1
    rcases Decidable.em ((v1 : Int32) = 1) with z2 | z2
    · have h := ob_t h z2
      refine lv_tableIn (x := v1) (off := 55) (tgt := 56) hx hb dX11_count_1 (by rw [z2]; decide) (by rw [z2]; decide) (by rw [z2]; decide) (by decide) ?_
      refine lv_aload_n hx hb dX11_count_56 rfl (lv_at hl 0 rfl) ?_
      refine x_get C0 hP (lay_X11 B ct S) rfl inG11 0 (by decide) wd_212 (fun _ h => h) rfl dX11_count_57 ?_
      refine x_get C0 hP (lay_X10 B ct S (Or.inl rfl)) rfl inG10 6 (by decide) wd_78 (fun _ h => h) rfl dX11_count_60 ?_
      exact r_I C0 hP hS h dX11_count_63
    · have h := ob_f h z2
      rcases Decidable.em ((v1 : Int32) = 2) with z3 | z3
      · have h := ob_t h z3
        refine lv_tableIn (x := v1) (off := 63) (tgt := 64) hx hb dX11_count_1 (by rw [z3]; decide) (by rw [z3]; decide) (by rw [z3]; decide) (by decide) ?_
        refine lv_aload_n hx hb dX11_count_64 rfl (lv_at hl 0 rfl) ?_
        refine x_get C0 hP (lay_X11 B ct S) rfl inG11 0 (by decide) wd_212 (fun _ h => h) rfl dX11_count_65 ?_
        refine x_get C0 hP (lay_X10 B ct S (Or.inl rfl)) rfl inG10 11 (by decide) wd_86 (fun _ h => h) rfl dX11_count_68 ?_
        exact r_I C0 hP hS h dX11_count_71
      · have h := ob_f h z3
        rcases Decidable.em ((v1 : Int32) = 3) with z4 | z4
        · have h := ob_t h z4
          refine lv_tableIn (x := v1) (off := 71) (tgt := 72) hx hb dX11_count_1 (by rw [z4]; decide) (by rw [z4]; decide) (by rw [z4]; decide) (by decide) ?_
          refine lv_aload_n hx hb dX11_count_72 rfl (lv_at hl 0 rfl) ?_
          refine x_get C0 hP (lay_X11 B ct S) rfl inG11 0 (by decide) wd_212 (fun _ h => h) rfl dX11_count_73 ?_
          refine x_get C0 hP (lay_X10 B ct S (Or.inl rfl)) rfl inG10 18 (by decide) wd_102 (fun _ h => h) rfl dX11_count_76 ?_
          refine lv_iconst (v := 0) hx hb dX11_count_79 (by decide) ?_
          obtain ⟨g5, h⟩ := ob_gd h
          refine x_iald C0 hP ((fun S => lay_t17 B ct S (Or.inl rfl)) S) g5 dX11_count_80 ?_
          exact r_I C0 hP hS h dX11_count_81
        · have h := ob_f h z4
          rcases Decidable.em ((v1 : Int32) = 4) with z6 | z6
          · have h := ob_t h z6
            refine lv_tableIn (x := v1) (off := 81) (tgt := 82) hx hb dX11_count_1 (by rw [z6]; decide) (by rw [z6]; decide) (by rw [z6]; decide) (by decide) ?_
            refine lv_aload_n hx hb dX11_count_82 rfl (lv_at hl 0 rfl) ?_
            refine x_get C0 hP (lay_X11 B ct S) rfl inG11 0 (by decide) wd_212 (fun _ h => h) rfl dX11_count_83 ?_
            refine x_get C0 hP (lay_X10 B ct S (Or.inl rfl)) rfl inG10 18 (by decide) wd_102 (fun _ h => h) rfl dX11_count_86 ?_
            refine lv_iconst (v := 1) hx hb dX11_count_89 (by decide) ?_
            obtain ⟨g7, h⟩ := ob_gd h
            refine x_iald C0 hP ((fun S => lay_t17 B ct S (Or.inl rfl)) S) g7 dX11_count_90 ?_
            exact r_I C0 hP hS h dX11_count_91
          · have h := ob_f h z6
            rcases Decidable.em ((v1 : Int32) = 5) with z8 | z8
            · have h := ob_t h z8
              refine lv_tableIn (x := v1) (off := 91) (tgt := 92) hx hb dX11_count_1 (by rw [z8]; decide) (by rw [z8]; decide) (by rw [z8]; decide) (by decide) ?_
              refine lv_aload_n hx hb dX11_count_92 rfl (lv_at hl 0 rfl) ?_
              refine x_get C0 hP (lay_X11 B ct S) rfl inG11 0 (by decide) wd_212 (fun _ h => h) rfl dX11_count_93 ?_
              refine x_get C0 hP (lay_X10 B ct S (Or.inl rfl)) rfl inG10 18 (by decide) wd_102 (fun _ h => h) rfl dX11_count_96 ?_
              refine lv_iconst (v := 2) hx hb dX11_count_99 (by decide) ?_
              obtain ⟨g9, h⟩ := ob_gd h
              refine x_iald C0 hP ((fun S => lay_t17 B ct S (Or.inl rfl)) S) g9 dX11_count_100 ?_
              exact r_I C0 hP hS h dX11_count_101
            · have h := ob_f h z8
              rcases Decidable.em ((v1 : Int32) = 6) with z10 | z10
              · have h := ob_t h z10
                refine lv_tableIn (x := v1) (off := 101) (tgt := 102) hx hb dX11_count_1 (by rw [z10]; decide) (by rw [z10]; decide) (by rw [z10]; decide) (by decide) ?_
                refine lv_aload_n hx hb dX11_count_102 rfl (lv_at hl 0 rfl) ?_
                refine x_get C0 hP (lay_X11 B ct S) rfl inG11 0 (by decide) wd_212 (fun _ h => h) rfl dX11_count_103 ?_
                obtain ⟨r11, hr11, h⟩ := ob_bd h
                refine n_I (kV (As := []) C0 (c_X10_allCoins l 1 (Or.inl rfl) hr11) ⟨wd_608, wd_605, wd_606, wd_607, wd_2⟩ kd_X10_allCoins ⟨Nat.le_of_ble_eq_true rfl, Nat.le_of_ble_eq_true rfl⟩ hP (lay_X10 B ct S (Or.inl rfl)) rfl rfl hl.1 rfl (Nat.le_of_ble_eq_true rfl) dX11_count_106 ⟨Nat.le_of_ble_eq_true rfl, Nat.le_of_ble_eq_true rfl⟩) hS (fun H locs hP hS => ?_)
                exact r_I C0 hP hS h dX11_count_109
              · have h := ob_f h z10
                rcases Decidable.em ((v1 : Int32) = 7) with z12 | z12
                · have h := ob_t h z12
                  refine lv_tableIn (x := v1) (off := 109) (tgt := 110) hx hb dX11_count_1 (by rw [z12]; decide) (by rw [z12]; decide) (by rw [z12]; decide) (by decide) ?_
                  refine lv_aload_n hx hb dX11_count_110 rfl (lv_at hl 0 rfl) ?_
                  refine x_get C0 hP (lay_X11 B ct S) rfl inG11 0 (by decide) wd_212 (fun _ h => h) rfl dX11_count_111 ?_
                  obtain ⟨r13, hr13, h⟩ := ob_bd h
                  refine n_I (kV (As := []) C0 (c_X10_pairsOfKin l 1 (Or.inl rfl) hr13) ⟨wd_612, wd_609, wd_610, wd_611, wd_2⟩ kd_X10_pairsOfKin ⟨Nat.le_of_ble_eq_true rfl, Nat.le_of_ble_eq_true rfl⟩ hP (lay_X10 B ct S (Or.inl rfl)) rfl rfl hl.1 rfl (Nat.le_of_ble_eq_true rfl) dX11_count_114 ⟨Nat.le_of_ble_eq_true rfl, Nat.le_of_ble_eq_true rfl⟩) hS (fun H locs hP hS => ?_)
                  exact r_I C0 hP hS h dX11_count_117
                · have h := ob_f h z12
                  refine lv_tableOut (x := v1) (tgt := 118) hx hb dX11_count_1 (sw_0_8 z1 z2 z3 z4 z6 z8 z10 z12) (by decide) ?_
                  refine lv_iconst (v := (-1)) hx hb dX11_count_118 (by decide) ?_
                  exact r_I C0 hP hS h dX11_count_119
set_option maxRecDepth 100000 in
set_option maxHeartbeats 4000000 in
theorem c_X11_count (l : Launch) (a1 : Int32) {D : va_G} {ct : Nat → ClassId} {B : Nat} {Hb : Heap} {S : St} {V : Int32} (h : L_X11_count a1 S = some V) : Met l yX11_count (Cond.code yX11_count cX11_count 2 (some .int) :: tG) { frames := 2, cells := 0, slots := 0, locals := 45 } (va_Pc [.ref (B + 0), .int a1] (MPK D ct B Hb S)) (qI D ct B Hb S V) 0 0 (AB B) := by
  refine mk_met (by decide +kernel) (Nat.le_of_ble_eq_true rfl) (fun p e s m args below meth c ls C0 hP hl _ => ?_)
  have h := ob_of h
  exact w_X11_count_0 l C0 a1 S h hP va_S.rf (lv_sub hl [0, 1] rfl)
set_option maxRecDepth 100000 in
set_option maxHeartbeats 4000000 in
theorem w_X11_row_0 (l : Launch) {V : Int32 × St} (C0 : XC D ct p s m args meth c cX11_row 4 (some .int) RX11) (v1 : Int32) (v2 : Int32) (v3 : Int32) (S : St) {H : Heap} {locs : List Loc} {ls : Array Slot} (h : (b_X11_row_0 v1 v2 v3 S).bind some = some V) (hP : MP D ct B Hb S H) (hS : va_S (AB B) s.heap H locs) (hl : lv_has ls 4 [(0, .ref (B + 0)), (1, .int v1), (2, .int v2), (3, .int v3)]) : W p l e { frames := 1, cells := 0, slots := 0, locals := 23 } s m args below meth c H locs 0 0 (MQ below (qIw D ct B Hb V) args s 0 0 (AB B)) (F0 m 0 ls []) := by
  obtain ⟨hx, hb, hr, hml, hown, hts, hK, hlocks, hN⟩ := id C0
  unfold b_X11_row_0 at h
  refine lv_iload_n hx hb dX11_row_0 rfl (lv_at hl 1 rfl) ?_
  obtain ⟨r1, hr1, h⟩ := ob_bd h
  refine n_I (kS (As := [.int v1]) C0 (c_X11_isNoShelf l v1 hr1) ⟨wd_354, wd_352, wd_353, wd_1⟩ kd_X11_isNoShelf ⟨Nat.le_of_ble_eq_true rfl, Nat.le_of_ble_eq_true rfl⟩ hP rfl hl.1 rfl (Nat.le_of_ble_eq_true rfl) dX11_row_1 ⟨Nat.le_of_ble_eq_true rfl, Nat.le_of_ble_eq_true rfl⟩) hS (fun H locs hP hS => ?_)
  refine lv_if_ne (tgt := 22) hx hb dX11_row_4 (by decide) (fun z2 => ?_) (fun z2 => ?_)
  · have h := ob_f h z2
    refine lv_iconst (v := (-1)) hx hb dX11_row_22 (by decide) ?_
    exact r_Iw C0 hP hS h dX11_row_23
  · have h := ob_t h z2
    refine lv_iload_n hx hb dX11_row_7 rfl (lv_at hl 2 rfl) ?_
    refine lv_iconst (v := 0) hx hb dX11_row_8 (by decide) ?_
    refine lv_iconst (v := 2) hx hb dX11_row_9 (by decide) ?_
    obtain ⟨r3, hr3, h⟩ := ob_bd h
    refine n_I (kS (As := [.int v2, .int 0, .int 2]) C0 (c_X11_isOut l v2 0 2 hr3) ⟨wd_338, wd_347, wd_337, wd_1⟩ kd_X11_isOut ⟨Nat.le_of_ble_eq_true rfl, Nat.le_of_ble_eq_true rfl⟩ hP rfl hl.1 rfl (Nat.le_of_ble_eq_true rfl) dX11_row_10 ⟨Nat.le_of_ble_eq_true rfl, Nat.le_of_ble_eq_true rfl⟩) hS (fun H locs hP hS => ?_)
    refine lv_if_ne (tgt := 22) hx hb dX11_row_13 (by decide) (fun z4 => ?_) (fun z4 => ?_)
    · have h := ob_f h z4
      refine lv_iconst (v := (-1)) hx hb dX11_row_22 (by decide) ?_
      exact r_Iw C0 hP hS h dX11_row_23
    · have h := ob_t h z4
      refine lv_iload_n hx hb dX11_row_16 rfl (lv_at hl 3 rfl) ?_
      refine lv_bipush (v := 100) hx hb dX11_row_17 (by decide) ?_
      refine lv_icmp_le (tgt := 24) hx hb dX11_row_19 (by decide) (fun z5 => ?_) (fun z5 => ?_)
      · have h := ob_t h z5
        refine lv_iload_n hx hb dX11_row_24 rfl (lv_at hl 3 rfl) ?_
        refine lv_if_ge (tgt := 31) hx hb dX11_row_25 (by decide) (fun z6 => ?_) (fun z6 => ?_)
        · have h := ob_t h z6
          refine lv_aload_n hx hb dX11_row_31 rfl (lv_at hl 0 rfl) ?_
          refine x_get C0 hP (lay_X11 B ct S) rfl inG11 7 (by decide) wd_219 (fun _ h => h) rfl dX11_row_32 ?_
          refine lv_iload_n hx hb dX11_row_35 rfl (lv_at hl 1 rfl) ?_
          obtain ⟨g7, h⟩ := ob_gd h
          refine x_aald (v := .ref (B + (70 + 2 * v1.toNatClampNeg))) C0 hP (lay_68 B ct S) rfl rfl g7 rfl dX11_row_36 ?_
          refine lv_iload_n hx hb dX11_row_37 rfl (lv_at hl 2 rfl) ?_
          refine lv_iload_n hx hb dX11_row_38 rfl (lv_at hl 3 rfl) ?_
          obtain ⟨r8, hr8, h⟩ := ob_bd h
          refine n_Vw (kV (As := [.int v2, .int v3]) C0 (c_X8_begin l (70 + 2 * v1.toNatClampNeg) (isRow_of g7) v2 v3 hr8) ⟨wd_469, wd_466, wd_467, wd_468, wd_5⟩ kd_X8_begin ⟨Nat.le_of_ble_eq_true rfl, Nat.le_of_ble_eq_true rfl⟩ hP (lay_X8 B ct S (isRow_of g7)) rfl rfl hl.1 rfl (Nat.le_of_ble_eq_true rfl) dX11_row_39 ⟨Nat.le_of_ble_eq_true rfl, Nat.le_of_ble_eq_true rfl⟩) hS (fun H locs hP hS => ?_)
          refine lv_aload_n hx hb dX11_row_42 rfl (lv_at hl 0 rfl) ?_
          refine x_get C0 hP (lay_X11 B ct r8) rfl inG11 5 (by decide) wd_217 (fun _ h => h) rfl dX11_row_43 ?_
          refine lv_iload_n hx hb dX11_row_46 rfl (lv_at hl 1 rfl) ?_
          refine lv_iconst (v := 2) hx hb dX11_row_47 (by decide) ?_
          obtain ⟨g9, h⟩ := ob_gd h
          obtain ⟨S10, eS10, h⟩ := ob_nm h
          refine x_iast C0 hP hS (fun S => lay_66 B ct S) g9 dX11_row_48 (fun H locs hP hS => ?_)
          rw [← eS10] at hP
          refine lv_iconst (v := 0) hx hb dX11_row_49 (by decide) ?_
          exact r_Iw C0 hP hS h dX11_row_50
        · have h := ob_f h z6
          refine lv_bipush (v := (-14)) hx hb dX11_row_28 (by decide) ?_
          exact r_Iw C0 hP hS h dX11_row_30
      · have h := ob_f h z5
        refine lv_iconst (v := (-1)) hx hb dX11_row_22 (by decide) ?_
        exact r_Iw C0 hP hS h dX11_row_23
set_option maxRecDepth 100000 in
set_option maxHeartbeats 4000000 in
theorem c_X11_row (l : Launch) (a1 : Int32) (a2 : Int32) (a3 : Int32) {D : va_G} {ct : Nat → ClassId} {B : Nat} {Hb : Heap} {S : St} {V : Int32 × St} (h : L_X11_row a1 a2 a3 S = some V) : Met l yX11_row (Cond.code yX11_row cX11_row 4 (some .int) :: tG) { frames := 1, cells := 0, slots := 0, locals := 23 } (va_Pc [.ref (B + 0), .int a1, .int a2, .int a3] (MPK D ct B Hb S)) (qIw D ct B Hb V) 0 0 (AB B) := by
  refine mk_met (by decide +kernel) (Nat.le_of_ble_eq_true rfl) (fun p e s m args below meth c ls C0 hP hl _ => ?_)
  have h := ob_of h
  exact w_X11_row_0 l C0 a1 a2 a3 S h hP va_S.rf (lv_sub hl [0, 1, 2, 3] rfl)
set_option maxRecDepth 100000 in
set_option maxHeartbeats 4000000 in
theorem w_X11_put_0 (l : Launch) {V : Int32 × St} (C0 : XC D ct p s m args meth c cX11_put 5 (some .int) RX11) (v1 : Int32) (v2 : Int32) (v3 : Int32) (S : St) {H : Heap} {locs : List Loc} {ls : Array Slot} (h : (b_X11_put_0 v1 v2 v3 S).bind some = some V) (hP : MP D ct B Hb S H) (hS : va_S (AB B) s.heap H locs) (hl : lv_has ls 5 [(0, .ref (B + 0)), (1, .int v1), (2, .int v2), (3, .int v3)]) : W p l e { frames := 2, cells := 0, slots := 0, locals := 44 } s m args below meth c H locs 0 0 (MQ below (qIw D ct B Hb V) args s 0 0 (AB B)) (F0 m 0 ls []) := by
  obtain ⟨hx, hb, hr, hml, hown, hts, hK, hlocks, hN⟩ := id C0
  unfold b_X11_put_0 at h
  refine lv_aload_n hx hb dX11_put_0 rfl (lv_at hl 0 rfl) ?_
  refine lv_iload_n hx hb dX11_put_1 rfl (lv_at hl 1 rfl) ?_
  refine lv_iconst (v := 2) hx hb dX11_put_2 (by decide) ?_
  obtain ⟨r1, hr1, h⟩ := ob_bd h
  refine n_I (kV (As := [.int v1, .int 2]) C0 (c_X11_shelfRefusal l v1 2 hr1) ⟨wd_431, wd_428, wd_430, wp_3, wd_1⟩ kd_X11_shelfRefusal ⟨Nat.le_of_ble_eq_true rfl, Nat.le_of_ble_eq_true rfl⟩ hP (lay_X11 B ct S) rfl rfl hl.1 rfl (Nat.le_of_ble_eq_true rfl) dX11_put_3 ⟨Nat.le_of_ble_eq_true rfl, Nat.le_of_ble_eq_true rfl⟩) hS (fun H locs hP hS => ?_)
  refine lv_istore (lv' := [(4, .int r1), (0, .ref (B + 0)), (1, .int v1), (2, .int v2), (3, .int v3)]) hx hb dX11_put_6 hl (by decide) rfl (fun ls hl => ?_)
  refine lv_iload hx hb dX11_put_8 (lv_at hl 0 rfl) ?_
  refine lv_if_eq (tgt := 16) hx hb dX11_put_10 (by decide) (fun z2 => ?_) (fun z2 => ?_)
  · have h := ob_t h z2
    refine lv_aload_n hx hb dX11_put_16 rfl (lv_at hl 1 rfl) ?_
    refine x_get C0 hP (lay_X11 B ct S) rfl inG11 7 (by decide) wd_219 (fun _ h => h) rfl dX11_put_17 ?_
    refine lv_iload_n hx hb dX11_put_20 rfl (lv_at hl 2 rfl) ?_
    obtain ⟨g3, h⟩ := ob_gd h
    refine x_aald (v := .ref (B + (70 + 2 * v1.toNatClampNeg))) C0 hP (lay_68 B ct S) rfl rfl g3 rfl dX11_put_21 ?_
    refine lv_iload_n hx hb dX11_put_22 rfl (lv_at hl 3 rfl) ?_
    refine lv_iconst (v := 1) hx hb dX11_put_23 (by decide) ?_
    obtain ⟨r4, hr4, h⟩ := ob_bd h
    refine n_I (kV (As := [.int v2, .int 1]) C0 (c_X8_hasPlaces l (70 + 2 * v1.toNatClampNeg) (isRow_of g3) v2 1 hr4) ⟨wd_477, wd_474, wd_475, wd_476, wd_5⟩ kd_X8_hasPlaces ⟨Nat.le_of_ble_eq_true rfl, Nat.le_of_ble_eq_true rfl⟩ hP (lay_X8 B ct S (isRow_of g3)) rfl rfl hl.1 rfl (Nat.le_of_ble_eq_true rfl) dX11_put_24 ⟨Nat.le_of_ble_eq_true rfl, Nat.le_of_ble_eq_true rfl⟩) hS (fun H locs hP hS => ?_)
    refine lv_if_ne (tgt := 33) hx hb dX11_put_27 (by decide) (fun z5 => ?_) (fun z5 => ?_)
    · have h := ob_f h z5
      refine lv_aload_n hx hb dX11_put_33 rfl (lv_at hl 1 rfl) ?_
      refine x_get C0 hP (lay_X11 B ct S) rfl inG11 7 (by decide) wd_219 (fun _ h => h) rfl dX11_put_34 ?_
      refine lv_iload_n hx hb dX11_put_37 rfl (lv_at hl 2 rfl) ?_
      obtain ⟨g6, h⟩ := ob_gd h
      refine x_aald (v := .ref (B + (70 + 2 * v1.toNatClampNeg))) C0 hP (lay_68 B ct S) rfl rfl g6 rfl dX11_put_38 ?_
      refine lv_iload_n hx hb dX11_put_39 rfl (lv_at hl 3 rfl) ?_
      refine lv_iload_n hx hb dX11_put_40 rfl (lv_at hl 4 rfl) ?_
      obtain ⟨r7, hr7, h⟩ := ob_bd h
      refine n_Vw (kV (As := [.int v2, .int v3]) C0 (c_X8_write l (70 + 2 * v1.toNatClampNeg) (isRow_of g6) v2 v3 hr7) ⟨wd_481, wd_478, wd_479, wd_480, wd_5⟩ kd_X8_write ⟨Nat.le_of_ble_eq_true rfl, Nat.le_of_ble_eq_true rfl⟩ hP (lay_X8 B ct S (isRow_of g6)) rfl rfl hl.1 rfl (Nat.le_of_ble_eq_true rfl) dX11_put_41 ⟨Nat.le_of_ble_eq_true rfl, Nat.le_of_ble_eq_true rfl⟩) hS (fun H locs hP hS => ?_)
      refine lv_iconst (v := 0) hx hb dX11_put_44 (by decide) ?_
      exact r_Iw C0 hP hS h dX11_put_45
    · have h := ob_t h z5
      refine lv_bipush (v := (-13)) hx hb dX11_put_30 (by decide) ?_
      exact r_Iw C0 hP hS h dX11_put_32
  · have h := ob_f h z2
    refine lv_iload hx hb dX11_put_13 (lv_at hl 0 rfl) ?_
    exact r_Iw C0 hP hS h dX11_put_15
set_option maxRecDepth 100000 in
set_option maxHeartbeats 4000000 in
theorem c_X11_put (l : Launch) (a1 : Int32) (a2 : Int32) (a3 : Int32) {D : va_G} {ct : Nat → ClassId} {B : Nat} {Hb : Heap} {S : St} {V : Int32 × St} (h : L_X11_put a1 a2 a3 S = some V) : Met l yX11_put (Cond.code yX11_put cX11_put 5 (some .int) :: tG) { frames := 2, cells := 0, slots := 0, locals := 44 } (va_Pc [.ref (B + 0), .int a1, .int a2, .int a3] (MPK D ct B Hb S)) (qIw D ct B Hb V) 0 0 (AB B) := by
  refine mk_met (by decide +kernel) (Nat.le_of_ble_eq_true rfl) (fun p e s m args below meth c ls C0 hP hl _ => ?_)
  have h := ob_of h
  exact w_X11_put_0 l C0 a1 a2 a3 S h hP va_S.rf (lv_sub hl [0, 1, 2, 3] rfl)
end WALKS
