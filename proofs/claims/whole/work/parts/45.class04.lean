theorem dX11_person_0 : decode cX11_person 0 = .ok (.aload_n 0, 1) := by decide +kernel
theorem dX11_person_1 : decode cX11_person 1 = .ok (.iload_n 1, 1) := by decide +kernel
theorem dX11_person_2 : decode cX11_person 2 = .ok (.invokevirtual 81, 3) := by decide +kernel
theorem dX11_person_5 : decode cX11_person 5 = .ok (.ifCond .eq 5, 3) := by decide +kernel
theorem dX11_person_8 : decode cX11_person 8 = .ok (.iconst (-1), 1) := by decide +kernel
theorem dX11_person_9 : decode cX11_person 9 = .ok (.ireturn, 1) := by decide +kernel
theorem dX11_person_10 : decode cX11_person 10 = .ok (.iload_n 2, 1) := by decide +kernel
theorem dX11_person_11 : decode cX11_person 11 = .ok (.tableswitch 132 0 6 #[41, 54, 67, 77, 87, 109, 119], 41) := by decide +kernel
theorem dX11_person_52 : decode cX11_person 52 = .ok (.aload_n 0, 1) := by decide +kernel
theorem dX11_person_53 : decode cX11_person 53 = .ok (.getfield 12, 3) := by decide +kernel
theorem dX11_person_56 : decode cX11_person 56 = .ok (.getfield 85, 3) := by decide +kernel
theorem dX11_person_59 : decode cX11_person 59 = .ok (.iload_n 1, 1) := by decide +kernel
theorem dX11_person_60 : decode cX11_person 60 = .ok (.aaload, 1) := by decide +kernel
theorem dX11_person_61 : decode cX11_person 61 = .ok (.getfield 88, 3) := by decide +kernel
theorem dX11_person_64 : decode cX11_person 64 = .ok (.ireturn, 1) := by decide +kernel
theorem dX11_person_65 : decode cX11_person 65 = .ok (.aload_n 0, 1) := by decide +kernel
theorem dX11_person_66 : decode cX11_person 66 = .ok (.getfield 12, 3) := by decide +kernel
theorem dX11_person_69 : decode cX11_person 69 = .ok (.getfield 85, 3) := by decide +kernel
theorem dX11_person_72 : decode cX11_person 72 = .ok (.iload_n 1, 1) := by decide +kernel
theorem dX11_person_73 : decode cX11_person 73 = .ok (.aaload, 1) := by decide +kernel
theorem dX11_person_74 : decode cX11_person 74 = .ok (.getfield 91, 3) := by decide +kernel
theorem dX11_person_77 : decode cX11_person 77 = .ok (.ireturn, 1) := by decide +kernel
theorem dX11_person_78 : decode cX11_person 78 = .ok (.aload_n 0, 1) := by decide +kernel
theorem dX11_person_79 : decode cX11_person 79 = .ok (.getfield 12, 3) := by decide +kernel
theorem dX11_person_82 : decode cX11_person 82 = .ok (.getfield 94, 3) := by decide +kernel
theorem dX11_person_85 : decode cX11_person 85 = .ok (.iload_n 1, 1) := by decide +kernel
theorem dX11_person_86 : decode cX11_person 86 = .ok (.iaload, 1) := by decide +kernel
theorem dX11_person_87 : decode cX11_person 87 = .ok (.ireturn, 1) := by decide +kernel
theorem dX11_person_88 : decode cX11_person 88 = .ok (.aload_n 0, 1) := by decide +kernel
theorem dX11_person_89 : decode cX11_person 89 = .ok (.getfield 12, 3) := by decide +kernel
theorem dX11_person_92 : decode cX11_person 92 = .ok (.getfield 97, 3) := by decide +kernel
theorem dX11_person_95 : decode cX11_person 95 = .ok (.iload_n 1, 1) := by decide +kernel
theorem dX11_person_96 : decode cX11_person 96 = .ok (.iaload, 1) := by decide +kernel
theorem dX11_person_97 : decode cX11_person 97 = .ok (.ireturn, 1) := by decide +kernel
theorem dX11_person_98 : decode cX11_person 98 = .ok (.aload_n 0, 1) := by decide +kernel
theorem dX11_person_99 : decode cX11_person 99 = .ok (.getfield 12, 3) := by decide +kernel
theorem dX11_person_102 : decode cX11_person 102 = .ok (.getfield 85, 3) := by decide +kernel
theorem dX11_person_105 : decode cX11_person 105 = .ok (.iload_n 1, 1) := by decide +kernel
theorem dX11_person_106 : decode cX11_person 106 = .ok (.aaload, 1) := by decide +kernel
theorem dX11_person_107 : decode cX11_person 107 = .ok (.aload_n 0, 1) := by decide +kernel
theorem dX11_person_108 : decode cX11_person 108 = .ok (.getfield 12, 3) := by decide +kernel
theorem dX11_person_111 : decode cX11_person 111 = .ok (.getfield 97, 3) := by decide +kernel
theorem dX11_person_114 : decode cX11_person 114 = .ok (.iload_n 1, 1) := by decide +kernel
theorem dX11_person_115 : decode cX11_person 115 = .ok (.iaload, 1) := by decide +kernel
theorem dX11_person_116 : decode cX11_person 116 = .ok (.invokevirtual 100, 3) := by decide +kernel
theorem dX11_person_119 : decode cX11_person 119 = .ok (.ireturn, 1) := by decide +kernel
theorem dX11_person_120 : decode cX11_person 120 = .ok (.aload_n 0, 1) := by decide +kernel
theorem dX11_person_121 : decode cX11_person 121 = .ok (.getfield 12, 3) := by decide +kernel
theorem dX11_person_124 : decode cX11_person 124 = .ok (.getfield 104, 3) := by decide +kernel
theorem dX11_person_127 : decode cX11_person 127 = .ok (.iload_n 1, 1) := by decide +kernel
theorem dX11_person_128 : decode cX11_person 128 = .ok (.iaload, 1) := by decide +kernel
theorem dX11_person_129 : decode cX11_person 129 = .ok (.ireturn, 1) := by decide +kernel
theorem dX11_person_130 : decode cX11_person 130 = .ok (.aload_n 0, 1) := by decide +kernel
theorem dX11_person_131 : decode cX11_person 131 = .ok (.getfield 12, 3) := by decide +kernel
theorem dX11_person_134 : decode cX11_person 134 = .ok (.getfield 107, 3) := by decide +kernel
theorem dX11_person_137 : decode cX11_person 137 = .ok (.iload_n 1, 1) := by decide +kernel
theorem dX11_person_138 : decode cX11_person 138 = .ok (.iaload, 1) := by decide +kernel
theorem dX11_person_139 : decode cX11_person 139 = .ok (.bipush 9, 2) := by decide +kernel
theorem dX11_person_141 : decode cX11_person 141 = .ok (.iadd, 1) := by decide +kernel
theorem dX11_person_142 : decode cX11_person 142 = .ok (.ireturn, 1) := by decide +kernel
theorem dX11_person_143 : decode cX11_person 143 = .ok (.iconst (-1), 1) := by decide +kernel
theorem dX11_person_144 : decode cX11_person 144 = .ok (.ireturn, 1) := by decide +kernel
theorem dX11_weighs_0 : decode cX11_weighs 0 = .ok (.aload_n 0, 1) := by decide +kernel
theorem dX11_weighs_1 : decode cX11_weighs 1 = .ok (.iload_n 1, 1) := by decide +kernel
theorem dX11_weighs_2 : decode cX11_weighs 2 = .ok (.invokevirtual 81, 3) := by decide +kernel
theorem dX11_weighs_5 : decode cX11_weighs 5 = .ok (.ifCond .ne 25, 3) := by decide +kernel
theorem dX11_weighs_8 : decode cX11_weighs 8 = .ok (.iload_n 2, 1) := by decide +kernel
theorem dX11_weighs_9 : decode cX11_weighs 9 = .ok (.bipush (-9), 2) := by decide +kernel
theorem dX11_weighs_11 : decode cX11_weighs 11 = .ok (.bipush 9, 2) := by decide +kernel
theorem dX11_weighs_13 : decode cX11_weighs 13 = .ok (.invokestatic 110, 3) := by decide +kernel
theorem dX11_weighs_16 : decode cX11_weighs 16 = .ok (.ifCond .ne 14, 3) := by decide +kernel
theorem dX11_weighs_19 : decode cX11_weighs 19 = .ok (.iload_n 3, 1) := by decide +kernel
theorem dX11_weighs_20 : decode cX11_weighs 20 = .ok (.bipush (-99), 2) := by decide +kernel
theorem dX11_weighs_22 : decode cX11_weighs 22 = .ok (.bipush 99, 2) := by decide +kernel
theorem dX11_weighs_24 : decode cX11_weighs 24 = .ok (.invokestatic 110, 3) := by decide +kernel
theorem dX11_weighs_27 : decode cX11_weighs 27 = .ok (.ifCond .eq 6, 3) := by decide +kernel
theorem dX11_weighs_30 : decode cX11_weighs 30 = .ok (.ldc 114, 2) := by decide +kernel
theorem dX11_weighs_32 : decode cX11_weighs 32 = .ok (.ireturn, 1) := by decide +kernel
theorem dX11_weighs_33 : decode cX11_weighs 33 = .ok (.aload_n 0, 1) := by decide +kernel
theorem dX11_weighs_34 : decode cX11_weighs 34 = .ok (.getfield 12, 3) := by decide +kernel
theorem dX11_weighs_37 : decode cX11_weighs 37 = .ok (.getfield 85, 3) := by decide +kernel
theorem dX11_weighs_40 : decode cX11_weighs 40 = .ok (.iload_n 1, 1) := by decide +kernel
theorem dX11_weighs_41 : decode cX11_weighs 41 = .ok (.aaload, 1) := by decide +kernel
theorem dX11_weighs_42 : decode cX11_weighs 42 = .ok (.iload_n 2, 1) := by decide +kernel
theorem dX11_weighs_43 : decode cX11_weighs 43 = .ok (.iload_n 3, 1) := by decide +kernel
theorem dX11_weighs_44 : decode cX11_weighs 44 = .ok (.invokevirtual 115, 3) := by decide +kernel
theorem dX11_weighs_47 : decode cX11_weighs 47 = .ok (.ireturn, 1) := by decide +kernel
theorem dX11_strength_0 : decode cX11_strength 0 = .ok (.aload_n 0, 1) := by decide +kernel
theorem dX11_strength_1 : decode cX11_strength 1 = .ok (.iload_n 1, 1) := by decide +kernel
theorem dX11_strength_2 : decode cX11_strength 2 = .ok (.invokevirtual 81, 3) := by decide +kernel
theorem dX11_strength_5 : decode cX11_strength 5 = .ok (.ifCond .ne 16, 3) := by decide +kernel
theorem dX11_strength_8 : decode cX11_strength 8 = .ok (.iload_n 2, 1) := by decide +kernel
theorem dX11_strength_9 : decode cX11_strength 9 = .ok (.sipush (-999), 3) := by decide +kernel
theorem dX11_strength_12 : decode cX11_strength 12 = .ok (.sipush 999, 3) := by decide +kernel
theorem dX11_strength_15 : decode cX11_strength 15 = .ok (.invokestatic 110, 3) := by decide +kernel
theorem dX11_strength_18 : decode cX11_strength 18 = .ok (.ifCond .eq 5, 3) := by decide +kernel
theorem dX11_strength_21 : decode cX11_strength 21 = .ok (.iconst (-1), 1) := by decide +kernel
theorem dX11_strength_22 : decode cX11_strength 22 = .ok (.ireturn, 1) := by decide +kernel
theorem dX11_strength_23 : decode cX11_strength 23 = .ok (.aload_n 0, 1) := by decide +kernel
theorem dX11_strength_24 : decode cX11_strength 24 = .ok (.getfield 12, 3) := by decide +kernel
theorem dX11_strength_27 : decode cX11_strength 27 = .ok (.getfield 85, 3) := by decide +kernel
theorem dX11_strength_30 : decode cX11_strength 30 = .ok (.iload_n 1, 1) := by decide +kernel
theorem dX11_strength_31 : decode cX11_strength 31 = .ok (.aaload, 1) := by decide +kernel
theorem dX11_strength_32 : decode cX11_strength 32 = .ok (.iload_n 2, 1) := by decide +kernel
theorem dX11_strength_33 : decode cX11_strength 33 = .ok (.invokevirtual 118, 3) := by decide +kernel
theorem dX11_strength_36 : decode cX11_strength 36 = .ok (.ireturn, 1) := by decide +kernel
theorem dX11_price_0 : decode cX11_price 0 = .ok (.aload_n 0, 1) := by decide +kernel
theorem dX11_price_1 : decode cX11_price 1 = .ok (.iload_n 1, 1) := by decide +kernel
theorem dX11_price_2 : decode cX11_price 2 = .ok (.invokevirtual 81, 3) := by decide +kernel
theorem dX11_price_5 : decode cX11_price 5 = .ok (.ifCond .ne 14, 3) := by decide +kernel
theorem dX11_price_8 : decode cX11_price 8 = .ok (.iload_n 2, 1) := by decide +kernel
theorem dX11_price_9 : decode cX11_price 9 = .ok (.iconst 0, 1) := by decide +kernel
theorem dX11_price_10 : decode cX11_price 10 = .ok (.sipush 999, 3) := by decide +kernel
theorem dX11_price_13 : decode cX11_price 13 = .ok (.invokestatic 110, 3) := by decide +kernel
theorem dX11_price_16 : decode cX11_price 16 = .ok (.ifCond .eq 5, 3) := by decide +kernel
theorem dX11_price_19 : decode cX11_price 19 = .ok (.iconst (-1), 1) := by decide +kernel
theorem dX11_price_20 : decode cX11_price 20 = .ok (.ireturn, 1) := by decide +kernel
theorem dX11_price_21 : decode cX11_price 21 = .ok (.aload_n 0, 1) := by decide +kernel
theorem dX11_price_22 : decode cX11_price 22 = .ok (.getfield 12, 3) := by decide +kernel
theorem dX11_price_25 : decode cX11_price 25 = .ok (.getfield 85, 3) := by decide +kernel
theorem dX11_price_28 : decode cX11_price 28 = .ok (.iload_n 1, 1) := by decide +kernel
theorem dX11_price_29 : decode cX11_price 29 = .ok (.aaload, 1) := by decide +kernel
theorem dX11_price_30 : decode cX11_price 30 = .ok (.iload_n 2, 1) := by decide +kernel
theorem dX11_price_31 : decode cX11_price 31 = .ok (.aload_n 0, 1) := by decide +kernel
theorem dX11_price_32 : decode cX11_price 32 = .ok (.getfield 12, 3) := by decide +kernel
theorem dX11_price_35 : decode cX11_price 35 = .ok (.getfield 121, 3) := by decide +kernel
theorem dX11_price_38 : decode cX11_price 38 = .ok (.iconst 2, 1) := by decide +kernel
theorem dX11_price_39 : decode cX11_price 39 = .ok (.iaload, 1) := by decide +kernel
theorem dX11_price_40 : decode cX11_price 40 = .ok (.invokevirtual 124, 3) := by decide +kernel
theorem dX11_price_43 : decode cX11_price 43 = .ok (.ireturn, 1) := by decide +kernel
theorem dX11_isNoShelf_0 : decode cX11_isNoShelf 0 = .ok (.iload_n 0, 1) := by decide +kernel
theorem dX11_isNoShelf_1 : decode cX11_isNoShelf 1 = .ok (.ifCond .lt 9, 3) := by decide +kernel
theorem dX11_isNoShelf_4 : decode cX11_isNoShelf 4 = .ok (.iload_n 0, 1) := by decide +kernel
theorem dX11_isNoShelf_5 : decode cX11_isNoShelf 5 = .ok (.bipush 8, 2) := by decide +kernel
theorem dX11_isNoShelf_7 : decode cX11_isNoShelf 7 = .ok (.if_icmp .lt 7, 3) := by decide +kernel
theorem dX11_isNoShelf_10 : decode cX11_isNoShelf 10 = .ok (.iconst 1, 1) := by decide +kernel
theorem dX11_isNoShelf_11 : decode cX11_isNoShelf 11 = .ok (.goto 4, 3) := by decide +kernel
theorem dX11_isNoShelf_14 : decode cX11_isNoShelf 14 = .ok (.iconst 0, 1) := by decide +kernel
theorem dX11_isNoShelf_15 : decode cX11_isNoShelf 15 = .ok (.ireturn, 1) := by decide +kernel
theorem dX11_shelfRefusal_0 : decode cX11_shelfRefusal 0 = .ok (.iload_n 1, 1) := by decide +kernel
theorem dX11_shelfRefusal_1 : decode cX11_shelfRefusal 1 = .ok (.invokestatic 127, 3) := by decide +kernel
theorem dX11_shelfRefusal_4 : decode cX11_shelfRefusal 4 = .ok (.ifCond .eq 5, 3) := by decide +kernel
theorem dX11_shelfRefusal_7 : decode cX11_shelfRefusal 7 = .ok (.iconst (-1), 1) := by decide +kernel
theorem dX11_shelfRefusal_8 : decode cX11_shelfRefusal 8 = .ok (.ireturn, 1) := by decide +kernel
theorem dX11_shelfRefusal_9 : decode cX11_shelfRefusal 9 = .ok (.aload_n 0, 1) := by decide +kernel
theorem dX11_shelfRefusal_10 : decode cX11_shelfRefusal 10 = .ok (.getfield 35, 3) := by decide +kernel
theorem dX11_shelfRefusal_13 : decode cX11_shelfRefusal 13 = .ok (.iload_n 1, 1) := by decide +kernel
theorem dX11_shelfRefusal_14 : decode cX11_shelfRefusal 14 = .ok (.iaload, 1) := by decide +kernel
theorem dX11_shelfRefusal_15 : decode cX11_shelfRefusal 15 = .ok (.ifCond .ne 6, 3) := by decide +kernel
theorem dX11_shelfRefusal_18 : decode cX11_shelfRefusal 18 = .ok (.bipush (-11), 2) := by decide +kernel
theorem dX11_shelfRefusal_20 : decode cX11_shelfRefusal 20 = .ok (.ireturn, 1) := by decide +kernel
theorem dX11_shelfRefusal_21 : decode cX11_shelfRefusal 21 = .ok (.aload_n 0, 1) := by decide +kernel
theorem dX11_shelfRefusal_22 : decode cX11_shelfRefusal 22 = .ok (.getfield 35, 3) := by decide +kernel
theorem dX11_shelfRefusal_25 : decode cX11_shelfRefusal 25 = .ok (.iload_n 1, 1) := by decide +kernel
theorem dX11_shelfRefusal_26 : decode cX11_shelfRefusal 26 = .ok (.iaload, 1) := by decide +kernel
theorem dX11_shelfRefusal_27 : decode cX11_shelfRefusal 27 = .ok (.iload_n 2, 1) := by decide +kernel
theorem dX11_shelfRefusal_28 : decode cX11_shelfRefusal 28 = .ok (.if_icmp .ne 7, 3) := by decide +kernel
theorem dX11_shelfRefusal_31 : decode cX11_shelfRefusal 31 = .ok (.iconst 0, 1) := by decide +kernel
theorem dX11_shelfRefusal_32 : decode cX11_shelfRefusal 32 = .ok (.goto 5, 3) := by decide +kernel
theorem dX11_shelfRefusal_35 : decode cX11_shelfRefusal 35 = .ok (.bipush (-12), 2) := by decide +kernel
theorem dX11_shelfRefusal_37 : decode cX11_shelfRefusal 37 = .ok (.ireturn, 1) := by decide +kernel
theorem dX11_comes_0 : decode cX11_comes 0 = .ok (.iload_n 1, 1) := by decide +kernel
theorem dX11_comes_1 : decode cX11_comes 1 = .ok (.invokestatic 127, 3) := by decide +kernel
theorem dX11_comes_4 : decode cX11_comes 4 = .ok (.ifCond .ne 15, 3) := by decide +kernel
theorem dX11_comes_7 : decode cX11_comes 7 = .ok (.iload_n 2, 1) := by decide +kernel
theorem dX11_comes_8 : decode cX11_comes 8 = .ok (.iload_n 3, 1) := by decide +kernel
theorem dX11_comes_9 : decode cX11_comes 9 = .ok (.iload 4, 2) := by decide +kernel
theorem dX11_comes_11 : decode cX11_comes 11 = .ok (.iload 5, 2) := by decide +kernel
theorem dX11_comes_13 : decode cX11_comes 13 = .ok (.invokestatic 130, 3) := by decide +kernel
theorem dX11_comes_16 : decode cX11_comes 16 = .ok (.ifCond .eq 5, 3) := by decide +kernel
theorem dX11_comes_19 : decode cX11_comes 19 = .ok (.iconst (-1), 1) := by decide +kernel
theorem dX11_comes_20 : decode cX11_comes 20 = .ok (.ireturn, 1) := by decide +kernel
theorem dX11_comes_21 : decode cX11_comes 21 = .ok (.aload_n 0, 1) := by decide +kernel
theorem dX11_comes_22 : decode cX11_comes 22 = .ok (.iload_n 1, 1) := by decide +kernel
theorem dX11_comes_23 : decode cX11_comes 23 = .ok (.iconst 1, 1) := by decide +kernel
theorem dX11_comes_24 : decode cX11_comes 24 = .ok (.invokevirtual 66, 3) := by decide +kernel
theorem dX11_comes_27 : decode cX11_comes 27 = .ok (.istore 6, 2) := by decide +kernel
theorem dX11_comes_29 : decode cX11_comes 29 = .ok (.iload 6, 2) := by decide +kernel
theorem dX11_comes_31 : decode cX11_comes 31 = .ok (.ifCond .eq 8, 3) := by decide +kernel
theorem dX11_comes_34 : decode cX11_comes 34 = .ok (.iload 6, 2) := by decide +kernel
theorem dX11_comes_36 : decode cX11_comes 36 = .ok (.goto 22, 3) := by decide +kernel
theorem dX11_comes_39 : decode cX11_comes 39 = .ok (.aload_n 0, 1) := by decide +kernel
theorem dX11_comes_40 : decode cX11_comes 40 = .ok (.getfield 12, 3) := by decide +kernel
theorem dX11_comes_43 : decode cX11_comes 43 = .ok (.aload_n 0, 1) := by decide +kernel
theorem dX11_comes_44 : decode cX11_comes 44 = .ok (.getfield 41, 3) := by decide +kernel
theorem dX11_comes_47 : decode cX11_comes 47 = .ok (.iload_n 1, 1) := by decide +kernel
theorem dX11_comes_48 : decode cX11_comes 48 = .ok (.aaload, 1) := by decide +kernel
theorem dX11_comes_49 : decode cX11_comes 49 = .ok (.iload_n 2, 1) := by decide +kernel
theorem dX11_comes_50 : decode cX11_comes 50 = .ok (.iload_n 3, 1) := by decide +kernel
theorem dX11_comes_51 : decode cX11_comes 51 = .ok (.iload 4, 2) := by decide +kernel
theorem dX11_comes_53 : decode cX11_comes 53 = .ok (.iload 5, 2) := by decide +kernel
theorem dX11_comes_55 : decode cX11_comes 55 = .ok (.invokevirtual 134, 3) := by decide +kernel
theorem dX11_comes_58 : decode cX11_comes 58 = .ok (.ireturn, 1) := by decide +kernel
theorem dX11_leaves_0 : decode cX11_leaves 0 = .ok (.aload_n 0, 1) := by decide +kernel
theorem dX11_leaves_1 : decode cX11_leaves 1 = .ok (.iload_n 1, 1) := by decide +kernel
theorem dX11_leaves_2 : decode cX11_leaves 2 = .ok (.invokevirtual 81, 3) := by decide +kernel
theorem dX11_leaves_5 : decode cX11_leaves 5 = .ok (.ifCond .eq 7, 3) := by decide +kernel
theorem dX11_leaves_8 : decode cX11_leaves 8 = .ok (.iconst (-1), 1) := by decide +kernel
theorem dX11_leaves_9 : decode cX11_leaves 9 = .ok (.goto 11, 3) := by decide +kernel
theorem dX11_leaves_12 : decode cX11_leaves 12 = .ok (.aload_n 0, 1) := by decide +kernel
theorem dX11_leaves_13 : decode cX11_leaves 13 = .ok (.getfield 12, 3) := by decide +kernel
theorem dX11_leaves_16 : decode cX11_leaves 16 = .ok (.iload_n 1, 1) := by decide +kernel
theorem dX11_leaves_17 : decode cX11_leaves 17 = .ok (.invokevirtual 138, 3) := by decide +kernel
theorem dX11_leaves_20 : decode cX11_leaves 20 = .ok (.ireturn, 1) := by decide +kernel
theorem dX11_mood_0 : decode cX11_mood 0 = .ok (.aload_n 0, 1) := by decide +kernel
theorem dX11_mood_1 : decode cX11_mood 1 = .ok (.iload_n 1, 1) := by decide +kernel
theorem dX11_mood_2 : decode cX11_mood 2 = .ok (.invokevirtual 81, 3) := by decide +kernel
theorem dX11_mood_5 : decode cX11_mood 5 = .ok (.ifCond .ne 14, 3) := by decide +kernel
theorem dX11_mood_8 : decode cX11_mood 8 = .ok (.iload_n 2, 1) := by decide +kernel
theorem dX11_mood_9 : decode cX11_mood 9 = .ok (.bipush (-9), 2) := by decide +kernel
theorem dX11_mood_11 : decode cX11_mood 11 = .ok (.bipush 9, 2) := by decide +kernel
theorem dX11_mood_13 : decode cX11_mood 13 = .ok (.invokestatic 110, 3) := by decide +kernel
theorem dX11_mood_16 : decode cX11_mood 16 = .ok (.ifCond .eq 5, 3) := by decide +kernel
theorem dX11_mood_19 : decode cX11_mood 19 = .ok (.iconst (-1), 1) := by decide +kernel
theorem dX11_mood_20 : decode cX11_mood 20 = .ok (.ireturn, 1) := by decide +kernel
theorem dX11_mood_21 : decode cX11_mood 21 = .ok (.aload_n 0, 1) := by decide +kernel
theorem dX11_mood_22 : decode cX11_mood 22 = .ok (.getfield 12, 3) := by decide +kernel
theorem dX11_mood_25 : decode cX11_mood 25 = .ok (.getfield 107, 3) := by decide +kernel
theorem dX11_mood_28 : decode cX11_mood 28 = .ok (.iload_n 1, 1) := by decide +kernel
theorem dX11_mood_29 : decode cX11_mood 29 = .ok (.iaload, 1) := by decide +kernel
theorem dX11_mood_30 : decode cX11_mood 30 = .ok (.bipush 9, 2) := by decide +kernel
theorem dX11_mood_32 : decode cX11_mood 32 = .ok (.iadd, 1) := by decide +kernel
theorem dX11_mood_33 : decode cX11_mood 33 = .ok (.istore_n 3, 1) := by decide +kernel
theorem dX11_mood_34 : decode cX11_mood 34 = .ok (.aload_n 0, 1) := by decide +kernel
theorem dX11_mood_35 : decode cX11_mood 35 = .ok (.getfield 12, 3) := by decide +kernel
theorem dX11_mood_38 : decode cX11_mood 38 = .ok (.getfield 107, 3) := by decide +kernel
theorem dX11_mood_41 : decode cX11_mood 41 = .ok (.iload_n 1, 1) := by decide +kernel
theorem dX11_mood_42 : decode cX11_mood 42 = .ok (.iload_n 2, 1) := by decide +kernel
theorem dX11_mood_43 : decode cX11_mood 43 = .ok (.iastore, 1) := by decide +kernel
theorem dX11_mood_44 : decode cX11_mood 44 = .ok (.iload_n 3, 1) := by decide +kernel
theorem dX11_mood_45 : decode cX11_mood 45 = .ok (.ireturn, 1) := by decide +kernel
theorem dX11_coins_0 : decode cX11_coins 0 = .ok (.aload_n 0, 1) := by decide +kernel
theorem dX11_coins_1 : decode cX11_coins 1 = .ok (.iload_n 1, 1) := by decide +kernel
theorem dX11_coins_2 : decode cX11_coins 2 = .ok (.invokevirtual 81, 3) := by decide +kernel
theorem dX11_coins_5 : decode cX11_coins 5 = .ok (.ifCond .ne 13, 3) := by decide +kernel
theorem dX11_coins_8 : decode cX11_coins 8 = .ok (.iload_n 2, 1) := by decide +kernel
theorem dX11_coins_9 : decode cX11_coins 9 = .ok (.iconst 0, 1) := by decide +kernel
theorem dX11_coins_10 : decode cX11_coins 10 = .ok (.bipush 99, 2) := by decide +kernel
theorem dX11_coins_12 : decode cX11_coins 12 = .ok (.invokestatic 110, 3) := by decide +kernel
theorem dX11_coins_15 : decode cX11_coins 15 = .ok (.ifCond .eq 5, 3) := by decide +kernel
theorem dX11_coins_18 : decode cX11_coins 18 = .ok (.iconst (-1), 1) := by decide +kernel
theorem dX11_coins_19 : decode cX11_coins 19 = .ok (.ireturn, 1) := by decide +kernel
theorem dX11_coins_20 : decode cX11_coins 20 = .ok (.aload_n 0, 1) := by decide +kernel
theorem dX11_coins_21 : decode cX11_coins 21 = .ok (.getfield 12, 3) := by decide +kernel
theorem dX11_coins_24 : decode cX11_coins 24 = .ok (.getfield 104, 3) := by decide +kernel
theorem dX11_coins_27 : decode cX11_coins 27 = .ok (.iload_n 1, 1) := by decide +kernel
theorem dX11_coins_28 : decode cX11_coins 28 = .ok (.iaload, 1) := by decide +kernel
theorem dX11_coins_29 : decode cX11_coins 29 = .ok (.istore_n 3, 1) := by decide +kernel
theorem dX11_coins_30 : decode cX11_coins 30 = .ok (.aload_n 0, 1) := by decide +kernel
theorem dX11_coins_31 : decode cX11_coins 31 = .ok (.getfield 12, 3) := by decide +kernel
theorem dX11_coins_34 : decode cX11_coins 34 = .ok (.getfield 104, 3) := by decide +kernel
theorem dX11_coins_37 : decode cX11_coins 37 = .ok (.iload_n 1, 1) := by decide +kernel
theorem dX11_coins_38 : decode cX11_coins 38 = .ok (.iload_n 2, 1) := by decide +kernel
theorem dX11_coins_39 : decode cX11_coins 39 = .ok (.iastore, 1) := by decide +kernel
theorem dX11_coins_40 : decode cX11_coins 40 = .ok (.iload_n 3, 1) := by decide +kernel
theorem dX11_coins_41 : decode cX11_coins 41 = .ok (.ireturn, 1) := by decide +kernel
theorem dX11_fact_0 : decode cX11_fact 0 = .ok (.aload_n 0, 1) := by decide +kernel
theorem dX11_fact_1 : decode cX11_fact 1 = .ok (.getfield 12, 3) := by decide +kernel
theorem dX11_fact_4 : decode cX11_fact 4 = .ok (.iload_n 1, 1) := by decide +kernel
theorem dX11_fact_5 : decode cX11_fact 5 = .ok (.iload_n 2, 1) := by decide +kernel
theorem dX11_fact_6 : decode cX11_fact 6 = .ok (.iload_n 3, 1) := by decide +kernel
theorem dX11_fact_7 : decode cX11_fact 7 = .ok (.invokevirtual 141, 3) := by decide +kernel
theorem dX11_fact_10 : decode cX11_fact 10 = .ok (.ireturn, 1) := by decide +kernel
theorem dX11_isNoFact_0 : decode cX11_isNoFact 0 = .ok (.iload_n 1, 1) := by decide +kernel
theorem dX11_isNoFact_1 : decode cX11_isNoFact 1 = .ok (.ifCond .lt 14, 3) := by decide +kernel
theorem dX11_isNoFact_4 : decode cX11_isNoFact 4 = .ok (.iload_n 1, 1) := by decide +kernel
theorem dX11_isNoFact_5 : decode cX11_isNoFact 5 = .ok (.aload_n 0, 1) := by decide +kernel
theorem dX11_isNoFact_6 : decode cX11_isNoFact 6 = .ok (.getfield 12, 3) := by decide +kernel
theorem dX11_isNoFact_9 : decode cX11_isNoFact 9 = .ok (.getfield 196, 3) := by decide +kernel
theorem dX11_isNoFact_12 : decode cX11_isNoFact 12 = .ok (.if_icmp .lt 7, 3) := by decide +kernel
theorem dX11_isNoFact_15 : decode cX11_isNoFact 15 = .ok (.iconst 1, 1) := by decide +kernel
theorem dX11_isNoFact_16 : decode cX11_isNoFact 16 = .ok (.goto 4, 3) := by decide +kernel
theorem dX11_isNoFact_19 : decode cX11_isNoFact 19 = .ok (.iconst 0, 1) := by decide +kernel
theorem dX11_isNoFact_20 : decode cX11_isNoFact 20 = .ok (.ireturn, 1) := by decide +kernel
theorem dX11_about_0 : decode cX11_about 0 = .ok (.aload_n 0, 1) := by decide +kernel
theorem dX11_about_1 : decode cX11_about 1 = .ok (.iload_n 1, 1) := by decide +kernel
theorem dX11_about_2 : decode cX11_about 2 = .ok (.invokevirtual 145, 3) := by decide +kernel
theorem dX11_about_5 : decode cX11_about 5 = .ok (.ifCond .eq 5, 3) := by decide +kernel
theorem dX11_about_8 : decode cX11_about 8 = .ok (.iconst (-1), 1) := by decide +kernel
theorem dX11_about_9 : decode cX11_about 9 = .ok (.ireturn, 1) := by decide +kernel
theorem dX11_about_10 : decode cX11_about 10 = .ok (.iload_n 2, 1) := by decide +kernel
theorem dX11_about_11 : decode cX11_about 11 = .ok (.tableswitch 72 0 3 #[29, 39, 52, 62], 29) := by decide +kernel
theorem dX11_about_40 : decode cX11_about 40 = .ok (.aload_n 0, 1) := by decide +kernel
theorem dX11_about_41 : decode cX11_about 41 = .ok (.getfield 12, 3) := by decide +kernel
theorem dX11_about_44 : decode cX11_about 44 = .ok (.getfield 148, 3) := by decide +kernel
theorem dX11_about_47 : decode cX11_about 47 = .ok (.iload_n 1, 1) := by decide +kernel
theorem dX11_about_48 : decode cX11_about 48 = .ok (.iaload, 1) := by decide +kernel
theorem dX11_about_49 : decode cX11_about 49 = .ok (.ireturn, 1) := by decide +kernel
theorem dX11_about_50 : decode cX11_about 50 = .ok (.aload_n 0, 1) := by decide +kernel
theorem dX11_about_51 : decode cX11_about 51 = .ok (.getfield 12, 3) := by decide +kernel
theorem dX11_about_54 : decode cX11_about 54 = .ok (.getfield 151, 3) := by decide +kernel
theorem dX11_about_57 : decode cX11_about 57 = .ok (.iload_n 1, 1) := by decide +kernel
theorem dX11_about_58 : decode cX11_about 58 = .ok (.iaload, 1) := by decide +kernel
theorem dX11_about_59 : decode cX11_about 59 = .ok (.bipush 9, 2) := by decide +kernel
theorem dX11_about_61 : decode cX11_about 61 = .ok (.iadd, 1) := by decide +kernel
theorem dX11_about_62 : decode cX11_about 62 = .ok (.ireturn, 1) := by decide +kernel
theorem dX11_about_63 : decode cX11_about 63 = .ok (.aload_n 0, 1) := by decide +kernel
theorem dX11_about_64 : decode cX11_about 64 = .ok (.getfield 12, 3) := by decide +kernel
theorem dX11_about_67 : decode cX11_about 67 = .ok (.getfield 154, 3) := by decide +kernel
theorem dX11_about_70 : decode cX11_about 70 = .ok (.iload_n 1, 1) := by decide +kernel
theorem dX11_about_71 : decode cX11_about 71 = .ok (.iaload, 1) := by decide +kernel
theorem dX11_about_72 : decode cX11_about 72 = .ok (.ireturn, 1) := by decide +kernel
theorem dX11_about_73 : decode cX11_about 73 = .ok (.aload_n 0, 1) := by decide +kernel
theorem dX11_about_74 : decode cX11_about 74 = .ok (.getfield 12, 3) := by decide +kernel
theorem dX11_about_77 : decode cX11_about 77 = .ok (.getfield 157, 3) := by decide +kernel
theorem dX11_about_80 : decode cX11_about 80 = .ok (.iload_n 1, 1) := by decide +kernel
theorem dX11_about_81 : decode cX11_about 81 = .ok (.iaload, 1) := by decide +kernel
theorem dX11_about_82 : decode cX11_about 82 = .ok (.ireturn, 1) := by decide +kernel
theorem dX11_about_83 : decode cX11_about 83 = .ok (.iconst (-1), 1) := by decide +kernel
theorem dX11_about_84 : decode cX11_about 84 = .ok (.ireturn, 1) := by decide +kernel
theorem dX11_chance_0 : decode cX11_chance 0 = .ok (.aload_n 0, 1) := by decide +kernel
theorem dX11_chance_1 : decode cX11_chance 1 = .ok (.iload_n 1, 1) := by decide +kernel
theorem dX11_chance_2 : decode cX11_chance 2 = .ok (.invokevirtual 145, 3) := by decide +kernel
theorem dX11_chance_5 : decode cX11_chance 5 = .ok (.ifCond .ne 13, 3) := by decide +kernel
theorem dX11_chance_8 : decode cX11_chance 8 = .ok (.iload_n 2, 1) := by decide +kernel
theorem dX11_chance_9 : decode cX11_chance 9 = .ok (.iconst 0, 1) := by decide +kernel
theorem dX11_chance_10 : decode cX11_chance 10 = .ok (.bipush 10, 2) := by decide +kernel
theorem dX11_chance_12 : decode cX11_chance 12 = .ok (.invokestatic 110, 3) := by decide +kernel
theorem dX11_chance_15 : decode cX11_chance 15 = .ok (.ifCond .eq 5, 3) := by decide +kernel
theorem dX11_chance_18 : decode cX11_chance 18 = .ok (.iconst (-1), 1) := by decide +kernel
theorem dX11_chance_19 : decode cX11_chance 19 = .ok (.ireturn, 1) := by decide +kernel
theorem dX11_chance_20 : decode cX11_chance 20 = .ok (.aload_n 0, 1) := by decide +kernel
theorem dX11_chance_21 : decode cX11_chance 21 = .ok (.getfield 12, 3) := by decide +kernel
theorem dX11_chance_24 : decode cX11_chance 24 = .ok (.getfield 157, 3) := by decide +kernel
theorem dX11_chance_27 : decode cX11_chance 27 = .ok (.iload_n 1, 1) := by decide +kernel
theorem dX11_chance_28 : decode cX11_chance 28 = .ok (.iaload, 1) := by decide +kernel
theorem dX11_chance_29 : decode cX11_chance 29 = .ok (.istore_n 3, 1) := by decide +kernel
theorem dX11_chance_30 : decode cX11_chance 30 = .ok (.aload_n 0, 1) := by decide +kernel
theorem dX11_chance_31 : decode cX11_chance 31 = .ok (.getfield 12, 3) := by decide +kernel
theorem dX11_chance_34 : decode cX11_chance 34 = .ok (.getfield 157, 3) := by decide +kernel
theorem dX11_chance_37 : decode cX11_chance 37 = .ok (.iload_n 1, 1) := by decide +kernel
theorem dX11_chance_38 : decode cX11_chance 38 = .ok (.iload_n 2, 1) := by decide +kernel
theorem dX11_chance_39 : decode cX11_chance 39 = .ok (.iastore, 1) := by decide +kernel
theorem dX11_chance_40 : decode cX11_chance 40 = .ok (.iload_n 3, 1) := by decide +kernel
theorem dX11_chance_41 : decode cX11_chance 41 = .ok (.ireturn, 1) := by decide +kernel
theorem dX11_kin_0 : decode cX11_kin 0 = .ok (.aload_n 0, 1) := by decide +kernel
theorem dX11_kin_1 : decode cX11_kin 1 = .ok (.getfield 12, 3) := by decide +kernel
theorem dX11_kin_4 : decode cX11_kin 4 = .ok (.iload_n 1, 1) := by decide +kernel
theorem dX11_kin_5 : decode cX11_kin 5 = .ok (.iload_n 2, 1) := by decide +kernel
theorem dX11_kin_6 : decode cX11_kin 6 = .ok (.invokevirtual 160, 3) := by decide +kernel
theorem dX11_kin_9 : decode cX11_kin 9 = .ok (.ireturn, 1) := by decide +kernel
theorem dX11_set_0 : decode cX11_set 0 = .ok (.aload_n 0, 1) := by decide +kernel
theorem dX11_set_1 : decode cX11_set 1 = .ok (.getfield 12, 3) := by decide +kernel
theorem dX11_set_4 : decode cX11_set 4 = .ok (.iload_n 1, 1) := by decide +kernel
theorem dX11_set_5 : decode cX11_set 5 = .ok (.iload_n 2, 1) := by decide +kernel
theorem dX11_set_6 : decode cX11_set 6 = .ok (.invokevirtual 163, 3) := by decide +kernel
theorem dX11_set_9 : decode cX11_set 9 = .ok (.ireturn, 1) := by decide +kernel
theorem dX11_fate_0 : decode cX11_fate 0 = .ok (.aload_n 0, 1) := by decide +kernel
theorem dX11_fate_1 : decode cX11_fate 1 = .ok (.iload_n 1, 1) := by decide +kernel
theorem dX11_fate_2 : decode cX11_fate 2 = .ok (.invokevirtual 81, 3) := by decide +kernel
theorem dX11_fate_5 : decode cX11_fate 5 = .ok (.ifCond .ne 13, 3) := by decide +kernel
theorem dX11_fate_8 : decode cX11_fate 8 = .ok (.iload_n 2, 1) := by decide +kernel
theorem dX11_fate_9 : decode cX11_fate 9 = .ok (.iconst 0, 1) := by decide +kernel
theorem dX11_fate_10 : decode cX11_fate 10 = .ok (.bipush 8, 2) := by decide +kernel
theorem dX11_fate_12 : decode cX11_fate 12 = .ok (.invokestatic 110, 3) := by decide +kernel
theorem dX11_fate_15 : decode cX11_fate 15 = .ok (.ifCond .eq 5, 3) := by decide +kernel
theorem dX11_fate_18 : decode cX11_fate 18 = .ok (.iconst (-1), 1) := by decide +kernel
theorem dX11_fate_19 : decode cX11_fate 19 = .ok (.ireturn, 1) := by decide +kernel
theorem dX11_fate_20 : decode cX11_fate 20 = .ok (.aload_n 0, 1) := by decide +kernel
theorem dX11_fate_21 : decode cX11_fate 21 = .ok (.getfield 31, 3) := by decide +kernel
theorem dX11_fate_24 : decode cX11_fate 24 = .ok (.aload_n 0, 1) := by decide +kernel
theorem dX11_fate_25 : decode cX11_fate 25 = .ok (.getfield 12, 3) := by decide +kernel
theorem dX11_fate_28 : decode cX11_fate 28 = .ok (.iconst (-1), 1) := by decide +kernel
theorem dX11_fate_29 : decode cX11_fate 29 = .ok (.invokevirtual 166, 3) := by decide +kernel
theorem dX11_fate_32 : decode cX11_fate 32 = .ok (.aload_n 0, 1) := by decide +kernel
theorem dX11_fate_33 : decode cX11_fate 33 = .ok (.getfield 31, 3) := by decide +kernel
theorem dX11_fate_36 : decode cX11_fate 36 = .ok (.iload_n 1, 1) := by decide +kernel
theorem dX11_fate_37 : decode cX11_fate 37 = .ok (.iload_n 2, 1) := by decide +kernel
theorem dX11_fate_38 : decode cX11_fate 38 = .ok (.invokevirtual 170, 3) := by decide +kernel
theorem dX11_fate_41 : decode cX11_fate 41 = .ok (.ireturn, 1) := by decide +kernel
theorem dX11_sum_0 : decode cX11_sum 0 = .ok (.aload_n 0, 1) := by decide +kernel
theorem dX11_sum_1 : decode cX11_sum 1 = .ok (.iload_n 1, 1) := by decide +kernel
theorem dX11_sum_2 : decode cX11_sum 2 = .ok (.invokevirtual 81, 3) := by decide +kernel
theorem dX11_sum_5 : decode cX11_sum 5 = .ok (.ifCond .eq 6, 3) := by decide +kernel
theorem dX11_sum_8 : decode cX11_sum 8 = .ok (.ldc 114, 2) := by decide +kernel
theorem dX11_sum_10 : decode cX11_sum 10 = .ok (.ireturn, 1) := by decide +kernel
theorem dX11_sum_11 : decode cX11_sum 11 = .ok (.aload_n 0, 1) := by decide +kernel
theorem dX11_sum_12 : decode cX11_sum 12 = .ok (.getfield 31, 3) := by decide +kernel
theorem dX11_sum_15 : decode cX11_sum 15 = .ok (.aload_n 0, 1) := by decide +kernel
theorem dX11_sum_16 : decode cX11_sum 16 = .ok (.getfield 12, 3) := by decide +kernel
theorem dX11_sum_19 : decode cX11_sum 19 = .ok (.iconst (-1), 1) := by decide +kernel
theorem dX11_sum_20 : decode cX11_sum 20 = .ok (.invokevirtual 166, 3) := by decide +kernel
theorem dX11_sum_23 : decode cX11_sum 23 = .ok (.aload_n 0, 1) := by decide +kernel
theorem dX11_sum_24 : decode cX11_sum 24 = .ok (.getfield 31, 3) := by decide +kernel
theorem dX11_sum_27 : decode cX11_sum 27 = .ok (.getfield 173, 3) := by decide +kernel
theorem dX11_sum_30 : decode cX11_sum 30 = .ok (.iload_n 1, 1) := by decide +kernel
theorem dX11_sum_31 : decode cX11_sum 31 = .ok (.iaload, 1) := by decide +kernel
theorem dX11_sum_32 : decode cX11_sum 32 = .ok (.ireturn, 1) := by decide +kernel
theorem dX11_sums_0 : decode cX11_sums 0 = .ok (.iload_n 1, 1) := by decide +kernel
theorem dX11_sums_1 : decode cX11_sums 1 = .ok (.iconst 0, 1) := by decide +kernel
theorem dX11_sums_2 : decode cX11_sums 2 = .ok (.iconst 5, 1) := by decide +kernel
theorem dX11_sums_3 : decode cX11_sums 3 = .ok (.invokestatic 110, 3) := by decide +kernel
theorem dX11_sums_6 : decode cX11_sums 6 = .ok (.ifCond .eq 5, 3) := by decide +kernel
theorem dX11_sums_9 : decode cX11_sums 9 = .ok (.iconst (-1), 1) := by decide +kernel
theorem dX11_sums_10 : decode cX11_sums 10 = .ok (.ireturn, 1) := by decide +kernel
theorem dX11_sums_11 : decode cX11_sums 11 = .ok (.aload_n 0, 1) := by decide +kernel
theorem dX11_sums_12 : decode cX11_sums 12 = .ok (.getfield 31, 3) := by decide +kernel
theorem dX11_sums_15 : decode cX11_sums 15 = .ok (.aload_n 0, 1) := by decide +kernel
theorem dX11_sums_16 : decode cX11_sums 16 = .ok (.getfield 12, 3) := by decide +kernel
theorem dX11_sums_19 : decode cX11_sums 19 = .ok (.iconst (-1), 1) := by decide +kernel
theorem dX11_sums_20 : decode cX11_sums 20 = .ok (.invokevirtual 166, 3) := by decide +kernel
theorem dX11_sums_23 : decode cX11_sums 23 = .ok (.aload_n 0, 1) := by decide +kernel
theorem dX11_sums_24 : decode cX11_sums 24 = .ok (.getfield 31, 3) := by decide +kernel
theorem dX11_sums_27 : decode cX11_sums 27 = .ok (.iload_n 1, 1) := by decide +kernel
theorem dX11_sums_28 : decode cX11_sums 28 = .ok (.invokevirtual 176, 3) := by decide +kernel
theorem dX11_sums_31 : decode cX11_sums 31 = .ok (.ireturn, 1) := by decide +kernel
theorem dX11_market_0 : decode cX11_market 0 = .ok (.iload_n 1, 1) := by decide +kernel
theorem dX11_market_1 : decode cX11_market 1 = .ok (.iconst 0, 1) := by decide +kernel
theorem dX11_market_2 : decode cX11_market 2 = .ok (.bipush 23, 2) := by decide +kernel
theorem dX11_market_4 : decode cX11_market 4 = .ok (.invokestatic 110, 3) := by decide +kernel
theorem dX11_market_7 : decode cX11_market 7 = .ok (.ifCond .eq 5, 3) := by decide +kernel
theorem dX11_market_10 : decode cX11_market 10 = .ok (.iconst (-1), 1) := by decide +kernel
theorem dX11_market_11 : decode cX11_market 11 = .ok (.ireturn, 1) := by decide +kernel
theorem dX11_market_12 : decode cX11_market 12 = .ok (.aload_n 0, 1) := by decide +kernel
theorem dX11_market_13 : decode cX11_market 13 = .ok (.getfield 31, 3) := by decide +kernel
theorem dX11_market_16 : decode cX11_market 16 = .ok (.aload_n 0, 1) := by decide +kernel
theorem dX11_market_17 : decode cX11_market 17 = .ok (.getfield 12, 3) := by decide +kernel
theorem dX11_market_20 : decode cX11_market 20 = .ok (.iconst (-1), 1) := by decide +kernel
theorem dX11_market_21 : decode cX11_market 21 = .ok (.invokevirtual 166, 3) := by decide +kernel
theorem dX11_market_24 : decode cX11_market 24 = .ok (.aload_n 0, 1) := by decide +kernel
theorem dX11_market_25 : decode cX11_market 25 = .ok (.getfield 31, 3) := by decide +kernel
theorem dX11_market_28 : decode cX11_market 28 = .ok (.iload_n 1, 1) := by decide +kernel
theorem dX11_market_29 : decode cX11_market 29 = .ok (.invokevirtual 179, 3) := by decide +kernel
theorem dX11_market_32 : decode cX11_market 32 = .ok (.ireturn, 1) := by decide +kernel
def b_X11_person_0 (v1 : Int32) (v2 : Int32) (S : St) : Option Int32 := (L_X11_isNobody v1 S).bind fun r1 => (if (r1 : Int32) = 0 then (if (v2 : Int32) = 0 then gd (inb v1 8) ((gr S (1 + 1) v1.toNatClampNeg).bind fun q5 => (gq S q5).bind fun k6 => some (nI k6.1)) else if (v2 : Int32) = 1 then gd (inb v1 8) ((gr S (1 + 1) v1.toNatClampNeg).bind fun q9 => (gq S q9).bind fun k10 => some k10.2) else if (v2 : Int32) = 2 then gd (inb v1 8) (some (gi S (1 + 3) v1.toNatClampNeg)) else if (v2 : Int32) = 3 then gd (inb v1 8) (some (gi S (1 + 4) v1.toNatClampNeg)) else if (v2 : Int32) = 4 then gd (inb v1 8) ((gr S (1 + 1) v1.toNatClampNeg).bind fun q17 => gd (inb v1 8) ((L_v_dueWhenTold q17 (gi S (1 + 4) v1.toNatClampNeg) S).bind fun r19 => some r19)) else if (v2 : Int32) = 5 then gd (inb v1 8) (some (gi S (1 + 6) v1.toNatClampNeg)) else if (v2 : Int32) = 6 then gd (inb v1 8) (some ((gi S (1 + 5) v1.toNatClampNeg) + 9)) else some ((-1))) else some ((-1)))
def L_X11_person (a1 : Int32) (a2 : Int32) (S : St) : Option Int32 := b_X11_person_0 a1 a2 S
def b_X11_weighs_0 (v1 : Int32) (v2 : Int32) (v3 : Int32) (S : St) : Option Int32 := (L_X11_isNobody v1 S).bind fun r1 => (if (r1 : Int32) = 0 then (L_X11_isOut v2 ((-9)) 9 S).bind fun r3 => (if (r3 : Int32) = 0 then (L_X11_isOut v3 ((-99)) 99 S).bind fun r5 => (if (r5 : Int32) = 0 then gd (inb v1 8) ((gr S (1 + 1) v1.toNatClampNeg).bind fun q8 => (L_v_sumOf q8 v2 v3 S).bind fun r9 => some r9) else some ((-1000000001))) else some ((-1000000001))) else some ((-1000000001)))
def L_X11_weighs (a1 : Int32) (a2 : Int32) (a3 : Int32) (S : St) : Option Int32 := b_X11_weighs_0 a1 a2 a3 S
def b_X11_strength_0 (v1 : Int32) (v2 : Int32) (S : St) : Option Int32 := (L_X11_isNobody v1 S).bind fun r1 => (if (r1 : Int32) = 0 then (L_X11_isOut v2 ((-999)) 999 S).bind fun r3 => (if (r3 : Int32) = 0 then gd (inb v1 8) ((gr S (1 + 1) v1.toNatClampNeg).bind fun q6 => (L_v_strengthOf q6 v2 S).bind fun r7 => some r7) else some ((-1))) else some ((-1)))
def L_X11_strength (a1 : Int32) (a2 : Int32) (S : St) : Option Int32 := b_X11_strength_0 a1 a2 S
def b_X11_price_0 (v1 : Int32) (v2 : Int32) (S : St) : Option Int32 := (L_X11_isNobody v1 S).bind fun r1 => (if (r1 : Int32) = 0 then (L_X11_isOut v2 0 999 S).bind fun r3 => (if (r3 : Int32) = 0 then gd (inb v1 8) ((gr S (1 + 1) v1.toNatClampNeg).bind fun q6 => gd (inb 2 3) ((L_v_priceOf q6 v2 (gi S (1 + 17) ((2 : Int32)).toNatClampNeg) S).bind fun r8 => some r8)) else some ((-1))) else some ((-1)))
def L_X11_price (a1 : Int32) (a2 : Int32) (S : St) : Option Int32 := b_X11_price_0 a1 a2 S
def b_X11_isNoShelf_10 (S : St) : Option Int32 := some 1
def b_X11_isNoShelf_0 (v0 : Int32) (S : St) : Option Int32 := (if (v0 : Int32) < 0 then (b_X11_isNoShelf_10 S) else (if (v0 : Int32) < 8 then some 0 else (b_X11_isNoShelf_10 S)))
def L_X11_isNoShelf (a0 : Int32) (S : St) : Option Int32 := b_X11_isNoShelf_0 a0 S
def b_X11_shelfRefusal_0 (v1 : Int32) (v2 : Int32) (S : St) : Option Int32 := (L_X11_isNoShelf v1 S).bind fun r1 => (if (r1 : Int32) = 0 then gd (inb v1 8) ((if (gi S 66 v1.toNatClampNeg : Int32) = 0 then some ((-11)) else gd (inb v1 8) ((if (gi S 66 v1.toNatClampNeg : Int32) = v2 then some 0 else some ((-12)))))) else some ((-1)))
def L_X11_shelfRefusal (a1 : Int32) (a2 : Int32) (S : St) : Option Int32 := b_X11_shelfRefusal_0 a1 a2 S
def b_X11_comes_0 (v1 : Int32) (v2 : Int32) (v3 : Int32) (v4 : Int32) (v5 : Int32) (S : St) : Option (Int32 × St) := (L_X11_isNoShelf v1 S).bind fun r1 => (if (r1 : Int32) = 0 then (L_X10_isNoOne v2 v3 v4 v5 S).bind fun r3 => (if (r3 : Int32) = 0 then (L_X11_shelfRefusal v1 1 S).bind fun r5 => (if (r5 : Int32) = 0 then gd (inb v1 8) ((gr S 67 v1.toNatClampNeg).bind fun q8 => (L_X10_addOne 1 q8 v2 v3 v4 v5 S).bind fun r9 => some (r9.1, r9.2)) else some (r5, S)) else some ((-1), S)) else some ((-1), S))
def L_X11_comes (a1 : Int32) (a2 : Int32) (a3 : Int32) (a4 : Int32) (a5 : Int32) (S : St) : Option (Int32 × St) := b_X11_comes_0 a1 a2 a3 a4 a5 S
def b_X11_leaves_0 (v1 : Int32) (S : St) : Option (Int32 × St) := (L_X11_isNobody v1 S).bind fun r1 => (if (r1 : Int32) = 0 then (L_X10_dropOne 1 v1 S).bind fun r3 => some (r3.1, r3.2) else some ((-1), S))
def L_X11_leaves (a1 : Int32) (S : St) : Option (Int32 × St) := b_X11_leaves_0 a1 S
def b_X11_mood_0 (v1 : Int32) (v2 : Int32) (S : St) : Option (Int32 × St) := (L_X11_isNobody v1 S).bind fun r1 => (if (r1 : Int32) = 0 then (L_X11_isOut v2 ((-9)) 9 S).bind fun r3 => (if (r3 : Int32) = 0 then gd (inb v1 8) (gd (inb v1 8) (nm (si S (1 + 5) v1.toNatClampNeg v2) fun S7 => some ((gi S (1 + 5) v1.toNatClampNeg) + 9, S7))) else some ((-1), S)) else some ((-1), S))
def L_X11_mood (a1 : Int32) (a2 : Int32) (S : St) : Option (Int32 × St) := b_X11_mood_0 a1 a2 S
def b_X11_coins_0 (v1 : Int32) (v2 : Int32) (S : St) : Option (Int32 × St) := (L_X11_isNobody v1 S).bind fun r1 => (if (r1 : Int32) = 0 then (L_X11_isOut v2 0 99 S).bind fun r3 => (if (r3 : Int32) = 0 then gd (inb v1 8) (gd (inb v1 8) (nm (si S (1 + 6) v1.toNatClampNeg v2) fun S7 => some (gi S (1 + 6) v1.toNatClampNeg, S7))) else some ((-1), S)) else some ((-1), S))
def L_X11_coins (a1 : Int32) (a2 : Int32) (S : St) : Option (Int32 × St) := b_X11_coins_0 a1 a2 S
def b_X11_fact_0 (v1 : Int32) (v2 : Int32) (v3 : Int32) (S : St) : Option (Int32 × St) := (L_X10_addFact 1 v1 v2 v3 S).bind fun r1 => some (r1.1, r1.2)
def L_X11_fact (a1 : Int32) (a2 : Int32) (a3 : Int32) (S : St) : Option (Int32 × St) := b_X11_fact_0 a1 a2 a3 S
def b_X11_isNoFact_15 (S : St) : Option Int32 := some 1
def b_X11_isNoFact_0 (v1 : Int32) (S : St) : Option Int32 := (if (v1 : Int32) < 0 then (b_X11_isNoFact_15 S) else (if (v1 : Int32) < (gi S 1 6) then some 0 else (b_X11_isNoFact_15 S)))
def L_X11_isNoFact (a1 : Int32) (S : St) : Option Int32 := b_X11_isNoFact_0 a1 S
def b_X11_about_0 (v1 : Int32) (v2 : Int32) (S : St) : Option Int32 := (L_X11_isNoFact v1 S).bind fun r1 => (if (r1 : Int32) = 0 then (if (v2 : Int32) = 0 then gd (inb v1 6) (some (gi S (1 + 7) v1.toNatClampNeg)) else if (v2 : Int32) = 1 then gd (inb v1 6) (some ((gi S (1 + 8) v1.toNatClampNeg) + 9)) else if (v2 : Int32) = 2 then gd (inb v1 6) (some (gi S (1 + 9) v1.toNatClampNeg)) else if (v2 : Int32) = 3 then gd (inb v1 6) (some (gi S (1 + 10) v1.toNatClampNeg)) else some ((-1))) else some ((-1)))
def L_X11_about (a1 : Int32) (a2 : Int32) (S : St) : Option Int32 := b_X11_about_0 a1 a2 S
def b_X11_chance_0 (v1 : Int32) (v2 : Int32) (S : St) : Option (Int32 × St) := (L_X11_isNoFact v1 S).bind fun r1 => (if (r1 : Int32) = 0 then (L_X11_isOut v2 0 10 S).bind fun r3 => (if (r3 : Int32) = 0 then gd (inb v1 6) (gd (inb v1 6) (nm (si S (1 + 10) v1.toNatClampNeg v2) fun S7 => some (gi S (1 + 10) v1.toNatClampNeg, S7))) else some ((-1), S)) else some ((-1), S))
def L_X11_chance (a1 : Int32) (a2 : Int32) (S : St) : Option (Int32 × St) := b_X11_chance_0 a1 a2 S
def b_X11_kin_0 (v1 : Int32) (v2 : Int32) (S : St) : Option (Int32 × St) := (L_X10_turnKin 1 v1 v2 S).bind fun r1 => some (r1.1, r1.2)
def L_X11_kin (a1 : Int32) (a2 : Int32) (S : St) : Option (Int32 × St) := b_X11_kin_0 a1 a2 S
def b_X11_set_0 (v1 : Int32) (v2 : Int32) (S : St) : Option (Int32 × St) := (L_X10_changeRule 1 v1 v2 S).bind fun r1 => some (r1.1, r1.2)
def L_X11_set (a1 : Int32) (a2 : Int32) (S : St) : Option (Int32 × St) := b_X11_set_0 a1 a2 S
def b_X11_fate_0 (v1 : Int32) (v2 : Int32) (S : St) : Option (Int32 × St) := (L_X11_isNobody v1 S).bind fun r1 => (if (r1 : Int32) = 0 then (L_X11_isOut v2 0 8 S).bind fun r3 => (if (r3 : Int32) = 0 then (L_X2_run 1 ((-1)) S).bind fun r5 => (L_X2_fateOf v1 v2 r5).bind fun r6 => some (r6, r5) else some ((-1), S)) else some ((-1), S))
def L_X11_fate (a1 : Int32) (a2 : Int32) (S : St) : Option (Int32 × St) := b_X11_fate_0 a1 a2 S
def b_X11_sum_0 (v1 : Int32) (S : St) : Option (Int32 × St) := (L_X11_isNobody v1 S).bind fun r1 => (if (r1 : Int32) = 0 then (L_X2_run 1 ((-1)) S).bind fun r3 => gd (inb v1 8) (some (gi r3 57 v1.toNatClampNeg, r3)) else some ((-1000000001), S))
def L_X11_sum (a1 : Int32) (S : St) : Option (Int32 × St) := b_X11_sum_0 a1 S
def b_X11_sums_0 (v1 : Int32) (S : St) : Option (Int32 × St) := (L_X11_isOut v1 0 5 S).bind fun r1 => (if (r1 : Int32) = 0 then (L_X2_run 1 ((-1)) S).bind fun r3 => (L_X2_countOf v1 r3).bind fun r4 => some (r4, r3) else some ((-1), S))
def L_X11_sums (a1 : Int32) (S : St) : Option (Int32 × St) := b_X11_sums_0 a1 S
def b_X11_market_0 (v1 : Int32) (S : St) : Option (Int32 × St) := (L_X11_isOut v1 0 23 S).bind fun r1 => (if (r1 : Int32) = 0 then (L_X2_run 1 ((-1)) S).bind fun r3 => (L_X2_marketAt v1 r3).bind fun r4 => some (r4, r3) else some ((-1), S))
def L_X11_market (a1 : Int32) (S : St) : Option (Int32 × St) := b_X11_market_0 a1 S
section WALKS
variable {p : Program} {e : Env} {s : State} {m : MethodId} {args : Array Value} {below : List Frame} {meth : Method} {c : Code} {D : va_G} {ct : Nat → ClassId} {B : Nat} {Hb : Heap}
set_option maxRecDepth 100000 in
set_option maxHeartbeats 4000000 in
theorem w_X11_person_0 (l : Launch) {V : Int32} (C0 : XC D ct p s m args meth c cX11_person 3 (some .int) RX11) (v1 : Int32) (v2 : Int32) (S : St) {H : Heap} {locs : List Loc} {ls : Array Slot} (h : (b_X11_person_0 v1 v2 S).bind some = some V) (hP : MP D ct B Hb S H) (hS : va_S (AB B) s.heap H locs) (hl : lv_has ls 3 [(0, .ref (B + 0)), (1, .int v1), (2, .int v2)]) : W p l e { frames := 2, cells := 0, slots := 0, locals := 42 } s m args below meth c H locs 0 0 (MQ below (qI D ct B Hb S V) args s 0 0 (AB B)) (F0 m 0 ls []) := by
  obtain ⟨hx, hb, hr, hml, hown, hts, hK, hlocks, hN⟩ := id C0
  unfold b_X11_person_0 at h
  refine lv_aload_n hx hb dX11_person_0 rfl (lv_at hl 0 rfl) ?_
  refine lv_iload_n hx hb dX11_person_1 rfl (lv_at hl 1 rfl) ?_
  obtain ⟨r1, hr1, h⟩ := ob_bd h
  refine n_I (kV (As := [.int v1]) C0 (c_X11_isNobody l v1 hr1) ⟨wd_477, wd_474, wd_476, wp_2, wd_1⟩ kd_X11_isNobody ⟨Nat.le_of_ble_eq_true rfl, Nat.le_of_ble_eq_true rfl⟩ hP (lay_X11 B ct S) rfl rfl hl.1 rfl (Nat.le_of_ble_eq_true rfl) dX11_person_2 ⟨Nat.le_of_ble_eq_true rfl, Nat.le_of_ble_eq_true rfl⟩) hS (fun H locs hP hS => ?_)
  refine lv_if_eq (tgt := 10) hx hb dX11_person_5 (by decide) (fun z2 => ?_) (fun z2 => ?_)
  · have h := ob_t h z2
    refine lv_iload_n hx hb dX11_person_10 rfl (lv_at hl 2 rfl) ?_
    rcases Decidable.em ((v2 : Int32) = 0) with z3 | z3
    · have h := ob_t h z3
      refine lv_tableIn (x := v2) (off := 41) (tgt := 52) hx hb dX11_person_11 (by rw [z3]; decide) (by rw [z3]; decide) (by rw [z3]; decide) (by decide) ?_
      refine lv_aload_n hx hb dX11_person_52 rfl (lv_at hl 0 rfl) ?_
      refine x_get C0 hP (lay_X11 B ct S) rfl inG11 0 (by decide) wd_219 (fun _ h => h) rfl dX11_person_53 ?_
      refine x_get C0 hP (lay_X10 B ct S (Or.inl rfl)) rfl inG10 1 (by decide) wd_66 (fun _ h => h) rfl dX11_person_56 ?_
      refine lv_iload_n hx hb dX11_person_59 rfl (lv_at hl 1 rfl) ?_
      obtain ⟨g4, h⟩ := ob_gd h
      obtain ⟨q5, eq5, h⟩ := ob_bd h
      refine x_aald (v := .ref (B + q5)) C0 hP ((fun S => lay_t1 B ct S (Or.inl rfl)) S) rfl rfl g4 (by show va_rf ((gr S (1 + 1) v1.toNatClampNeg).map (B + ·)) = _; rw [eq5]; rfl) dX11_person_60 ?_
      obtain ⟨k6, ek6, h⟩ := ob_bd h
      refine x_pl C0 hP ek6 0 (by decide) (Or.inl ⟨rfl, rfl⟩) wd_49 (fun _ h => h) rfl dX11_person_61 ?_
      exact r_I C0 hP hS h dX11_person_64
    · have h := ob_f h z3
      rcases Decidable.em ((v2 : Int32) = 1) with z7 | z7
      · have h := ob_t h z7
        refine lv_tableIn (x := v2) (off := 54) (tgt := 65) hx hb dX11_person_11 (by rw [z7]; decide) (by rw [z7]; decide) (by rw [z7]; decide) (by decide) ?_
        refine lv_aload_n hx hb dX11_person_65 rfl (lv_at hl 0 rfl) ?_
        refine x_get C0 hP (lay_X11 B ct S) rfl inG11 0 (by decide) wd_219 (fun _ h => h) rfl dX11_person_66 ?_
        refine x_get C0 hP (lay_X10 B ct S (Or.inl rfl)) rfl inG10 1 (by decide) wd_66 (fun _ h => h) rfl dX11_person_69 ?_
        refine lv_iload_n hx hb dX11_person_72 rfl (lv_at hl 1 rfl) ?_
        obtain ⟨g8, h⟩ := ob_gd h
        obtain ⟨q9, eq9, h⟩ := ob_bd h
        refine x_aald (v := .ref (B + q9)) C0 hP ((fun S => lay_t1 B ct S (Or.inl rfl)) S) rfl rfl g8 (by show va_rf ((gr S (1 + 1) v1.toNatClampNeg).map (B + ·)) = _; rw [eq9]; rfl) dX11_person_73 ?_
        obtain ⟨k10, ek10, h⟩ := ob_bd h
        refine x_pl C0 hP ek10 1 (by decide) (Or.inr ⟨rfl, rfl⟩) wd_55 (fun _ h => h) rfl dX11_person_74 ?_
        exact r_I C0 hP hS h dX11_person_77
      · have h := ob_f h z7
        rcases Decidable.em ((v2 : Int32) = 2) with z11 | z11
        · have h := ob_t h z11
          refine lv_tableIn (x := v2) (off := 67) (tgt := 78) hx hb dX11_person_11 (by rw [z11]; decide) (by rw [z11]; decide) (by rw [z11]; decide) (by decide) ?_
          refine lv_aload_n hx hb dX11_person_78 rfl (lv_at hl 0 rfl) ?_
          refine x_get C0 hP (lay_X11 B ct S) rfl inG11 0 (by decide) wd_219 (fun _ h => h) rfl dX11_person_79 ?_
          refine x_get C0 hP (lay_X10 B ct S (Or.inl rfl)) rfl inG10 2 (by decide) wd_68 (fun _ h => h) rfl dX11_person_82 ?_
          refine lv_iload_n hx hb dX11_person_85 rfl (lv_at hl 1 rfl) ?_
          obtain ⟨g12, h⟩ := ob_gd h
          refine x_iald C0 hP ((fun S => lay_t3 B ct S (Or.inl rfl)) S) g12 dX11_person_86 ?_
          exact r_I C0 hP hS h dX11_person_87
        · have h := ob_f h z11
          rcases Decidable.em ((v2 : Int32) = 3) with z13 | z13
          · have h := ob_t h z13
            refine lv_tableIn (x := v2) (off := 77) (tgt := 88) hx hb dX11_person_11 (by rw [z13]; decide) (by rw [z13]; decide) (by rw [z13]; decide) (by decide) ?_
            refine lv_aload_n hx hb dX11_person_88 rfl (lv_at hl 0 rfl) ?_
            refine x_get C0 hP (lay_X11 B ct S) rfl inG11 0 (by decide) wd_219 (fun _ h => h) rfl dX11_person_89 ?_
            refine x_get C0 hP (lay_X10 B ct S (Or.inl rfl)) rfl inG10 3 (by decide) wd_72 (fun _ h => h) rfl dX11_person_92 ?_
            refine lv_iload_n hx hb dX11_person_95 rfl (lv_at hl 1 rfl) ?_
            obtain ⟨g14, h⟩ := ob_gd h
            refine x_iald C0 hP ((fun S => lay_t4 B ct S (Or.inl rfl)) S) g14 dX11_person_96 ?_
            exact r_I C0 hP hS h dX11_person_97
          · have h := ob_f h z13
            rcases Decidable.em ((v2 : Int32) = 4) with z15 | z15
            · have h := ob_t h z15
              refine lv_tableIn (x := v2) (off := 87) (tgt := 98) hx hb dX11_person_11 (by rw [z15]; decide) (by rw [z15]; decide) (by rw [z15]; decide) (by decide) ?_
              refine lv_aload_n hx hb dX11_person_98 rfl (lv_at hl 0 rfl) ?_
              refine x_get C0 hP (lay_X11 B ct S) rfl inG11 0 (by decide) wd_219 (fun _ h => h) rfl dX11_person_99 ?_
              refine x_get C0 hP (lay_X10 B ct S (Or.inl rfl)) rfl inG10 1 (by decide) wd_66 (fun _ h => h) rfl dX11_person_102 ?_
              refine lv_iload_n hx hb dX11_person_105 rfl (lv_at hl 1 rfl) ?_
              obtain ⟨g16, h⟩ := ob_gd h
              obtain ⟨q17, eq17, h⟩ := ob_bd h
              refine x_aald (v := .ref (B + q17)) C0 hP ((fun S => lay_t1 B ct S (Or.inl rfl)) S) rfl rfl g16 (by show va_rf ((gr S (1 + 1) v1.toNatClampNeg).map (B + ·)) = _; rw [eq17]; rfl) dX11_person_106 ?_
              refine lv_aload_n hx hb dX11_person_107 rfl (lv_at hl 0 rfl) ?_
              refine x_get C0 hP (lay_X11 B ct S) rfl inG11 0 (by decide) wd_219 (fun _ h => h) rfl dX11_person_108 ?_
              refine x_get C0 hP (lay_X10 B ct S (Or.inl rfl)) rfl inG10 3 (by decide) wd_72 (fun _ h => h) rfl dX11_person_111 ?_
              refine lv_iload_n hx hb dX11_person_114 rfl (lv_at hl 1 rfl) ?_
              obtain ⟨g18, h⟩ := ob_gd h
              refine x_iald C0 hP ((fun S => lay_t4 B ct S (Or.inl rfl)) S) g18 dX11_person_115 ?_
              obtain ⟨r19, hr19, h⟩ := ob_bd h
              refine n_I (kv_dueWhenTold l C0 wd_478 q17 (gi S (1 + 4) v1.toNatClampNeg) hr19 ⟨Nat.le_of_ble_eq_true rfl, Nat.le_of_ble_eq_true rfl⟩ hP hl.1 rfl (Nat.le_of_ble_eq_true rfl) dX11_person_116) hS (fun H locs hP hS => ?_)
              exact r_I C0 hP hS h dX11_person_119
            · have h := ob_f h z15
              rcases Decidable.em ((v2 : Int32) = 5) with z20 | z20
              · have h := ob_t h z20
                refine lv_tableIn (x := v2) (off := 109) (tgt := 120) hx hb dX11_person_11 (by rw [z20]; decide) (by rw [z20]; decide) (by rw [z20]; decide) (by decide) ?_
                refine lv_aload_n hx hb dX11_person_120 rfl (lv_at hl 0 rfl) ?_
                refine x_get C0 hP (lay_X11 B ct S) rfl inG11 0 (by decide) wd_219 (fun _ h => h) rfl dX11_person_121 ?_
                refine x_get C0 hP (lay_X10 B ct S (Or.inl rfl)) rfl inG10 5 (by decide) wd_77 (fun _ h => h) rfl dX11_person_124 ?_
                refine lv_iload_n hx hb dX11_person_127 rfl (lv_at hl 1 rfl) ?_
                obtain ⟨g21, h⟩ := ob_gd h
                refine x_iald C0 hP ((fun S => lay_t6 B ct S (Or.inl rfl)) S) g21 dX11_person_128 ?_
                exact r_I C0 hP hS h dX11_person_129
              · have h := ob_f h z20
                rcases Decidable.em ((v2 : Int32) = 6) with z22 | z22
                · have h := ob_t h z22
                  refine lv_tableIn (x := v2) (off := 119) (tgt := 130) hx hb dX11_person_11 (by rw [z22]; decide) (by rw [z22]; decide) (by rw [z22]; decide) (by decide) ?_
                  refine lv_aload_n hx hb dX11_person_130 rfl (lv_at hl 0 rfl) ?_
                  refine x_get C0 hP (lay_X11 B ct S) rfl inG11 0 (by decide) wd_219 (fun _ h => h) rfl dX11_person_131 ?_
                  refine x_get C0 hP (lay_X10 B ct S (Or.inl rfl)) rfl inG10 4 (by decide) wd_74 (fun _ h => h) rfl dX11_person_134 ?_
                  refine lv_iload_n hx hb dX11_person_137 rfl (lv_at hl 1 rfl) ?_
                  obtain ⟨g23, h⟩ := ob_gd h
                  refine x_iald C0 hP ((fun S => lay_t5 B ct S (Or.inl rfl)) S) g23 dX11_person_138 ?_
                  refine lv_bipush (v := 9) hx hb dX11_person_139 (by decide) ?_
                  refine lv_iadd hx hb dX11_person_141 ?_
                  exact r_I C0 hP hS h dX11_person_142
                · have h := ob_f h z22
                  refine lv_tableOut (x := v2) (tgt := 143) hx hb dX11_person_11 (sw_0_7 z3 z7 z11 z13 z15 z20 z22) (by decide) ?_
                  refine lv_iconst (v := (-1)) hx hb dX11_person_143 (by decide) ?_
                  exact r_I C0 hP hS h dX11_person_144
  · have h := ob_f h z2
    refine lv_iconst (v := (-1)) hx hb dX11_person_8 (by decide) ?_
    exact r_I C0 hP hS h dX11_person_9
set_option maxRecDepth 100000 in
set_option maxHeartbeats 4000000 in
theorem c_X11_person (l : Launch) (a1 : Int32) (a2 : Int32) {D : va_G} {ct : Nat → ClassId} {B : Nat} {Hb : Heap} {S : St} {V : Int32} (h : L_X11_person a1 a2 S = some V) : Met l yX11_person (Cond.code yX11_person cX11_person 3 (some .int) :: tG) { frames := 2, cells := 0, slots := 0, locals := 42 } (va_Pc [.ref (B + 0), .int a1, .int a2] (MPK D ct B Hb S)) (qI D ct B Hb S V) 0 0 (AB B) := by
  refine mk_met (by decide +kernel) (Nat.le_of_ble_eq_true rfl) (fun p e s m args below meth c ls C0 hP hl _ => ?_)
  have h := ob_of h
  exact w_X11_person_0 l C0 a1 a2 S h hP va_S.rf (lv_sub hl [0, 1, 2] rfl)
set_option maxRecDepth 100000 in
set_option maxHeartbeats 4000000 in
theorem w_X11_weighs_0 (l : Launch) {V : Int32} (C0 : XC D ct p s m args meth c cX11_weighs 4 (some .int) RX11) (v1 : Int32) (v2 : Int32) (v3 : Int32) (S : St) {H : Heap} {locs : List Loc} {ls : Array Slot} (h : (b_X11_weighs_0 v1 v2 v3 S).bind some = some V) (hP : MP D ct B Hb S H) (hS : va_S (AB B) s.heap H locs) (hl : lv_has ls 4 [(0, .ref (B + 0)), (1, .int v1), (2, .int v2), (3, .int v3)]) : W p l e { frames := 3, cells := 0, slots := 0, locals := 66 } s m args below meth c H locs 0 0 (MQ below (qI D ct B Hb S V) args s 0 0 (AB B)) (F0 m 0 ls []) := by
  obtain ⟨hx, hb, hr, hml, hown, hts, hK, hlocks, hN⟩ := id C0
  unfold b_X11_weighs_0 at h
  refine lv_aload_n hx hb dX11_weighs_0 rfl (lv_at hl 0 rfl) ?_
  refine lv_iload_n hx hb dX11_weighs_1 rfl (lv_at hl 1 rfl) ?_
  obtain ⟨r1, hr1, h⟩ := ob_bd h
  refine n_I (kV (As := [.int v1]) C0 (c_X11_isNobody l v1 hr1) ⟨wd_477, wd_474, wd_476, wp_2, wd_1⟩ kd_X11_isNobody ⟨Nat.le_of_ble_eq_true rfl, Nat.le_of_ble_eq_true rfl⟩ hP (lay_X11 B ct S) rfl rfl hl.1 rfl (Nat.le_of_ble_eq_true rfl) dX11_weighs_2 ⟨Nat.le_of_ble_eq_true rfl, Nat.le_of_ble_eq_true rfl⟩) hS (fun H locs hP hS => ?_)
  refine lv_if_ne (tgt := 30) hx hb dX11_weighs_5 (by decide) (fun z2 => ?_) (fun z2 => ?_)
  · have h := ob_f h z2
    refine lv_ldc (v := (-1000000001)) hx hb hown (hts _ wd_501) dX11_weighs_30 ?_
    exact r_I C0 hP hS h dX11_weighs_32
  · have h := ob_t h z2
    refine lv_iload_n hx hb dX11_weighs_8 rfl (lv_at hl 2 rfl) ?_
    refine lv_bipush (v := (-9)) hx hb dX11_weighs_9 (by decide) ?_
    refine lv_bipush (v := 9) hx hb dX11_weighs_11 (by decide) ?_
    obtain ⟨r3, hr3, h⟩ := ob_bd h
    refine n_I (kS (As := [.int v2, .int ((-9)), .int 9]) C0 (c_X11_isOut l v2 ((-9)) 9 hr3) ⟨wd_378, wd_500, wd_377, wd_1⟩ kd_X11_isOut ⟨Nat.le_of_ble_eq_true rfl, Nat.le_of_ble_eq_true rfl⟩ hP rfl hl.1 rfl (Nat.le_of_ble_eq_true rfl) dX11_weighs_13 ⟨Nat.le_of_ble_eq_true rfl, Nat.le_of_ble_eq_true rfl⟩) hS (fun H locs hP hS => ?_)
    refine lv_if_ne (tgt := 30) hx hb dX11_weighs_16 (by decide) (fun z4 => ?_) (fun z4 => ?_)
    · have h := ob_f h z4
      refine lv_ldc (v := (-1000000001)) hx hb hown (hts _ wd_501) dX11_weighs_30 ?_
      exact r_I C0 hP hS h dX11_weighs_32
    · have h := ob_t h z4
      refine lv_iload_n hx hb dX11_weighs_19 rfl (lv_at hl 3 rfl) ?_
      refine lv_bipush (v := (-99)) hx hb dX11_weighs_20 (by decide) ?_
      refine lv_bipush (v := 99) hx hb dX11_weighs_22 (by decide) ?_
      obtain ⟨r5, hr5, h⟩ := ob_bd h
      refine n_I (kS (As := [.int v3, .int ((-99)), .int 99]) C0 (c_X11_isOut l v3 ((-99)) 99 hr5) ⟨wd_378, wd_500, wd_377, wd_1⟩ kd_X11_isOut ⟨Nat.le_of_ble_eq_true rfl, Nat.le_of_ble_eq_true rfl⟩ hP rfl hl.1 rfl (Nat.le_of_ble_eq_true rfl) dX11_weighs_24 ⟨Nat.le_of_ble_eq_true rfl, Nat.le_of_ble_eq_true rfl⟩) hS (fun H locs hP hS => ?_)
      refine lv_if_eq (tgt := 33) hx hb dX11_weighs_27 (by decide) (fun z6 => ?_) (fun z6 => ?_)
      · have h := ob_t h z6
        refine lv_aload_n hx hb dX11_weighs_33 rfl (lv_at hl 0 rfl) ?_
        refine x_get C0 hP (lay_X11 B ct S) rfl inG11 0 (by decide) wd_219 (fun _ h => h) rfl dX11_weighs_34 ?_
        refine x_get C0 hP (lay_X10 B ct S (Or.inl rfl)) rfl inG10 1 (by decide) wd_66 (fun _ h => h) rfl dX11_weighs_37 ?_
        refine lv_iload_n hx hb dX11_weighs_40 rfl (lv_at hl 1 rfl) ?_
        obtain ⟨g7, h⟩ := ob_gd h
        obtain ⟨q8, eq8, h⟩ := ob_bd h
        refine x_aald (v := .ref (B + q8)) C0 hP ((fun S => lay_t1 B ct S (Or.inl rfl)) S) rfl rfl g7 (by show va_rf ((gr S (1 + 1) v1.toNatClampNeg).map (B + ·)) = _; rw [eq8]; rfl) dX11_weighs_41 ?_
        refine lv_iload_n hx hb dX11_weighs_42 rfl (lv_at hl 2 rfl) ?_
        refine lv_iload_n hx hb dX11_weighs_43 rfl (lv_at hl 3 rfl) ?_
        obtain ⟨r9, hr9, h⟩ := ob_bd h
        refine n_I (kv_sumOf l C0 wd_502 q8 v2 v3 hr9 ⟨Nat.le_of_ble_eq_true rfl, Nat.le_of_ble_eq_true rfl⟩ hP hl.1 rfl (Nat.le_of_ble_eq_true rfl) dX11_weighs_44) hS (fun H locs hP hS => ?_)
        exact r_I C0 hP hS h dX11_weighs_47
      · have h := ob_f h z6
        refine lv_ldc (v := (-1000000001)) hx hb hown (hts _ wd_501) dX11_weighs_30 ?_
        exact r_I C0 hP hS h dX11_weighs_32
set_option maxRecDepth 100000 in
set_option maxHeartbeats 4000000 in
theorem c_X11_weighs (l : Launch) (a1 : Int32) (a2 : Int32) (a3 : Int32) {D : va_G} {ct : Nat → ClassId} {B : Nat} {Hb : Heap} {S : St} {V : Int32} (h : L_X11_weighs a1 a2 a3 S = some V) : Met l yX11_weighs (Cond.code yX11_weighs cX11_weighs 4 (some .int) :: tG) { frames := 3, cells := 0, slots := 0, locals := 66 } (va_Pc [.ref (B + 0), .int a1, .int a2, .int a3] (MPK D ct B Hb S)) (qI D ct B Hb S V) 0 0 (AB B) := by
  refine mk_met (by decide +kernel) (Nat.le_of_ble_eq_true rfl) (fun p e s m args below meth c ls C0 hP hl _ => ?_)
  have h := ob_of h
  exact w_X11_weighs_0 l C0 a1 a2 a3 S h hP va_S.rf (lv_sub hl [0, 1, 2, 3] rfl)
set_option maxRecDepth 100000 in
set_option maxHeartbeats 4000000 in
theorem w_X11_strength_0 (l : Launch) {V : Int32} (C0 : XC D ct p s m args meth c cX11_strength 3 (some .int) RX11) (v1 : Int32) (v2 : Int32) (S : St) {H : Heap} {locs : List Loc} {ls : Array Slot} (h : (b_X11_strength_0 v1 v2 S).bind some = some V) (hP : MP D ct B Hb S H) (hS : va_S (AB B) s.heap H locs) (hl : lv_has ls 3 [(0, .ref (B + 0)), (1, .int v1), (2, .int v2)]) : W p l e { frames := 3, cells := 0, slots := 0, locals := 63 } s m args below meth c H locs 0 0 (MQ below (qI D ct B Hb S V) args s 0 0 (AB B)) (F0 m 0 ls []) := by
  obtain ⟨hx, hb, hr, hml, hown, hts, hK, hlocks, hN⟩ := id C0
  unfold b_X11_strength_0 at h
  refine lv_aload_n hx hb dX11_strength_0 rfl (lv_at hl 0 rfl) ?_
  refine lv_iload_n hx hb dX11_strength_1 rfl (lv_at hl 1 rfl) ?_
  obtain ⟨r1, hr1, h⟩ := ob_bd h
  refine n_I (kV (As := [.int v1]) C0 (c_X11_isNobody l v1 hr1) ⟨wd_477, wd_474, wd_476, wp_2, wd_1⟩ kd_X11_isNobody ⟨Nat.le_of_ble_eq_true rfl, Nat.le_of_ble_eq_true rfl⟩ hP (lay_X11 B ct S) rfl rfl hl.1 rfl (Nat.le_of_ble_eq_true rfl) dX11_strength_2 ⟨Nat.le_of_ble_eq_true rfl, Nat.le_of_ble_eq_true rfl⟩) hS (fun H locs hP hS => ?_)
  refine lv_if_ne (tgt := 21) hx hb dX11_strength_5 (by decide) (fun z2 => ?_) (fun z2 => ?_)
  · have h := ob_f h z2
    refine lv_iconst (v := (-1)) hx hb dX11_strength_21 (by decide) ?_
    exact r_I C0 hP hS h dX11_strength_22
  · have h := ob_t h z2
    refine lv_iload_n hx hb dX11_strength_8 rfl (lv_at hl 2 rfl) ?_
    refine lv_sipush (v := (-999)) hx hb dX11_strength_9 (by decide) ?_
    refine lv_sipush (v := 999) hx hb dX11_strength_12 (by decide) ?_
    obtain ⟨r3, hr3, h⟩ := ob_bd h
    refine n_I (kS (As := [.int v2, .int ((-999)), .int 999]) C0 (c_X11_isOut l v2 ((-999)) 999 hr3) ⟨wd_378, wd_500, wd_377, wd_1⟩ kd_X11_isOut ⟨Nat.le_of_ble_eq_true rfl, Nat.le_of_ble_eq_true rfl⟩ hP rfl hl.1 rfl (Nat.le_of_ble_eq_true rfl) dX11_strength_15 ⟨Nat.le_of_ble_eq_true rfl, Nat.le_of_ble_eq_true rfl⟩) hS (fun H locs hP hS => ?_)
    refine lv_if_eq (tgt := 23) hx hb dX11_strength_18 (by decide) (fun z4 => ?_) (fun z4 => ?_)
    · have h := ob_t h z4
      refine lv_aload_n hx hb dX11_strength_23 rfl (lv_at hl 0 rfl) ?_
      refine x_get C0 hP (lay_X11 B ct S) rfl inG11 0 (by decide) wd_219 (fun _ h => h) rfl dX11_strength_24 ?_
      refine x_get C0 hP (lay_X10 B ct S (Or.inl rfl)) rfl inG10 1 (by decide) wd_66 (fun _ h => h) rfl dX11_strength_27 ?_
      refine lv_iload_n hx hb dX11_strength_30 rfl (lv_at hl 1 rfl) ?_
      obtain ⟨g5, h⟩ := ob_gd h
      obtain ⟨q6, eq6, h⟩ := ob_bd h
      refine x_aald (v := .ref (B + q6)) C0 hP ((fun S => lay_t1 B ct S (Or.inl rfl)) S) rfl rfl g5 (by show va_rf ((gr S (1 + 1) v1.toNatClampNeg).map (B + ·)) = _; rw [eq6]; rfl) dX11_strength_31 ?_
      refine lv_iload_n hx hb dX11_strength_32 rfl (lv_at hl 2 rfl) ?_
      obtain ⟨r7, hr7, h⟩ := ob_bd h
      refine n_I (kv_strengthOf l C0 wd_529 q6 v2 hr7 ⟨Nat.le_of_ble_eq_true rfl, Nat.le_of_ble_eq_true rfl⟩ hP hl.1 rfl (Nat.le_of_ble_eq_true rfl) dX11_strength_33) hS (fun H locs hP hS => ?_)
      exact r_I C0 hP hS h dX11_strength_36
    · have h := ob_f h z4
      refine lv_iconst (v := (-1)) hx hb dX11_strength_21 (by decide) ?_
      exact r_I C0 hP hS h dX11_strength_22
set_option maxRecDepth 100000 in
set_option maxHeartbeats 4000000 in
theorem c_X11_strength (l : Launch) (a1 : Int32) (a2 : Int32) {D : va_G} {ct : Nat → ClassId} {B : Nat} {Hb : Heap} {S : St} {V : Int32} (h : L_X11_strength a1 a2 S = some V) : Met l yX11_strength (Cond.code yX11_strength cX11_strength 3 (some .int) :: tG) { frames := 3, cells := 0, slots := 0, locals := 63 } (va_Pc [.ref (B + 0), .int a1, .int a2] (MPK D ct B Hb S)) (qI D ct B Hb S V) 0 0 (AB B) := by
  refine mk_met (by decide +kernel) (Nat.le_of_ble_eq_true rfl) (fun p e s m args below meth c ls C0 hP hl _ => ?_)
  have h := ob_of h
  exact w_X11_strength_0 l C0 a1 a2 S h hP va_S.rf (lv_sub hl [0, 1, 2] rfl)
set_option maxRecDepth 100000 in
set_option maxHeartbeats 4000000 in
theorem w_X11_price_0 (l : Launch) {V : Int32} (C0 : XC D ct p s m args meth c cX11_price 3 (some .int) RX11) (v1 : Int32) (v2 : Int32) (S : St) {H : Heap} {locs : List Loc} {ls : Array Slot} (h : (b_X11_price_0 v1 v2 S).bind some = some V) (hP : MP D ct B Hb S H) (hS : va_S (AB B) s.heap H locs) (hl : lv_has ls 3 [(0, .ref (B + 0)), (1, .int v1), (2, .int v2)]) : W p l e { frames := 3, cells := 0, slots := 0, locals := 66 } s m args below meth c H locs 0 0 (MQ below (qI D ct B Hb S V) args s 0 0 (AB B)) (F0 m 0 ls []) := by
  obtain ⟨hx, hb, hr, hml, hown, hts, hK, hlocks, hN⟩ := id C0
  unfold b_X11_price_0 at h
  refine lv_aload_n hx hb dX11_price_0 rfl (lv_at hl 0 rfl) ?_
  refine lv_iload_n hx hb dX11_price_1 rfl (lv_at hl 1 rfl) ?_
  obtain ⟨r1, hr1, h⟩ := ob_bd h
  refine n_I (kV (As := [.int v1]) C0 (c_X11_isNobody l v1 hr1) ⟨wd_477, wd_474, wd_476, wp_2, wd_1⟩ kd_X11_isNobody ⟨Nat.le_of_ble_eq_true rfl, Nat.le_of_ble_eq_true rfl⟩ hP (lay_X11 B ct S) rfl rfl hl.1 rfl (Nat.le_of_ble_eq_true rfl) dX11_price_2 ⟨Nat.le_of_ble_eq_true rfl, Nat.le_of_ble_eq_true rfl⟩) hS (fun H locs hP hS => ?_)
  refine lv_if_ne (tgt := 19) hx hb dX11_price_5 (by decide) (fun z2 => ?_) (fun z2 => ?_)
  · have h := ob_f h z2
    refine lv_iconst (v := (-1)) hx hb dX11_price_19 (by decide) ?_
    exact r_I C0 hP hS h dX11_price_20
  · have h := ob_t h z2
    refine lv_iload_n hx hb dX11_price_8 rfl (lv_at hl 2 rfl) ?_
    refine lv_iconst (v := 0) hx hb dX11_price_9 (by decide) ?_
    refine lv_sipush (v := 999) hx hb dX11_price_10 (by decide) ?_
    obtain ⟨r3, hr3, h⟩ := ob_bd h
    refine n_I (kS (As := [.int v2, .int 0, .int 999]) C0 (c_X11_isOut l v2 0 999 hr3) ⟨wd_378, wd_500, wd_377, wd_1⟩ kd_X11_isOut ⟨Nat.le_of_ble_eq_true rfl, Nat.le_of_ble_eq_true rfl⟩ hP rfl hl.1 rfl (Nat.le_of_ble_eq_true rfl) dX11_price_13 ⟨Nat.le_of_ble_eq_true rfl, Nat.le_of_ble_eq_true rfl⟩) hS (fun H locs hP hS => ?_)
    refine lv_if_eq (tgt := 21) hx hb dX11_price_16 (by decide) (fun z4 => ?_) (fun z4 => ?_)
    · have h := ob_t h z4
      refine lv_aload_n hx hb dX11_price_21 rfl (lv_at hl 0 rfl) ?_
      refine x_get C0 hP (lay_X11 B ct S) rfl inG11 0 (by decide) wd_219 (fun _ h => h) rfl dX11_price_22 ?_
      refine x_get C0 hP (lay_X10 B ct S (Or.inl rfl)) rfl inG10 1 (by decide) wd_66 (fun _ h => h) rfl dX11_price_25 ?_
      refine lv_iload_n hx hb dX11_price_28 rfl (lv_at hl 1 rfl) ?_
      obtain ⟨g5, h⟩ := ob_gd h
      obtain ⟨q6, eq6, h⟩ := ob_bd h
      refine x_aald (v := .ref (B + q6)) C0 hP ((fun S => lay_t1 B ct S (Or.inl rfl)) S) rfl rfl g5 (by show va_rf ((gr S (1 + 1) v1.toNatClampNeg).map (B + ·)) = _; rw [eq6]; rfl) dX11_price_29 ?_
      refine lv_iload_n hx hb dX11_price_30 rfl (lv_at hl 2 rfl) ?_
      refine lv_aload_n hx hb dX11_price_31 rfl (lv_at hl 0 rfl) ?_
      refine x_get C0 hP (lay_X11 B ct S) rfl inG11 0 (by decide) wd_219 (fun _ h => h) rfl dX11_price_32 ?_
      refine x_get C0 hP (lay_X10 B ct S (Or.inl rfl)) rfl inG10 18 (by decide) wd_107 (fun _ h => h) rfl dX11_price_35 ?_
      refine lv_iconst (v := 2) hx hb dX11_price_38 (by decide) ?_
      obtain ⟨g7, h⟩ := ob_gd h
      refine x_iald C0 hP ((fun S => lay_t17 B ct S (Or.inl rfl)) S) g7 dX11_price_39 ?_
      obtain ⟨r8, hr8, h⟩ := ob_bd h
      refine n_I (kv_priceOf l C0 wd_551 q6 v2 (gi S (1 + 17) ((2 : Int32)).toNatClampNeg) hr8 ⟨Nat.le_of_ble_eq_true rfl, Nat.le_of_ble_eq_true rfl⟩ hP hl.1 rfl (Nat.le_of_ble_eq_true rfl) dX11_price_40) hS (fun H locs hP hS => ?_)
      exact r_I C0 hP hS h dX11_price_43
    · have h := ob_f h z4
      refine lv_iconst (v := (-1)) hx hb dX11_price_19 (by decide) ?_
      exact r_I C0 hP hS h dX11_price_20
set_option maxRecDepth 100000 in
set_option maxHeartbeats 4000000 in
theorem c_X11_price (l : Launch) (a1 : Int32) (a2 : Int32) {D : va_G} {ct : Nat → ClassId} {B : Nat} {Hb : Heap} {S : St} {V : Int32} (h : L_X11_price a1 a2 S = some V) : Met l yX11_price (Cond.code yX11_price cX11_price 3 (some .int) :: tG) { frames := 3, cells := 0, slots := 0, locals := 66 } (va_Pc [.ref (B + 0), .int a1, .int a2] (MPK D ct B Hb S)) (qI D ct B Hb S V) 0 0 (AB B) := by
  refine mk_met (by decide +kernel) (Nat.le_of_ble_eq_true rfl) (fun p e s m args below meth c ls C0 hP hl _ => ?_)
  have h := ob_of h
  exact w_X11_price_0 l C0 a1 a2 S h hP va_S.rf (lv_sub hl [0, 1, 2] rfl)
set_option maxRecDepth 100000 in
set_option maxHeartbeats 4000000 in
theorem w_X11_isNoShelf_10 (l : Launch) {V : Int32} (C0 : XC D ct p s m args meth c cX11_isNoShelf 1 (some .boolean) RX11) (S : St) {H : Heap} {locs : List Loc} {ls : Array Slot} (h : (b_X11_isNoShelf_10 S).bind some = some V) (hP : MP D ct B Hb S H) (hS : va_S (AB B) s.heap H locs) (hl : lv_has ls 1 []) : W p l e { frames := 0, cells := 0, slots := 0, locals := 0 } s m args below meth c H locs 0 0 (MQ below (qI D ct B Hb S V) args s 0 0 (AB B)) (F0 m 10 ls []) := by
  obtain ⟨hx, hb, hr, hml, hown, hts, hK, hlocks, hN⟩ := id C0
  unfold b_X11_isNoShelf_10 at h
  refine lv_iconst (v := 1) hx hb dX11_isNoShelf_10 (by decide) ?_
  refine lv_goto (tgt := 15) hx hb dX11_isNoShelf_11 (by decide) ?_
  exact r_Z C0 hP hS bool_1 h dX11_isNoShelf_15
set_option maxRecDepth 100000 in
set_option maxHeartbeats 4000000 in
theorem w_X11_isNoShelf_0 (l : Launch) {V : Int32} (C0 : XC D ct p s m args meth c cX11_isNoShelf 1 (some .boolean) RX11) (v0 : Int32) (S : St) {H : Heap} {locs : List Loc} {ls : Array Slot} (h : (b_X11_isNoShelf_0 v0 S).bind some = some V) (hP : MP D ct B Hb S H) (hS : va_S (AB B) s.heap H locs) (hl : lv_has ls 1 [(0, .int v0)]) : W p l e { frames := 0, cells := 0, slots := 0, locals := 0 } s m args below meth c H locs 0 0 (MQ below (qI D ct B Hb S V) args s 0 0 (AB B)) (F0 m 0 ls []) := by
  obtain ⟨hx, hb, hr, hml, hown, hts, hK, hlocks, hN⟩ := id C0
  unfold b_X11_isNoShelf_0 at h
  refine lv_iload_n hx hb dX11_isNoShelf_0 rfl (lv_at hl 0 rfl) ?_
  refine lv_if_lt (tgt := 10) hx hb dX11_isNoShelf_1 (by decide) (fun z1 => ?_) (fun z1 => ?_)
  · have h := ob_t h z1
    exact w_X11_isNoShelf_10 l C0 S h hP hS (lv_sub hl [] rfl)
  · have h := ob_f h z1
    refine lv_iload_n hx hb dX11_isNoShelf_4 rfl (lv_at hl 0 rfl) ?_
    refine lv_bipush (v := 8) hx hb dX11_isNoShelf_5 (by decide) ?_
    refine lv_icmp_lt (tgt := 14) hx hb dX11_isNoShelf_7 (by decide) (fun z2 => ?_) (fun z2 => ?_)
    · have h := ob_t h z2
      refine lv_iconst (v := 0) hx hb dX11_isNoShelf_14 (by decide) ?_
      exact r_Z C0 hP hS bool_0 h dX11_isNoShelf_15
    · have h := ob_f h z2
      exact w_X11_isNoShelf_10 l C0 S h hP hS (lv_sub hl [] rfl)
set_option maxRecDepth 100000 in
set_option maxHeartbeats 4000000 in
theorem c_X11_isNoShelf (l : Launch) (a0 : Int32) {D : va_G} {ct : Nat → ClassId} {B : Nat} {Hb : Heap} {S : St} {V : Int32} (h : L_X11_isNoShelf a0 S = some V) : Met l yX11_isNoShelf (Cond.code yX11_isNoShelf cX11_isNoShelf 1 (some .boolean) :: tG) { frames := 0, cells := 0, slots := 0, locals := 0 } (va_Pc [.int a0] (MPK D ct B Hb S)) (qI D ct B Hb S V) 0 0 (AB B) := by
  refine mk_met (by decide +kernel) (Nat.le_of_ble_eq_true rfl) (fun p e s m args below meth c ls C0 hP hl _ => ?_)
  have h := ob_of h
  exact w_X11_isNoShelf_0 l C0 a0 S h hP va_S.rf (lv_sub hl [0] rfl)
set_option maxRecDepth 100000 in
set_option maxHeartbeats 4000000 in
theorem w_X11_shelfRefusal_0 (l : Launch) {V : Int32} (C0 : XC D ct p s m args meth c cX11_shelfRefusal 3 (some .int) RX11) (v1 : Int32) (v2 : Int32) (S : St) {H : Heap} {locs : List Loc} {ls : Array Slot} (h : (b_X11_shelfRefusal_0 v1 v2 S).bind some = some V) (hP : MP D ct B Hb S H) (hS : va_S (AB B) s.heap H locs) (hl : lv_has ls 3 [(0, .ref (B + 0)), (1, .int v1), (2, .int v2)]) : W p l e { frames := 1, cells := 0, slots := 0, locals := 20 } s m args below meth c H locs 0 0 (MQ below (qI D ct B Hb S V) args s 0 0 (AB B)) (F0 m 0 ls []) := by
  obtain ⟨hx, hb, hr, hml, hown, hts, hK, hlocks, hN⟩ := id C0
  unfold b_X11_shelfRefusal_0 at h
  refine lv_iload_n hx hb dX11_shelfRefusal_0 rfl (lv_at hl 1 rfl) ?_
  obtain ⟨r1, hr1, h⟩ := ob_bd h
  refine n_I (kS (As := [.int v1]) C0 (c_X11_isNoShelf l v1 hr1) ⟨wd_263, wd_261, wd_262, wd_1⟩ kd_X11_isNoShelf ⟨Nat.le_of_ble_eq_true rfl, Nat.le_of_ble_eq_true rfl⟩ hP rfl hl.1 rfl (Nat.le_of_ble_eq_true rfl) dX11_shelfRefusal_1 ⟨Nat.le_of_ble_eq_true rfl, Nat.le_of_ble_eq_true rfl⟩) hS (fun H locs hP hS => ?_)
  refine lv_if_eq (tgt := 9) hx hb dX11_shelfRefusal_4 (by decide) (fun z2 => ?_) (fun z2 => ?_)
  · have h := ob_t h z2
    refine lv_aload_n hx hb dX11_shelfRefusal_9 rfl (lv_at hl 0 rfl) ?_
    refine x_get C0 hP (lay_X11 B ct S) rfl inG11 5 (by decide) wd_224 (fun _ h => h) rfl dX11_shelfRefusal_10 ?_
    refine lv_iload_n hx hb dX11_shelfRefusal_13 rfl (lv_at hl 1 rfl) ?_
    obtain ⟨g3, h⟩ := ob_gd h
    refine x_iald C0 hP ((fun S => lay_66 B ct S) S) g3 dX11_shelfRefusal_14 ?_
    refine lv_if_ne (tgt := 21) hx hb dX11_shelfRefusal_15 (by decide) (fun z4 => ?_) (fun z4 => ?_)
    · have h := ob_f h z4
      refine lv_aload_n hx hb dX11_shelfRefusal_21 rfl (lv_at hl 0 rfl) ?_
      refine x_get C0 hP (lay_X11 B ct S) rfl inG11 5 (by decide) wd_224 (fun _ h => h) rfl dX11_shelfRefusal_22 ?_
      refine lv_iload_n hx hb dX11_shelfRefusal_25 rfl (lv_at hl 1 rfl) ?_
      obtain ⟨g5, h⟩ := ob_gd h
      refine x_iald C0 hP ((fun S => lay_66 B ct S) S) g5 dX11_shelfRefusal_26 ?_
      refine lv_iload_n hx hb dX11_shelfRefusal_27 rfl (lv_at hl 2 rfl) ?_
      refine lv_icmp_ne (tgt := 35) hx hb dX11_shelfRefusal_28 (by decide) (fun z6 => ?_) (fun z6 => ?_)
      · have h := ob_f h z6
        refine lv_bipush (v := (-12)) hx hb dX11_shelfRefusal_35 (by decide) ?_
        exact r_I C0 hP hS h dX11_shelfRefusal_37
      · have h := ob_t h z6
        refine lv_iconst (v := 0) hx hb dX11_shelfRefusal_31 (by decide) ?_
        refine lv_goto (tgt := 37) hx hb dX11_shelfRefusal_32 (by decide) ?_
        exact r_I C0 hP hS h dX11_shelfRefusal_37
    · have h := ob_t h z4
      refine lv_bipush (v := (-11)) hx hb dX11_shelfRefusal_18 (by decide) ?_
      exact r_I C0 hP hS h dX11_shelfRefusal_20
  · have h := ob_f h z2
    refine lv_iconst (v := (-1)) hx hb dX11_shelfRefusal_7 (by decide) ?_
    exact r_I C0 hP hS h dX11_shelfRefusal_8
set_option maxRecDepth 100000 in
set_option maxHeartbeats 4000000 in
theorem c_X11_shelfRefusal (l : Launch) (a1 : Int32) (a2 : Int32) {D : va_G} {ct : Nat → ClassId} {B : Nat} {Hb : Heap} {S : St} {V : Int32} (h : L_X11_shelfRefusal a1 a2 S = some V) : Met l yX11_shelfRefusal (Cond.code yX11_shelfRefusal cX11_shelfRefusal 3 (some .int) :: tG) { frames := 1, cells := 0, slots := 0, locals := 20 } (va_Pc [.ref (B + 0), .int a1, .int a2] (MPK D ct B Hb S)) (qI D ct B Hb S V) 0 0 (AB B) := by
  refine mk_met (by decide +kernel) (Nat.le_of_ble_eq_true rfl) (fun p e s m args below meth c ls C0 hP hl _ => ?_)
  have h := ob_of h
  exact w_X11_shelfRefusal_0 l C0 a1 a2 S h hP va_S.rf (lv_sub hl [0, 1, 2] rfl)
set_option maxRecDepth 100000 in
set_option maxHeartbeats 4000000 in
theorem w_X11_comes_0 (l : Launch) {V : Int32 × St} (C0 : XC D ct p s m args meth c cX11_comes 7 (some .int) RX11) (v1 : Int32) (v2 : Int32) (v3 : Int32) (v4 : Int32) (v5 : Int32) (S : St) {H : Heap} {locs : List Loc} {ls : Array Slot} (h : (b_X11_comes_0 v1 v2 v3 v4 v5 S).bind some = some V) (hP : MP D ct B Hb S H) (hS : va_S (AB B) s.heap H locs) (hl : lv_has ls 7 [(0, .ref (B + 0)), (1, .int v1), (2, .int v2), (3, .int v3), (4, .int v4), (5, .int v5)]) : W p l e { frames := 3, cells := 0, slots := 0, locals := 70 } s m args below meth c H locs 0 0 (MQ below (qIw D ct B Hb V) args s 0 0 (AB B)) (F0 m 0 ls []) := by
  obtain ⟨hx, hb, hr, hml, hown, hts, hK, hlocks, hN⟩ := id C0
  unfold b_X11_comes_0 at h
  refine lv_iload_n hx hb dX11_comes_0 rfl (lv_at hl 1 rfl) ?_
  obtain ⟨r1, hr1, h⟩ := ob_bd h
  refine n_I (kS (As := [.int v1]) C0 (c_X11_isNoShelf l v1 hr1) ⟨wd_263, wd_261, wd_262, wd_1⟩ kd_X11_isNoShelf ⟨Nat.le_of_ble_eq_true rfl, Nat.le_of_ble_eq_true rfl⟩ hP rfl hl.1 rfl (Nat.le_of_ble_eq_true rfl) dX11_comes_1 ⟨Nat.le_of_ble_eq_true rfl, Nat.le_of_ble_eq_true rfl⟩) hS (fun H locs hP hS => ?_)
  refine lv_if_ne (tgt := 19) hx hb dX11_comes_4 (by decide) (fun z2 => ?_) (fun z2 => ?_)
  · have h := ob_f h z2
    refine lv_iconst (v := (-1)) hx hb dX11_comes_19 (by decide) ?_
    exact r_Iw C0 hP hS h dX11_comes_20
  · have h := ob_t h z2
    refine lv_iload_n hx hb dX11_comes_7 rfl (lv_at hl 2 rfl) ?_
    refine lv_iload_n hx hb dX11_comes_8 rfl (lv_at hl 3 rfl) ?_
    refine lv_iload hx hb dX11_comes_9 (lv_at hl 4 rfl) ?_
    refine lv_iload hx hb dX11_comes_11 (lv_at hl 5 rfl) ?_
    obtain ⟨r3, hr3, h⟩ := ob_bd h
    refine n_I (kS (As := [.int v2, .int v3, .int v4, .int v5]) C0 (c_X10_isNoOne l v2 v3 v4 v5 hr3) ⟨wd_452, wd_576, wd_451, wd_2⟩ kd_X10_isNoOne ⟨Nat.le_of_ble_eq_true rfl, Nat.le_of_ble_eq_true rfl⟩ hP rfl hl.1 rfl (Nat.le_of_ble_eq_true rfl) dX11_comes_13 ⟨Nat.le_of_ble_eq_true rfl, Nat.le_of_ble_eq_true rfl⟩) hS (fun H locs hP hS => ?_)
    refine lv_if_eq (tgt := 21) hx hb dX11_comes_16 (by decide) (fun z4 => ?_) (fun z4 => ?_)
    · have h := ob_t h z4
      refine lv_aload_n hx hb dX11_comes_21 rfl (lv_at hl 0 rfl) ?_
      refine lv_iload_n hx hb dX11_comes_22 rfl (lv_at hl 1 rfl) ?_
      refine lv_iconst (v := 1) hx hb dX11_comes_23 (by decide) ?_
      obtain ⟨r5, hr5, h⟩ := ob_bd h
      refine n_I (kV (As := [.int v1, .int 1]) C0 (c_X11_shelfRefusal l v1 1 hr5) ⟨wd_260, wd_257, wd_259, wp_0, wd_1⟩ kd_X11_shelfRefusal ⟨Nat.le_of_ble_eq_true rfl, Nat.le_of_ble_eq_true rfl⟩ hP (lay_X11 B ct S) rfl rfl hl.1 rfl (Nat.le_of_ble_eq_true rfl) dX11_comes_24 ⟨Nat.le_of_ble_eq_true rfl, Nat.le_of_ble_eq_true rfl⟩) hS (fun H locs hP hS => ?_)
      refine lv_istore (lv' := [(6, .int r5), (0, .ref (B + 0)), (1, .int v1), (2, .int v2), (3, .int v3), (4, .int v4), (5, .int v5)]) hx hb dX11_comes_27 hl (by decide) rfl (fun ls hl => ?_)
      refine lv_iload hx hb dX11_comes_29 (lv_at hl 0 rfl) ?_
      refine lv_if_eq (tgt := 39) hx hb dX11_comes_31 (by decide) (fun z6 => ?_) (fun z6 => ?_)
      · have h := ob_t h z6
        refine lv_aload_n hx hb dX11_comes_39 rfl (lv_at hl 1 rfl) ?_
        refine x_get C0 hP (lay_X11 B ct S) rfl inG11 0 (by decide) wd_219 (fun _ h => h) rfl dX11_comes_40 ?_
        refine lv_aload_n hx hb dX11_comes_43 rfl (lv_at hl 1 rfl) ?_
        refine x_get C0 hP (lay_X11 B ct S) rfl inG11 6 (by decide) wd_225 (fun _ h => h) rfl dX11_comes_44 ?_
        refine lv_iload_n hx hb dX11_comes_47 rfl (lv_at hl 2 rfl) ?_
        obtain ⟨g7, h⟩ := ob_gd h
        obtain ⟨q8, eq8, h⟩ := ob_bd h
        refine x_aald (v := .ref (B + q8)) C0 hP ((fun S => lay_67 B ct S) S) rfl rfl g7 (by show va_rf ((gr S 67 v1.toNatClampNeg).map (B + ·)) = _; rw [eq8]; rfl) dX11_comes_48 ?_
        refine lv_iload_n hx hb dX11_comes_49 rfl (lv_at hl 3 rfl) ?_
        refine lv_iload_n hx hb dX11_comes_50 rfl (lv_at hl 4 rfl) ?_
        refine lv_iload hx hb dX11_comes_51 (lv_at hl 5 rfl) ?_
        refine lv_iload hx hb dX11_comes_53 (lv_at hl 6 rfl) ?_
        obtain ⟨r9, hr9, h⟩ := ob_bd h
        refine n_Iw (kV (As := [.ref (B + q8), .int v2, .int v3, .int v4, .int v5]) C0 (c_X10_addOne l 1 q8 (Or.inl rfl) v2 v3 v4 v5 hr9) ⟨wd_449, wd_577, wd_447, wd_448, wd_2⟩ kd_X10_addOne ⟨Nat.le_of_ble_eq_true rfl, Nat.le_of_ble_eq_true rfl⟩ hP (lay_X10 B ct S (Or.inl rfl)) rfl rfl hl.1 rfl (Nat.le_of_ble_eq_true rfl) dX11_comes_55 ⟨Nat.le_of_ble_eq_true rfl, Nat.le_of_ble_eq_true rfl⟩) hS (fun H locs hP hS => ?_)
        exact r_Iw C0 hP hS h dX11_comes_58
      · have h := ob_f h z6
        refine lv_iload hx hb dX11_comes_34 (lv_at hl 0 rfl) ?_
        refine lv_goto (tgt := 58) hx hb dX11_comes_36 (by decide) ?_
        exact r_Iw C0 hP hS h dX11_comes_58
    · have h := ob_f h z4
      refine lv_iconst (v := (-1)) hx hb dX11_comes_19 (by decide) ?_
      exact r_Iw C0 hP hS h dX11_comes_20
set_option maxRecDepth 100000 in
set_option maxHeartbeats 4000000 in
theorem c_X11_comes (l : Launch) (a1 : Int32) (a2 : Int32) (a3 : Int32) (a4 : Int32) (a5 : Int32) {D : va_G} {ct : Nat → ClassId} {B : Nat} {Hb : Heap} {S : St} {V : Int32 × St} (h : L_X11_comes a1 a2 a3 a4 a5 S = some V) : Met l yX11_comes (Cond.code yX11_comes cX11_comes 7 (some .int) :: tG) { frames := 3, cells := 0, slots := 0, locals := 70 } (va_Pc [.ref (B + 0), .int a1, .int a2, .int a3, .int a4, .int a5] (MPK D ct B Hb S)) (qIw D ct B Hb V) 0 0 (AB B) := by
  refine mk_met (by decide +kernel) (Nat.le_of_ble_eq_true rfl) (fun p e s m args below meth c ls C0 hP hl _ => ?_)
  have h := ob_of h
  exact w_X11_comes_0 l C0 a1 a2 a3 a4 a5 S h hP va_S.rf (lv_sub hl [0, 1, 2, 3, 4, 5] rfl)
set_option maxRecDepth 100000 in
set_option maxHeartbeats 4000000 in
theorem w_X11_leaves_0 (l : Launch) {V : Int32 × St} (C0 : XC D ct p s m args meth c cX11_leaves 2 (some .int) RX11) (v1 : Int32) (S : St) {H : Heap} {locs : List Loc} {ls : Array Slot} (h : (b_X11_leaves_0 v1 S).bind some = some V) (hP : MP D ct B Hb S H) (hS : va_S (AB B) s.heap H locs) (hl : lv_has ls 2 [(0, .ref (B + 0)), (1, .int v1)]) : W p l e { frames := 1, cells := 0, slots := 0, locals := 22 } s m args below meth c H locs 0 0 (MQ below (qIw D ct B Hb V) args s 0 0 (AB B)) (F0 m 0 ls []) := by
  obtain ⟨hx, hb, hr, hml, hown, hts, hK, hlocks, hN⟩ := id C0
  unfold b_X11_leaves_0 at h
  refine lv_aload_n hx hb dX11_leaves_0 rfl (lv_at hl 0 rfl) ?_
  refine lv_iload_n hx hb dX11_leaves_1 rfl (lv_at hl 1 rfl) ?_
  obtain ⟨r1, hr1, h⟩ := ob_bd h
  refine n_I (kV (As := [.int v1]) C0 (c_X11_isNobody l v1 hr1) ⟨wd_477, wd_474, wd_476, wp_2, wd_1⟩ kd_X11_isNobody ⟨Nat.le_of_ble_eq_true rfl, Nat.le_of_ble_eq_true rfl⟩ hP (lay_X11 B ct S) rfl rfl hl.1 rfl (Nat.le_of_ble_eq_true rfl) dX11_leaves_2 ⟨Nat.le_of_ble_eq_true rfl, Nat.le_of_ble_eq_true rfl⟩) hS (fun H locs hP hS => ?_)
  refine lv_if_eq (tgt := 12) hx hb dX11_leaves_5 (by decide) (fun z2 => ?_) (fun z2 => ?_)
  · have h := ob_t h z2
    refine lv_aload_n hx hb dX11_leaves_12 rfl (lv_at hl 0 rfl) ?_
    refine x_get C0 hP (lay_X11 B ct S) rfl inG11 0 (by decide) wd_219 (fun _ h => h) rfl dX11_leaves_13 ?_
    refine lv_iload_n hx hb dX11_leaves_16 rfl (lv_at hl 1 rfl) ?_
    obtain ⟨r3, hr3, h⟩ := ob_bd h
    refine n_Iw (kV (As := [.int v1]) C0 (c_X10_dropOne l 1 (Or.inl rfl) v1 hr3) ⟨wd_585, wd_582, wd_583, wd_584, wd_2⟩ kd_X10_dropOne ⟨Nat.le_of_ble_eq_true rfl, Nat.le_of_ble_eq_true rfl⟩ hP (lay_X10 B ct S (Or.inl rfl)) rfl rfl hl.1 rfl (Nat.le_of_ble_eq_true rfl) dX11_leaves_17 ⟨Nat.le_of_ble_eq_true rfl, Nat.le_of_ble_eq_true rfl⟩) hS (fun H locs hP hS => ?_)
    exact r_Iw C0 hP hS h dX11_leaves_20
  · have h := ob_f h z2
    refine lv_iconst (v := (-1)) hx hb dX11_leaves_8 (by decide) ?_
    refine lv_goto (tgt := 20) hx hb dX11_leaves_9 (by decide) ?_
    exact r_Iw C0 hP hS h dX11_leaves_20
set_option maxRecDepth 100000 in
set_option maxHeartbeats 4000000 in
theorem c_X11_leaves (l : Launch) (a1 : Int32) {D : va_G} {ct : Nat → ClassId} {B : Nat} {Hb : Heap} {S : St} {V : Int32 × St} (h : L_X11_leaves a1 S = some V) : Met l yX11_leaves (Cond.code yX11_leaves cX11_leaves 2 (some .int) :: tG) { frames := 1, cells := 0, slots := 0, locals := 22 } (va_Pc [.ref (B + 0), .int a1] (MPK D ct B Hb S)) (qIw D ct B Hb V) 0 0 (AB B) := by
  refine mk_met (by decide +kernel) (Nat.le_of_ble_eq_true rfl) (fun p e s m args below meth c ls C0 hP hl _ => ?_)
  have h := ob_of h
  exact w_X11_leaves_0 l C0 a1 S h hP va_S.rf (lv_sub hl [0, 1] rfl)
set_option maxRecDepth 100000 in
set_option maxHeartbeats 4000000 in
theorem w_X11_mood_0 (l : Launch) {V : Int32 × St} (C0 : XC D ct p s m args meth c cX11_mood 4 (some .int) RX11) (v1 : Int32) (v2 : Int32) (S : St) {H : Heap} {locs : List Loc} {ls : Array Slot} (h : (b_X11_mood_0 v1 v2 S).bind some = some V) (hP : MP D ct B Hb S H) (hS : va_S (AB B) s.heap H locs) (hl : lv_has ls 4 [(0, .ref (B + 0)), (1, .int v1), (2, .int v2)]) : W p l e { frames := 1, cells := 0, slots := 0, locals := 22 } s m args below meth c H locs 0 0 (MQ below (qIw D ct B Hb V) args s 0 0 (AB B)) (F0 m 0 ls []) := by
  obtain ⟨hx, hb, hr, hml, hown, hts, hK, hlocks, hN⟩ := id C0
  unfold b_X11_mood_0 at h
  refine lv_aload_n hx hb dX11_mood_0 rfl (lv_at hl 0 rfl) ?_
  refine lv_iload_n hx hb dX11_mood_1 rfl (lv_at hl 1 rfl) ?_
  obtain ⟨r1, hr1, h⟩ := ob_bd h
  refine n_I (kV (As := [.int v1]) C0 (c_X11_isNobody l v1 hr1) ⟨wd_477, wd_474, wd_476, wp_2, wd_1⟩ kd_X11_isNobody ⟨Nat.le_of_ble_eq_true rfl, Nat.le_of_ble_eq_true rfl⟩ hP (lay_X11 B ct S) rfl rfl hl.1 rfl (Nat.le_of_ble_eq_true rfl) dX11_mood_2 ⟨Nat.le_of_ble_eq_true rfl, Nat.le_of_ble_eq_true rfl⟩) hS (fun H locs hP hS => ?_)
  refine lv_if_ne (tgt := 19) hx hb dX11_mood_5 (by decide) (fun z2 => ?_) (fun z2 => ?_)
  · have h := ob_f h z2
    refine lv_iconst (v := (-1)) hx hb dX11_mood_19 (by decide) ?_
    exact r_Iw C0 hP hS h dX11_mood_20
  · have h := ob_t h z2
    refine lv_iload_n hx hb dX11_mood_8 rfl (lv_at hl 2 rfl) ?_
    refine lv_bipush (v := (-9)) hx hb dX11_mood_9 (by decide) ?_
    refine lv_bipush (v := 9) hx hb dX11_mood_11 (by decide) ?_
    obtain ⟨r3, hr3, h⟩ := ob_bd h
    refine n_I (kS (As := [.int v2, .int ((-9)), .int 9]) C0 (c_X11_isOut l v2 ((-9)) 9 hr3) ⟨wd_378, wd_500, wd_377, wd_1⟩ kd_X11_isOut ⟨Nat.le_of_ble_eq_true rfl, Nat.le_of_ble_eq_true rfl⟩ hP rfl hl.1 rfl (Nat.le_of_ble_eq_true rfl) dX11_mood_13 ⟨Nat.le_of_ble_eq_true rfl, Nat.le_of_ble_eq_true rfl⟩) hS (fun H locs hP hS => ?_)
    refine lv_if_eq (tgt := 21) hx hb dX11_mood_16 (by decide) (fun z4 => ?_) (fun z4 => ?_)
    · have h := ob_t h z4
      refine lv_aload_n hx hb dX11_mood_21 rfl (lv_at hl 0 rfl) ?_
      refine x_get C0 hP (lay_X11 B ct S) rfl inG11 0 (by decide) wd_219 (fun _ h => h) rfl dX11_mood_22 ?_
      refine x_get C0 hP (lay_X10 B ct S (Or.inl rfl)) rfl inG10 4 (by decide) wd_74 (fun _ h => h) rfl dX11_mood_25 ?_
      refine lv_iload_n hx hb dX11_mood_28 rfl (lv_at hl 1 rfl) ?_
      obtain ⟨g5, h⟩ := ob_gd h
      refine x_iald C0 hP ((fun S => lay_t5 B ct S (Or.inl rfl)) S) g5 dX11_mood_29 ?_
      refine lv_bipush (v := 9) hx hb dX11_mood_30 (by decide) ?_
      refine lv_iadd hx hb dX11_mood_32 ?_
      refine lv_istore_n (lv' := [(3, .int ((gi S (1 + 5) v1.toNatClampNeg) + 9)), (0, .ref (B + 0)), (1, .int v1), (2, .int v2)]) hx hb dX11_mood_33 rfl hl (by decide) rfl (fun ls hl => ?_)
      refine lv_aload_n hx hb dX11_mood_34 rfl (lv_at hl 1 rfl) ?_
      refine x_get C0 hP (lay_X11 B ct S) rfl inG11 0 (by decide) wd_219 (fun _ h => h) rfl dX11_mood_35 ?_
      refine x_get C0 hP (lay_X10 B ct S (Or.inl rfl)) rfl inG10 4 (by decide) wd_74 (fun _ h => h) rfl dX11_mood_38 ?_
      refine lv_iload_n hx hb dX11_mood_41 rfl (lv_at hl 2 rfl) ?_
      refine lv_iload_n hx hb dX11_mood_42 rfl (lv_at hl 3 rfl) ?_
      obtain ⟨g6, h⟩ := ob_gd h
      obtain ⟨S7, eS7, h⟩ := ob_nm h
      refine x_iast C0 hP hS (fun S => lay_t5 B ct S (Or.inl rfl)) g6 dX11_mood_43 (fun H locs hP hS => ?_)
      rw [← eS7] at hP
      refine lv_iload_n hx hb dX11_mood_44 rfl (lv_at hl 0 rfl) ?_
      exact r_Iw C0 hP hS h dX11_mood_45
    · have h := ob_f h z4
      refine lv_iconst (v := (-1)) hx hb dX11_mood_19 (by decide) ?_
      exact r_Iw C0 hP hS h dX11_mood_20
set_option maxRecDepth 100000 in
set_option maxHeartbeats 4000000 in
theorem c_X11_mood (l : Launch) (a1 : Int32) (a2 : Int32) {D : va_G} {ct : Nat → ClassId} {B : Nat} {Hb : Heap} {S : St} {V : Int32 × St} (h : L_X11_mood a1 a2 S = some V) : Met l yX11_mood (Cond.code yX11_mood cX11_mood 4 (some .int) :: tG) { frames := 1, cells := 0, slots := 0, locals := 22 } (va_Pc [.ref (B + 0), .int a1, .int a2] (MPK D ct B Hb S)) (qIw D ct B Hb V) 0 0 (AB B) := by
  refine mk_met (by decide +kernel) (Nat.le_of_ble_eq_true rfl) (fun p e s m args below meth c ls C0 hP hl _ => ?_)
  have h := ob_of h
  exact w_X11_mood_0 l C0 a1 a2 S h hP va_S.rf (lv_sub hl [0, 1, 2] rfl)
set_option maxRecDepth 100000 in
set_option maxHeartbeats 4000000 in
theorem w_X11_coins_0 (l : Launch) {V : Int32 × St} (C0 : XC D ct p s m args meth c cX11_coins 4 (some .int) RX11) (v1 : Int32) (v2 : Int32) (S : St) {H : Heap} {locs : List Loc} {ls : Array Slot} (h : (b_X11_coins_0 v1 v2 S).bind some = some V) (hP : MP D ct B Hb S H) (hS : va_S (AB B) s.heap H locs) (hl : lv_has ls 4 [(0, .ref (B + 0)), (1, .int v1), (2, .int v2)]) : W p l e { frames := 1, cells := 0, slots := 0, locals := 22 } s m args below meth c H locs 0 0 (MQ below (qIw D ct B Hb V) args s 0 0 (AB B)) (F0 m 0 ls []) := by
  obtain ⟨hx, hb, hr, hml, hown, hts, hK, hlocks, hN⟩ := id C0
  unfold b_X11_coins_0 at h
  refine lv_aload_n hx hb dX11_coins_0 rfl (lv_at hl 0 rfl) ?_
  refine lv_iload_n hx hb dX11_coins_1 rfl (lv_at hl 1 rfl) ?_
  obtain ⟨r1, hr1, h⟩ := ob_bd h
  refine n_I (kV (As := [.int v1]) C0 (c_X11_isNobody l v1 hr1) ⟨wd_477, wd_474, wd_476, wp_2, wd_1⟩ kd_X11_isNobody ⟨Nat.le_of_ble_eq_true rfl, Nat.le_of_ble_eq_true rfl⟩ hP (lay_X11 B ct S) rfl rfl hl.1 rfl (Nat.le_of_ble_eq_true rfl) dX11_coins_2 ⟨Nat.le_of_ble_eq_true rfl, Nat.le_of_ble_eq_true rfl⟩) hS (fun H locs hP hS => ?_)
  refine lv_if_ne (tgt := 18) hx hb dX11_coins_5 (by decide) (fun z2 => ?_) (fun z2 => ?_)
  · have h := ob_f h z2
    refine lv_iconst (v := (-1)) hx hb dX11_coins_18 (by decide) ?_
    exact r_Iw C0 hP hS h dX11_coins_19
  · have h := ob_t h z2
    refine lv_iload_n hx hb dX11_coins_8 rfl (lv_at hl 2 rfl) ?_
    refine lv_iconst (v := 0) hx hb dX11_coins_9 (by decide) ?_
    refine lv_bipush (v := 99) hx hb dX11_coins_10 (by decide) ?_
    obtain ⟨r3, hr3, h⟩ := ob_bd h
    refine n_I (kS (As := [.int v2, .int 0, .int 99]) C0 (c_X11_isOut l v2 0 99 hr3) ⟨wd_378, wd_500, wd_377, wd_1⟩ kd_X11_isOut ⟨Nat.le_of_ble_eq_true rfl, Nat.le_of_ble_eq_true rfl⟩ hP rfl hl.1 rfl (Nat.le_of_ble_eq_true rfl) dX11_coins_12 ⟨Nat.le_of_ble_eq_true rfl, Nat.le_of_ble_eq_true rfl⟩) hS (fun H locs hP hS => ?_)
    refine lv_if_eq (tgt := 20) hx hb dX11_coins_15 (by decide) (fun z4 => ?_) (fun z4 => ?_)
    · have h := ob_t h z4
      refine lv_aload_n hx hb dX11_coins_20 rfl (lv_at hl 0 rfl) ?_
      refine x_get C0 hP (lay_X11 B ct S) rfl inG11 0 (by decide) wd_219 (fun _ h => h) rfl dX11_coins_21 ?_
      refine x_get C0 hP (lay_X10 B ct S (Or.inl rfl)) rfl inG10 5 (by decide) wd_77 (fun _ h => h) rfl dX11_coins_24 ?_
      refine lv_iload_n hx hb dX11_coins_27 rfl (lv_at hl 1 rfl) ?_
      obtain ⟨g5, h⟩ := ob_gd h
      refine x_iald C0 hP ((fun S => lay_t6 B ct S (Or.inl rfl)) S) g5 dX11_coins_28 ?_
      refine lv_istore_n (lv' := [(3, .int (gi S (1 + 6) v1.toNatClampNeg)), (0, .ref (B + 0)), (1, .int v1), (2, .int v2)]) hx hb dX11_coins_29 rfl hl (by decide) rfl (fun ls hl => ?_)
      refine lv_aload_n hx hb dX11_coins_30 rfl (lv_at hl 1 rfl) ?_
      refine x_get C0 hP (lay_X11 B ct S) rfl inG11 0 (by decide) wd_219 (fun _ h => h) rfl dX11_coins_31 ?_
      refine x_get C0 hP (lay_X10 B ct S (Or.inl rfl)) rfl inG10 5 (by decide) wd_77 (fun _ h => h) rfl dX11_coins_34 ?_
      refine lv_iload_n hx hb dX11_coins_37 rfl (lv_at hl 2 rfl) ?_
      refine lv_iload_n hx hb dX11_coins_38 rfl (lv_at hl 3 rfl) ?_
      obtain ⟨g6, h⟩ := ob_gd h
      obtain ⟨S7, eS7, h⟩ := ob_nm h
      refine x_iast C0 hP hS (fun S => lay_t6 B ct S (Or.inl rfl)) g6 dX11_coins_39 (fun H locs hP hS => ?_)
      rw [← eS7] at hP
      refine lv_iload_n hx hb dX11_coins_40 rfl (lv_at hl 0 rfl) ?_
      exact r_Iw C0 hP hS h dX11_coins_41
    · have h := ob_f h z4
      refine lv_iconst (v := (-1)) hx hb dX11_coins_18 (by decide) ?_
      exact r_Iw C0 hP hS h dX11_coins_19
set_option maxRecDepth 100000 in
set_option maxHeartbeats 4000000 in
theorem c_X11_coins (l : Launch) (a1 : Int32) (a2 : Int32) {D : va_G} {ct : Nat → ClassId} {B : Nat} {Hb : Heap} {S : St} {V : Int32 × St} (h : L_X11_coins a1 a2 S = some V) : Met l yX11_coins (Cond.code yX11_coins cX11_coins 4 (some .int) :: tG) { frames := 1, cells := 0, slots := 0, locals := 22 } (va_Pc [.ref (B + 0), .int a1, .int a2] (MPK D ct B Hb S)) (qIw D ct B Hb V) 0 0 (AB B) := by
  refine mk_met (by decide +kernel) (Nat.le_of_ble_eq_true rfl) (fun p e s m args below meth c ls C0 hP hl _ => ?_)
  have h := ob_of h
  exact w_X11_coins_0 l C0 a1 a2 S h hP va_S.rf (lv_sub hl [0, 1, 2] rfl)
set_option maxRecDepth 100000 in
set_option maxHeartbeats 4000000 in
theorem w_X11_fact_0 (l : Launch) {V : Int32 × St} (C0 : XC D ct p s m args meth c cX11_fact 4 (some .int) RX11) (v1 : Int32) (v2 : Int32) (v3 : Int32) (S : St) {H : Heap} {locs : List Loc} {ls : Array Slot} (h : (b_X11_fact_0 v1 v2 v3 S).bind some = some V) (hP : MP D ct B Hb S H) (hS : va_S (AB B) s.heap H locs) (hl : lv_has ls 4 [(0, .ref (B + 0)), (1, .int v1), (2, .int v2), (3, .int v3)]) : W p l e { frames := 2, cells := 0, slots := 0, locals := 45 } s m args below meth c H locs 0 0 (MQ below (qIw D ct B Hb V) args s 0 0 (AB B)) (F0 m 0 ls []) := by
  obtain ⟨hx, hb, hr, hml, hown, hts, hK, hlocks, hN⟩ := id C0
  unfold b_X11_fact_0 at h
  refine lv_aload_n hx hb dX11_fact_0 rfl (lv_at hl 0 rfl) ?_
  refine x_get C0 hP (lay_X11 B ct S) rfl inG11 0 (by decide) wd_219 (fun _ h => h) rfl dX11_fact_1 ?_
  refine lv_iload_n hx hb dX11_fact_4 rfl (lv_at hl 1 rfl) ?_
  refine lv_iload_n hx hb dX11_fact_5 rfl (lv_at hl 2 rfl) ?_
  refine lv_iload_n hx hb dX11_fact_6 rfl (lv_at hl 3 rfl) ?_
  obtain ⟨r1, hr1, h⟩ := ob_bd h
  refine n_Iw (kV (As := [.int v1, .int v2, .int v3]) C0 (c_X10_addFact l 1 (Or.inl rfl) v1 v2 v3 hr1) ⟨wd_375, wd_598, wd_373, wd_374, wd_2⟩ kd_X10_addFact ⟨Nat.le_of_ble_eq_true rfl, Nat.le_of_ble_eq_true rfl⟩ hP (lay_X10 B ct S (Or.inl rfl)) rfl rfl hl.1 rfl (Nat.le_of_ble_eq_true rfl) dX11_fact_7 ⟨Nat.le_of_ble_eq_true rfl, Nat.le_of_ble_eq_true rfl⟩) hS (fun H locs hP hS => ?_)
  exact r_Iw C0 hP hS h dX11_fact_10
set_option maxRecDepth 100000 in
set_option maxHeartbeats 4000000 in
theorem c_X11_fact (l : Launch) (a1 : Int32) (a2 : Int32) (a3 : Int32) {D : va_G} {ct : Nat → ClassId} {B : Nat} {Hb : Heap} {S : St} {V : Int32 × St} (h : L_X11_fact a1 a2 a3 S = some V) : Met l yX11_fact (Cond.code yX11_fact cX11_fact 4 (some .int) :: tG) { frames := 2, cells := 0, slots := 0, locals := 45 } (va_Pc [.ref (B + 0), .int a1, .int a2, .int a3] (MPK D ct B Hb S)) (qIw D ct B Hb V) 0 0 (AB B) := by
  refine mk_met (by decide +kernel) (Nat.le_of_ble_eq_true rfl) (fun p e s m args below meth c ls C0 hP hl _ => ?_)
  have h := ob_of h
  exact w_X11_fact_0 l C0 a1 a2 a3 S h hP va_S.rf (lv_sub hl [0, 1, 2, 3] rfl)
set_option maxRecDepth 100000 in
set_option maxHeartbeats 4000000 in
theorem w_X11_isNoFact_15 (l : Launch) {V : Int32} (C0 : XC D ct p s m args meth c cX11_isNoFact 2 (some .boolean) RX11) (S : St) {H : Heap} {locs : List Loc} {ls : Array Slot} (h : (b_X11_isNoFact_15 S).bind some = some V) (hP : MP D ct B Hb S H) (hS : va_S (AB B) s.heap H locs) (hl : lv_has ls 2 []) : W p l e { frames := 0, cells := 0, slots := 0, locals := 0 } s m args below meth c H locs 0 0 (MQ below (qI D ct B Hb S V) args s 0 0 (AB B)) (F0 m 15 ls []) := by
  obtain ⟨hx, hb, hr, hml, hown, hts, hK, hlocks, hN⟩ := id C0
  unfold b_X11_isNoFact_15 at h
  refine lv_iconst (v := 1) hx hb dX11_isNoFact_15 (by decide) ?_
  refine lv_goto (tgt := 20) hx hb dX11_isNoFact_16 (by decide) ?_
  exact r_Z C0 hP hS bool_1 h dX11_isNoFact_20
set_option maxRecDepth 100000 in
set_option maxHeartbeats 4000000 in
theorem w_X11_isNoFact_0 (l : Launch) {V : Int32} (C0 : XC D ct p s m args meth c cX11_isNoFact 2 (some .boolean) RX11) (v1 : Int32) (S : St) {H : Heap} {locs : List Loc} {ls : Array Slot} (h : (b_X11_isNoFact_0 v1 S).bind some = some V) (hP : MP D ct B Hb S H) (hS : va_S (AB B) s.heap H locs) (hl : lv_has ls 2 [(0, .ref (B + 0)), (1, .int v1)]) : W p l e { frames := 0, cells := 0, slots := 0, locals := 0 } s m args below meth c H locs 0 0 (MQ below (qI D ct B Hb S V) args s 0 0 (AB B)) (F0 m 0 ls []) := by
  obtain ⟨hx, hb, hr, hml, hown, hts, hK, hlocks, hN⟩ := id C0
  unfold b_X11_isNoFact_0 at h
  refine lv_iload_n hx hb dX11_isNoFact_0 rfl (lv_at hl 1 rfl) ?_
  refine lv_if_lt (tgt := 15) hx hb dX11_isNoFact_1 (by decide) (fun z1 => ?_) (fun z1 => ?_)
  · have h := ob_t h z1
    exact w_X11_isNoFact_15 l C0 S h hP hS (lv_sub hl [] rfl)
  · have h := ob_f h z1
    refine lv_iload_n hx hb dX11_isNoFact_4 rfl (lv_at hl 1 rfl) ?_
    refine lv_aload_n hx hb dX11_isNoFact_5 rfl (lv_at hl 0 rfl) ?_
    refine x_get C0 hP (lay_X11 B ct S) rfl inG11 0 (by decide) wd_219 (fun _ h => h) rfl dX11_isNoFact_6 ?_
    refine x_get C0 hP (lay_X10 B ct S (Or.inl rfl)) rfl inG10 6 (by decide) wd_80 (fun _ h => h) rfl dX11_isNoFact_9 ?_
    refine lv_icmp_lt (tgt := 19) hx hb dX11_isNoFact_12 (by decide) (fun z2 => ?_) (fun z2 => ?_)
    · have h := ob_t h z2
      refine lv_iconst (v := 0) hx hb dX11_isNoFact_19 (by decide) ?_
      exact r_Z C0 hP hS bool_0 h dX11_isNoFact_20
    · have h := ob_f h z2
      exact w_X11_isNoFact_15 l C0 S h hP hS (lv_sub hl [] rfl)
set_option maxRecDepth 100000 in
set_option maxHeartbeats 4000000 in
theorem c_X11_isNoFact (l : Launch) (a1 : Int32) {D : va_G} {ct : Nat → ClassId} {B : Nat} {Hb : Heap} {S : St} {V : Int32} (h : L_X11_isNoFact a1 S = some V) : Met l yX11_isNoFact (Cond.code yX11_isNoFact cX11_isNoFact 2 (some .boolean) :: tG) { frames := 0, cells := 0, slots := 0, locals := 0 } (va_Pc [.ref (B + 0), .int a1] (MPK D ct B Hb S)) (qI D ct B Hb S V) 0 0 (AB B) := by
  refine mk_met (by decide +kernel) (Nat.le_of_ble_eq_true rfl) (fun p e s m args below meth c ls C0 hP hl _ => ?_)
  have h := ob_of h
  exact w_X11_isNoFact_0 l C0 a1 S h hP va_S.rf (lv_sub hl [0, 1] rfl)
set_option maxRecDepth 100000 in
set_option maxHeartbeats 4000000 in
theorem w_X11_about_0 (l : Launch) {V : Int32} (C0 : XC D ct p s m args meth c cX11_about 3 (some .int) RX11) (v1 : Int32) (v2 : Int32) (S : St) {H : Heap} {locs : List Loc} {ls : Array Slot} (h : (b_X11_about_0 v1 v2 S).bind some = some V) (hP : MP D ct B Hb S H) (hS : va_S (AB B) s.heap H locs) (hl : lv_has ls 3 [(0, .ref (B + 0)), (1, .int v1), (2, .int v2)]) : W p l e { frames := 1, cells := 0, slots := 0, locals := 21 } s m args below meth c H locs 0 0 (MQ below (qI D ct B Hb S V) args s 0 0 (AB B)) (F0 m 0 ls []) := by
  obtain ⟨hx, hb, hr, hml, hown, hts, hK, hlocks, hN⟩ := id C0
  unfold b_X11_about_0 at h
  refine lv_aload_n hx hb dX11_about_0 rfl (lv_at hl 0 rfl) ?_
  refine lv_iload_n hx hb dX11_about_1 rfl (lv_at hl 1 rfl) ?_
  obtain ⟨r1, hr1, h⟩ := ob_bd h
  refine n_I (kV (As := [.int v1]) C0 (c_X11_isNoFact l v1 hr1) ⟨wd_606, wd_603, wd_605, wp_3, wd_1⟩ kd_X11_isNoFact ⟨Nat.le_of_ble_eq_true rfl, Nat.le_of_ble_eq_true rfl⟩ hP (lay_X11 B ct S) rfl rfl hl.1 rfl (Nat.le_of_ble_eq_true rfl) dX11_about_2 ⟨Nat.le_of_ble_eq_true rfl, Nat.le_of_ble_eq_true rfl⟩) hS (fun H locs hP hS => ?_)
  refine lv_if_eq (tgt := 10) hx hb dX11_about_5 (by decide) (fun z2 => ?_) (fun z2 => ?_)
  · have h := ob_t h z2
    refine lv_iload_n hx hb dX11_about_10 rfl (lv_at hl 2 rfl) ?_
    rcases Decidable.em ((v2 : Int32) = 0) with z3 | z3
    · have h := ob_t h z3
      refine lv_tableIn (x := v2) (off := 29) (tgt := 40) hx hb dX11_about_11 (by rw [z3]; decide) (by rw [z3]; decide) (by rw [z3]; decide) (by decide) ?_
      refine lv_aload_n hx hb dX11_about_40 rfl (lv_at hl 0 rfl) ?_
      refine x_get C0 hP (lay_X11 B ct S) rfl inG11 0 (by decide) wd_219 (fun _ h => h) rfl dX11_about_41 ?_
      refine x_get C0 hP (lay_X10 B ct S (Or.inl rfl)) rfl inG10 7 (by decide) wd_82 (fun _ h => h) rfl dX11_about_44 ?_
      refine lv_iload_n hx hb dX11_about_47 rfl (lv_at hl 1 rfl) ?_
      obtain ⟨g4, h⟩ := ob_gd h
      refine x_iald C0 hP ((fun S => lay_t7 B ct S (Or.inl rfl)) S) g4 dX11_about_48 ?_
      exact r_I C0 hP hS h dX11_about_49
    · have h := ob_f h z3
      rcases Decidable.em ((v2 : Int32) = 1) with z5 | z5
      · have h := ob_t h z5
        refine lv_tableIn (x := v2) (off := 39) (tgt := 50) hx hb dX11_about_11 (by rw [z5]; decide) (by rw [z5]; decide) (by rw [z5]; decide) (by decide) ?_
        refine lv_aload_n hx hb dX11_about_50 rfl (lv_at hl 0 rfl) ?_
        refine x_get C0 hP (lay_X11 B ct S) rfl inG11 0 (by decide) wd_219 (fun _ h => h) rfl dX11_about_51 ?_
        refine x_get C0 hP (lay_X10 B ct S (Or.inl rfl)) rfl inG10 8 (by decide) wd_84 (fun _ h => h) rfl dX11_about_54 ?_
        refine lv_iload_n hx hb dX11_about_57 rfl (lv_at hl 1 rfl) ?_
        obtain ⟨g6, h⟩ := ob_gd h
        refine x_iald C0 hP ((fun S => lay_t8 B ct S (Or.inl rfl)) S) g6 dX11_about_58 ?_
        refine lv_bipush (v := 9) hx hb dX11_about_59 (by decide) ?_
        refine lv_iadd hx hb dX11_about_61 ?_
        exact r_I C0 hP hS h dX11_about_62
      · have h := ob_f h z5
        rcases Decidable.em ((v2 : Int32) = 2) with z7 | z7
        · have h := ob_t h z7
          refine lv_tableIn (x := v2) (off := 52) (tgt := 63) hx hb dX11_about_11 (by rw [z7]; decide) (by rw [z7]; decide) (by rw [z7]; decide) (by decide) ?_
          refine lv_aload_n hx hb dX11_about_63 rfl (lv_at hl 0 rfl) ?_
          refine x_get C0 hP (lay_X11 B ct S) rfl inG11 0 (by decide) wd_219 (fun _ h => h) rfl dX11_about_64 ?_
          refine x_get C0 hP (lay_X10 B ct S (Or.inl rfl)) rfl inG10 9 (by decide) wd_86 (fun _ h => h) rfl dX11_about_67 ?_
          refine lv_iload_n hx hb dX11_about_70 rfl (lv_at hl 1 rfl) ?_
          obtain ⟨g8, h⟩ := ob_gd h
          refine x_iald C0 hP ((fun S => lay_t9 B ct S (Or.inl rfl)) S) g8 dX11_about_71 ?_
          exact r_I C0 hP hS h dX11_about_72
        · have h := ob_f h z7
          rcases Decidable.em ((v2 : Int32) = 3) with z9 | z9
          · have h := ob_t h z9
            refine lv_tableIn (x := v2) (off := 62) (tgt := 73) hx hb dX11_about_11 (by rw [z9]; decide) (by rw [z9]; decide) (by rw [z9]; decide) (by decide) ?_
            refine lv_aload_n hx hb dX11_about_73 rfl (lv_at hl 0 rfl) ?_
            refine x_get C0 hP (lay_X11 B ct S) rfl inG11 0 (by decide) wd_219 (fun _ h => h) rfl dX11_about_74 ?_
            refine x_get C0 hP (lay_X10 B ct S (Or.inl rfl)) rfl inG10 10 (by decide) wd_88 (fun _ h => h) rfl dX11_about_77 ?_
            refine lv_iload_n hx hb dX11_about_80 rfl (lv_at hl 1 rfl) ?_
            obtain ⟨g10, h⟩ := ob_gd h
            refine x_iald C0 hP ((fun S => lay_t10 B ct S (Or.inl rfl)) S) g10 dX11_about_81 ?_
            exact r_I C0 hP hS h dX11_about_82
          · have h := ob_f h z9
            refine lv_tableOut (x := v2) (tgt := 83) hx hb dX11_about_11 (sw_0_4 z3 z5 z7 z9) (by decide) ?_
            refine lv_iconst (v := (-1)) hx hb dX11_about_83 (by decide) ?_
            exact r_I C0 hP hS h dX11_about_84
  · have h := ob_f h z2
    refine lv_iconst (v := (-1)) hx hb dX11_about_8 (by decide) ?_
    exact r_I C0 hP hS h dX11_about_9
set_option maxRecDepth 100000 in
set_option maxHeartbeats 4000000 in
theorem c_X11_about (l : Launch) (a1 : Int32) (a2 : Int32) {D : va_G} {ct : Nat → ClassId} {B : Nat} {Hb : Heap} {S : St} {V : Int32} (h : L_X11_about a1 a2 S = some V) : Met l yX11_about (Cond.code yX11_about cX11_about 3 (some .int) :: tG) { frames := 1, cells := 0, slots := 0, locals := 21 } (va_Pc [.ref (B + 0), .int a1, .int a2] (MPK D ct B Hb S)) (qI D ct B Hb S V) 0 0 (AB B) := by
  refine mk_met (by decide +kernel) (Nat.le_of_ble_eq_true rfl) (fun p e s m args below meth c ls C0 hP hl _ => ?_)
  have h := ob_of h
  exact w_X11_about_0 l C0 a1 a2 S h hP va_S.rf (lv_sub hl [0, 1, 2] rfl)
set_option maxRecDepth 100000 in
set_option maxHeartbeats 4000000 in
theorem w_X11_chance_0 (l : Launch) {V : Int32 × St} (C0 : XC D ct p s m args meth c cX11_chance 4 (some .int) RX11) (v1 : Int32) (v2 : Int32) (S : St) {H : Heap} {locs : List Loc} {ls : Array Slot} (h : (b_X11_chance_0 v1 v2 S).bind some = some V) (hP : MP D ct B Hb S H) (hS : va_S (AB B) s.heap H locs) (hl : lv_has ls 4 [(0, .ref (B + 0)), (1, .int v1), (2, .int v2)]) : W p l e { frames := 1, cells := 0, slots := 0, locals := 22 } s m args below meth c H locs 0 0 (MQ below (qIw D ct B Hb V) args s 0 0 (AB B)) (F0 m 0 ls []) := by
  obtain ⟨hx, hb, hr, hml, hown, hts, hK, hlocks, hN⟩ := id C0
  unfold b_X11_chance_0 at h
  refine lv_aload_n hx hb dX11_chance_0 rfl (lv_at hl 0 rfl) ?_
  refine lv_iload_n hx hb dX11_chance_1 rfl (lv_at hl 1 rfl) ?_
  obtain ⟨r1, hr1, h⟩ := ob_bd h
  refine n_I (kV (As := [.int v1]) C0 (c_X11_isNoFact l v1 hr1) ⟨wd_606, wd_603, wd_605, wp_3, wd_1⟩ kd_X11_isNoFact ⟨Nat.le_of_ble_eq_true rfl, Nat.le_of_ble_eq_true rfl⟩ hP (lay_X11 B ct S) rfl rfl hl.1 rfl (Nat.le_of_ble_eq_true rfl) dX11_chance_2 ⟨Nat.le_of_ble_eq_true rfl, Nat.le_of_ble_eq_true rfl⟩) hS (fun H locs hP hS => ?_)
  refine lv_if_ne (tgt := 18) hx hb dX11_chance_5 (by decide) (fun z2 => ?_) (fun z2 => ?_)
  · have h := ob_f h z2
    refine lv_iconst (v := (-1)) hx hb dX11_chance_18 (by decide) ?_
    exact r_Iw C0 hP hS h dX11_chance_19
  · have h := ob_t h z2
    refine lv_iload_n hx hb dX11_chance_8 rfl (lv_at hl 2 rfl) ?_
    refine lv_iconst (v := 0) hx hb dX11_chance_9 (by decide) ?_
    refine lv_bipush (v := 10) hx hb dX11_chance_10 (by decide) ?_
    obtain ⟨r3, hr3, h⟩ := ob_bd h
    refine n_I (kS (As := [.int v2, .int 0, .int 10]) C0 (c_X11_isOut l v2 0 10 hr3) ⟨wd_378, wd_500, wd_377, wd_1⟩ kd_X11_isOut ⟨Nat.le_of_ble_eq_true rfl, Nat.le_of_ble_eq_true rfl⟩ hP rfl hl.1 rfl (Nat.le_of_ble_eq_true rfl) dX11_chance_12 ⟨Nat.le_of_ble_eq_true rfl, Nat.le_of_ble_eq_true rfl⟩) hS (fun H locs hP hS => ?_)
    refine lv_if_eq (tgt := 20) hx hb dX11_chance_15 (by decide) (fun z4 => ?_) (fun z4 => ?_)
    · have h := ob_t h z4
      refine lv_aload_n hx hb dX11_chance_20 rfl (lv_at hl 0 rfl) ?_
      refine x_get C0 hP (lay_X11 B ct S) rfl inG11 0 (by decide) wd_219 (fun _ h => h) rfl dX11_chance_21 ?_
      refine x_get C0 hP (lay_X10 B ct S (Or.inl rfl)) rfl inG10 10 (by decide) wd_88 (fun _ h => h) rfl dX11_chance_24 ?_
      refine lv_iload_n hx hb dX11_chance_27 rfl (lv_at hl 1 rfl) ?_
      obtain ⟨g5, h⟩ := ob_gd h
      refine x_iald C0 hP ((fun S => lay_t10 B ct S (Or.inl rfl)) S) g5 dX11_chance_28 ?_
      refine lv_istore_n (lv' := [(3, .int (gi S (1 + 10) v1.toNatClampNeg)), (0, .ref (B + 0)), (1, .int v1), (2, .int v2)]) hx hb dX11_chance_29 rfl hl (by decide) rfl (fun ls hl => ?_)
      refine lv_aload_n hx hb dX11_chance_30 rfl (lv_at hl 1 rfl) ?_
      refine x_get C0 hP (lay_X11 B ct S) rfl inG11 0 (by decide) wd_219 (fun _ h => h) rfl dX11_chance_31 ?_
      refine x_get C0 hP (lay_X10 B ct S (Or.inl rfl)) rfl inG10 10 (by decide) wd_88 (fun _ h => h) rfl dX11_chance_34 ?_
      refine lv_iload_n hx hb dX11_chance_37 rfl (lv_at hl 2 rfl) ?_
      refine lv_iload_n hx hb dX11_chance_38 rfl (lv_at hl 3 rfl) ?_
      obtain ⟨g6, h⟩ := ob_gd h
      obtain ⟨S7, eS7, h⟩ := ob_nm h
      refine x_iast C0 hP hS (fun S => lay_t10 B ct S (Or.inl rfl)) g6 dX11_chance_39 (fun H locs hP hS => ?_)
      rw [← eS7] at hP
      refine lv_iload_n hx hb dX11_chance_40 rfl (lv_at hl 0 rfl) ?_
      exact r_Iw C0 hP hS h dX11_chance_41
    · have h := ob_f h z4
      refine lv_iconst (v := (-1)) hx hb dX11_chance_18 (by decide) ?_
      exact r_Iw C0 hP hS h dX11_chance_19
set_option maxRecDepth 100000 in
set_option maxHeartbeats 4000000 in
theorem c_X11_chance (l : Launch) (a1 : Int32) (a2 : Int32) {D : va_G} {ct : Nat → ClassId} {B : Nat} {Hb : Heap} {S : St} {V : Int32 × St} (h : L_X11_chance a1 a2 S = some V) : Met l yX11_chance (Cond.code yX11_chance cX11_chance 4 (some .int) :: tG) { frames := 1, cells := 0, slots := 0, locals := 22 } (va_Pc [.ref (B + 0), .int a1, .int a2] (MPK D ct B Hb S)) (qIw D ct B Hb V) 0 0 (AB B) := by
  refine mk_met (by decide +kernel) (Nat.le_of_ble_eq_true rfl) (fun p e s m args below meth c ls C0 hP hl _ => ?_)
  have h := ob_of h
  exact w_X11_chance_0 l C0 a1 a2 S h hP va_S.rf (lv_sub hl [0, 1, 2] rfl)
set_option maxRecDepth 100000 in
set_option maxHeartbeats 4000000 in
theorem w_X11_kin_0 (l : Launch) {V : Int32 × St} (C0 : XC D ct p s m args meth c cX11_kin 3 (some .int) RX11) (v1 : Int32) (v2 : Int32) (S : St) {H : Heap} {locs : List Loc} {ls : Array Slot} (h : (b_X11_kin_0 v1 v2 S).bind some = some V) (hP : MP D ct B Hb S H) (hS : va_S (AB B) s.heap H locs) (hl : lv_has ls 3 [(0, .ref (B + 0)), (1, .int v1), (2, .int v2)]) : W p l e { frames := 2, cells := 0, slots := 0, locals := 44 } s m args below meth c H locs 0 0 (MQ below (qIw D ct B Hb V) args s 0 0 (AB B)) (F0 m 0 ls []) := by
  obtain ⟨hx, hb, hr, hml, hown, hts, hK, hlocks, hN⟩ := id C0
  unfold b_X11_kin_0 at h
  refine lv_aload_n hx hb dX11_kin_0 rfl (lv_at hl 0 rfl) ?_
  refine x_get C0 hP (lay_X11 B ct S) rfl inG11 0 (by decide) wd_219 (fun _ h => h) rfl dX11_kin_1 ?_
  refine lv_iload_n hx hb dX11_kin_4 rfl (lv_at hl 1 rfl) ?_
  refine lv_iload_n hx hb dX11_kin_5 rfl (lv_at hl 2 rfl) ?_
  obtain ⟨r1, hr1, h⟩ := ob_bd h
  refine n_Iw (kV (As := [.int v1, .int v2]) C0 (c_X10_turnKin l 1 (Or.inl rfl) v1 v2 hr1) ⟨wd_456, wd_615, wd_454, wd_455, wd_2⟩ kd_X10_turnKin ⟨Nat.le_of_ble_eq_true rfl, Nat.le_of_ble_eq_true rfl⟩ hP (lay_X10 B ct S (Or.inl rfl)) rfl rfl hl.1 rfl (Nat.le_of_ble_eq_true rfl) dX11_kin_6 ⟨Nat.le_of_ble_eq_true rfl, Nat.le_of_ble_eq_true rfl⟩) hS (fun H locs hP hS => ?_)
  exact r_Iw C0 hP hS h dX11_kin_9
set_option maxRecDepth 100000 in
set_option maxHeartbeats 4000000 in
theorem c_X11_kin (l : Launch) (a1 : Int32) (a2 : Int32) {D : va_G} {ct : Nat → ClassId} {B : Nat} {Hb : Heap} {S : St} {V : Int32 × St} (h : L_X11_kin a1 a2 S = some V) : Met l yX11_kin (Cond.code yX11_kin cX11_kin 3 (some .int) :: tG) { frames := 2, cells := 0, slots := 0, locals := 44 } (va_Pc [.ref (B + 0), .int a1, .int a2] (MPK D ct B Hb S)) (qIw D ct B Hb V) 0 0 (AB B) := by
  refine mk_met (by decide +kernel) (Nat.le_of_ble_eq_true rfl) (fun p e s m args below meth c ls C0 hP hl _ => ?_)
  have h := ob_of h
  exact w_X11_kin_0 l C0 a1 a2 S h hP va_S.rf (lv_sub hl [0, 1, 2] rfl)
set_option maxRecDepth 100000 in
set_option maxHeartbeats 4000000 in
theorem w_X11_set_0 (l : Launch) {V : Int32 × St} (C0 : XC D ct p s m args meth c cX11_set 3 (some .int) RX11) (v1 : Int32) (v2 : Int32) (S : St) {H : Heap} {locs : List Loc} {ls : Array Slot} (h : (b_X11_set_0 v1 v2 S).bind some = some V) (hP : MP D ct B Hb S H) (hS : va_S (AB B) s.heap H locs) (hl : lv_has ls 3 [(0, .ref (B + 0)), (1, .int v1), (2, .int v2)]) : W p l e { frames := 2, cells := 0, slots := 0, locals := 46 } s m args below meth c H locs 0 0 (MQ below (qIw D ct B Hb V) args s 0 0 (AB B)) (F0 m 0 ls []) := by
  obtain ⟨hx, hb, hr, hml, hown, hts, hK, hlocks, hN⟩ := id C0
  unfold b_X11_set_0 at h
  refine lv_aload_n hx hb dX11_set_0 rfl (lv_at hl 0 rfl) ?_
  refine x_get C0 hP (lay_X11 B ct S) rfl inG11 0 (by decide) wd_219 (fun _ h => h) rfl dX11_set_1 ?_
  refine lv_iload_n hx hb dX11_set_4 rfl (lv_at hl 1 rfl) ?_
  refine lv_iload_n hx hb dX11_set_5 rfl (lv_at hl 2 rfl) ?_
  obtain ⟨r1, hr1, h⟩ := ob_bd h
  refine n_Iw (kV (As := [.int v1, .int v2]) C0 (c_X10_changeRule l 1 (Or.inl rfl) v1 v2 hr1) ⟨wd_469, wd_620, wd_467, wd_468, wd_2⟩ kd_X10_changeRule ⟨Nat.le_of_ble_eq_true rfl, Nat.le_of_ble_eq_true rfl⟩ hP (lay_X10 B ct S (Or.inl rfl)) rfl rfl hl.1 rfl (Nat.le_of_ble_eq_true rfl) dX11_set_6 ⟨Nat.le_of_ble_eq_true rfl, Nat.le_of_ble_eq_true rfl⟩) hS (fun H locs hP hS => ?_)
  exact r_Iw C0 hP hS h dX11_set_9
set_option maxRecDepth 100000 in
set_option maxHeartbeats 4000000 in
theorem c_X11_set (l : Launch) (a1 : Int32) (a2 : Int32) {D : va_G} {ct : Nat → ClassId} {B : Nat} {Hb : Heap} {S : St} {V : Int32 × St} (h : L_X11_set a1 a2 S = some V) : Met l yX11_set (Cond.code yX11_set cX11_set 3 (some .int) :: tG) { frames := 2, cells := 0, slots := 0, locals := 46 } (va_Pc [.ref (B + 0), .int a1, .int a2] (MPK D ct B Hb S)) (qIw D ct B Hb V) 0 0 (AB B) := by
  refine mk_met (by decide +kernel) (Nat.le_of_ble_eq_true rfl) (fun p e s m args below meth c ls C0 hP hl _ => ?_)
  have h := ob_of h
  exact w_X11_set_0 l C0 a1 a2 S h hP va_S.rf (lv_sub hl [0, 1, 2] rfl)
set_option maxRecDepth 100000 in
set_option maxHeartbeats 4000000 in
theorem w_X11_fate_0 (l : Launch) {V : Int32 × St} (C0 : XC D ct p s m args meth c cX11_fate 3 (some .int) RX11) (v1 : Int32) (v2 : Int32) (S : St) {H : Heap} {locs : List Loc} {ls : Array Slot} (h : (b_X11_fate_0 v1 v2 S).bind some = some V) (hP : MP D ct B Hb S H) (hS : va_S (AB B) s.heap H locs) (hl : lv_has ls 3 [(0, .ref (B + 0)), (1, .int v1), (2, .int v2)]) : W p l e { frames := 5, cells := 0, slots := 0, locals := 117 } s m args below meth c H locs 0 0 (MQ below (qIw D ct B Hb V) args s 0 0 (AB B)) (F0 m 0 ls []) := by
  obtain ⟨hx, hb, hr, hml, hown, hts, hK, hlocks, hN⟩ := id C0
  unfold b_X11_fate_0 at h
  refine lv_aload_n hx hb dX11_fate_0 rfl (lv_at hl 0 rfl) ?_
  refine lv_iload_n hx hb dX11_fate_1 rfl (lv_at hl 1 rfl) ?_
  obtain ⟨r1, hr1, h⟩ := ob_bd h
  refine n_I (kV (As := [.int v1]) C0 (c_X11_isNobody l v1 hr1) ⟨wd_477, wd_474, wd_476, wp_2, wd_1⟩ kd_X11_isNobody ⟨Nat.le_of_ble_eq_true rfl, Nat.le_of_ble_eq_true rfl⟩ hP (lay_X11 B ct S) rfl rfl hl.1 rfl (Nat.le_of_ble_eq_true rfl) dX11_fate_2 ⟨Nat.le_of_ble_eq_true rfl, Nat.le_of_ble_eq_true rfl⟩) hS (fun H locs hP hS => ?_)
  refine lv_if_ne (tgt := 18) hx hb dX11_fate_5 (by decide) (fun z2 => ?_) (fun z2 => ?_)
  · have h := ob_f h z2
    refine lv_iconst (v := (-1)) hx hb dX11_fate_18 (by decide) ?_
    exact r_Iw C0 hP hS h dX11_fate_19
  · have h := ob_t h z2
    refine lv_iload_n hx hb dX11_fate_8 rfl (lv_at hl 2 rfl) ?_
    refine lv_iconst (v := 0) hx hb dX11_fate_9 (by decide) ?_
    refine lv_bipush (v := 8) hx hb dX11_fate_10 (by decide) ?_
    obtain ⟨r3, hr3, h⟩ := ob_bd h
    refine n_I (kS (As := [.int v2, .int 0, .int 8]) C0 (c_X11_isOut l v2 0 8 hr3) ⟨wd_378, wd_500, wd_377, wd_1⟩ kd_X11_isOut ⟨Nat.le_of_ble_eq_true rfl, Nat.le_of_ble_eq_true rfl⟩ hP rfl hl.1 rfl (Nat.le_of_ble_eq_true rfl) dX11_fate_12 ⟨Nat.le_of_ble_eq_true rfl, Nat.le_of_ble_eq_true rfl⟩) hS (fun H locs hP hS => ?_)
    refine lv_if_eq (tgt := 20) hx hb dX11_fate_15 (by decide) (fun z4 => ?_) (fun z4 => ?_)
    · have h := ob_t h z4
      refine lv_aload_n hx hb dX11_fate_20 rfl (lv_at hl 0 rfl) ?_
      refine x_get C0 hP (lay_X11 B ct S) rfl inG11 4 (by decide) wd_223 (fun _ h => h) rfl dX11_fate_21 ?_
      refine lv_aload_n hx hb dX11_fate_24 rfl (lv_at hl 0 rfl) ?_
      refine x_get C0 hP (lay_X11 B ct S) rfl inG11 0 (by decide) wd_219 (fun _ h => h) rfl dX11_fate_25 ?_
      refine lv_iconst (v := (-1)) hx hb dX11_fate_28 (by decide) ?_
      obtain ⟨r5, hr5, h⟩ := ob_bd h
      refine n_Vw (kV (As := [.ref (B + 1), .int ((-1))]) C0 (c_X2_run l 1 (Or.inl rfl) ((-1)) hr5) ⟨wd_628, wd_625, wd_626, wd_627, wd_4⟩ kd_X2_run ⟨Nat.le_of_ble_eq_true rfl, Nat.le_of_ble_eq_true rfl⟩ hP (lay_X2 B ct S) rfl rfl hl.1 rfl (Nat.le_of_ble_eq_true rfl) dX11_fate_29 ⟨Nat.le_of_ble_eq_true rfl, Nat.le_of_ble_eq_true rfl⟩) hS (fun H locs hP hS => ?_)
      refine lv_aload_n hx hb dX11_fate_32 rfl (lv_at hl 0 rfl) ?_
      refine x_get C0 hP (lay_X11 B ct r5) rfl inG11 4 (by decide) wd_223 (fun _ h => h) rfl dX11_fate_33 ?_
      refine lv_iload_n hx hb dX11_fate_36 rfl (lv_at hl 1 rfl) ?_
      refine lv_iload_n hx hb dX11_fate_37 rfl (lv_at hl 2 rfl) ?_
      obtain ⟨r6, hr6, h⟩ := ob_bd h
      refine n_I (kV (As := [.int v1, .int v2]) C0 (c_X2_fateOf l v1 v2 hr6) ⟨wd_717, wd_714, wd_715, wd_716, wd_4⟩ kd_X2_fateOf ⟨Nat.le_of_ble_eq_true rfl, Nat.le_of_ble_eq_true rfl⟩ hP (lay_X2 B ct r5) rfl rfl hl.1 rfl (Nat.le_of_ble_eq_true rfl) dX11_fate_38 ⟨Nat.le_of_ble_eq_true rfl, Nat.le_of_ble_eq_true rfl⟩) hS (fun H locs hP hS => ?_)
      exact r_Iw C0 hP hS h dX11_fate_41
    · have h := ob_f h z4
      refine lv_iconst (v := (-1)) hx hb dX11_fate_18 (by decide) ?_
      exact r_Iw C0 hP hS h dX11_fate_19
set_option maxRecDepth 100000 in
set_option maxHeartbeats 4000000 in
theorem c_X11_fate (l : Launch) (a1 : Int32) (a2 : Int32) {D : va_G} {ct : Nat → ClassId} {B : Nat} {Hb : Heap} {S : St} {V : Int32 × St} (h : L_X11_fate a1 a2 S = some V) : Met l yX11_fate (Cond.code yX11_fate cX11_fate 3 (some .int) :: tG) { frames := 5, cells := 0, slots := 0, locals := 117 } (va_Pc [.ref (B + 0), .int a1, .int a2] (MPK D ct B Hb S)) (qIw D ct B Hb V) 0 0 (AB B) := by
  refine mk_met (by decide +kernel) (Nat.le_of_ble_eq_true rfl) (fun p e s m args below meth c ls C0 hP hl _ => ?_)
  have h := ob_of h
  exact w_X11_fate_0 l C0 a1 a2 S h hP va_S.rf (lv_sub hl [0, 1, 2] rfl)
set_option maxRecDepth 100000 in
set_option maxHeartbeats 4000000 in
theorem w_X11_sum_0 (l : Launch) {V : Int32 × St} (C0 : XC D ct p s m args meth c cX11_sum 2 (some .int) RX11) (v1 : Int32) (S : St) {H : Heap} {locs : List Loc} {ls : Array Slot} (h : (b_X11_sum_0 v1 S).bind some = some V) (hP : MP D ct B Hb S H) (hS : va_S (AB B) s.heap H locs) (hl : lv_has ls 2 [(0, .ref (B + 0)), (1, .int v1)]) : W p l e { frames := 5, cells := 0, slots := 0, locals := 117 } s m args below meth c H locs 0 0 (MQ below (qIw D ct B Hb V) args s 0 0 (AB B)) (F0 m 0 ls []) := by
  obtain ⟨hx, hb, hr, hml, hown, hts, hK, hlocks, hN⟩ := id C0
  unfold b_X11_sum_0 at h
  refine lv_aload_n hx hb dX11_sum_0 rfl (lv_at hl 0 rfl) ?_
  refine lv_iload_n hx hb dX11_sum_1 rfl (lv_at hl 1 rfl) ?_
  obtain ⟨r1, hr1, h⟩ := ob_bd h
  refine n_I (kV (As := [.int v1]) C0 (c_X11_isNobody l v1 hr1) ⟨wd_477, wd_474, wd_476, wp_2, wd_1⟩ kd_X11_isNobody ⟨Nat.le_of_ble_eq_true rfl, Nat.le_of_ble_eq_true rfl⟩ hP (lay_X11 B ct S) rfl rfl hl.1 rfl (Nat.le_of_ble_eq_true rfl) dX11_sum_2 ⟨Nat.le_of_ble_eq_true rfl, Nat.le_of_ble_eq_true rfl⟩) hS (fun H locs hP hS => ?_)
  refine lv_if_eq (tgt := 11) hx hb dX11_sum_5 (by decide) (fun z2 => ?_) (fun z2 => ?_)
  · have h := ob_t h z2
    refine lv_aload_n hx hb dX11_sum_11 rfl (lv_at hl 0 rfl) ?_
    refine x_get C0 hP (lay_X11 B ct S) rfl inG11 4 (by decide) wd_223 (fun _ h => h) rfl dX11_sum_12 ?_
    refine lv_aload_n hx hb dX11_sum_15 rfl (lv_at hl 0 rfl) ?_
    refine x_get C0 hP (lay_X11 B ct S) rfl inG11 0 (by decide) wd_219 (fun _ h => h) rfl dX11_sum_16 ?_
    refine lv_iconst (v := (-1)) hx hb dX11_sum_19 (by decide) ?_
    obtain ⟨r3, hr3, h⟩ := ob_bd h
    refine n_Vw (kV (As := [.ref (B + 1), .int ((-1))]) C0 (c_X2_run l 1 (Or.inl rfl) ((-1)) hr3) ⟨wd_628, wd_625, wd_626, wd_627, wd_4⟩ kd_X2_run ⟨Nat.le_of_ble_eq_true rfl, Nat.le_of_ble_eq_true rfl⟩ hP (lay_X2 B ct S) rfl rfl hl.1 rfl (Nat.le_of_ble_eq_true rfl) dX11_sum_20 ⟨Nat.le_of_ble_eq_true rfl, Nat.le_of_ble_eq_true rfl⟩) hS (fun H locs hP hS => ?_)
    refine lv_aload_n hx hb dX11_sum_23 rfl (lv_at hl 0 rfl) ?_
    refine x_get C0 hP (lay_X11 B ct r3) rfl inG11 4 (by decide) wd_223 (fun _ h => h) rfl dX11_sum_24 ?_
    refine x_get C0 hP (lay_X2 B ct r3) rfl inG2 3 (by decide) wd_158 (fun _ h => h) rfl dX11_sum_27 ?_
    refine lv_iload_n hx hb dX11_sum_30 rfl (lv_at hl 1 rfl) ?_
    obtain ⟨g4, h⟩ := ob_gd h
    refine x_iald C0 hP ((fun S => lay_57 B ct S) r3) g4 dX11_sum_31 ?_
    exact r_Iw C0 hP hS h dX11_sum_32
  · have h := ob_f h z2
    refine lv_ldc (v := (-1000000001)) hx hb hown (hts _ wd_501) dX11_sum_8 ?_
    exact r_Iw C0 hP hS h dX11_sum_10
set_option maxRecDepth 100000 in
set_option maxHeartbeats 4000000 in
theorem c_X11_sum (l : Launch) (a1 : Int32) {D : va_G} {ct : Nat → ClassId} {B : Nat} {Hb : Heap} {S : St} {V : Int32 × St} (h : L_X11_sum a1 S = some V) : Met l yX11_sum (Cond.code yX11_sum cX11_sum 2 (some .int) :: tG) { frames := 5, cells := 0, slots := 0, locals := 117 } (va_Pc [.ref (B + 0), .int a1] (MPK D ct B Hb S)) (qIw D ct B Hb V) 0 0 (AB B) := by
  refine mk_met (by decide +kernel) (Nat.le_of_ble_eq_true rfl) (fun p e s m args below meth c ls C0 hP hl _ => ?_)
  have h := ob_of h
  exact w_X11_sum_0 l C0 a1 S h hP va_S.rf (lv_sub hl [0, 1] rfl)
set_option maxRecDepth 100000 in
set_option maxHeartbeats 4000000 in
theorem w_X11_sums_0 (l : Launch) {V : Int32 × St} (C0 : XC D ct p s m args meth c cX11_sums 2 (some .int) RX11) (v1 : Int32) (S : St) {H : Heap} {locs : List Loc} {ls : Array Slot} (h : (b_X11_sums_0 v1 S).bind some = some V) (hP : MP D ct B Hb S H) (hS : va_S (AB B) s.heap H locs) (hl : lv_has ls 2 [(0, .ref (B + 0)), (1, .int v1)]) : W p l e { frames := 5, cells := 0, slots := 0, locals := 117 } s m args below meth c H locs 0 0 (MQ below (qIw D ct B Hb V) args s 0 0 (AB B)) (F0 m 0 ls []) := by
  obtain ⟨hx, hb, hr, hml, hown, hts, hK, hlocks, hN⟩ := id C0
  unfold b_X11_sums_0 at h
  refine lv_iload_n hx hb dX11_sums_0 rfl (lv_at hl 1 rfl) ?_
  refine lv_iconst (v := 0) hx hb dX11_sums_1 (by decide) ?_
  refine lv_iconst (v := 5) hx hb dX11_sums_2 (by decide) ?_
  obtain ⟨r1, hr1, h⟩ := ob_bd h
  refine n_I (kS (As := [.int v1, .int 0, .int 5]) C0 (c_X11_isOut l v1 0 5 hr1) ⟨wd_378, wd_500, wd_377, wd_1⟩ kd_X11_isOut ⟨Nat.le_of_ble_eq_true rfl, Nat.le_of_ble_eq_true rfl⟩ hP rfl hl.1 rfl (Nat.le_of_ble_eq_true rfl) dX11_sums_3 ⟨Nat.le_of_ble_eq_true rfl, Nat.le_of_ble_eq_true rfl⟩) hS (fun H locs hP hS => ?_)
  refine lv_if_eq (tgt := 11) hx hb dX11_sums_6 (by decide) (fun z2 => ?_) (fun z2 => ?_)
  · have h := ob_t h z2
    refine lv_aload_n hx hb dX11_sums_11 rfl (lv_at hl 0 rfl) ?_
    refine x_get C0 hP (lay_X11 B ct S) rfl inG11 4 (by decide) wd_223 (fun _ h => h) rfl dX11_sums_12 ?_
    refine lv_aload_n hx hb dX11_sums_15 rfl (lv_at hl 0 rfl) ?_
    refine x_get C0 hP (lay_X11 B ct S) rfl inG11 0 (by decide) wd_219 (fun _ h => h) rfl dX11_sums_16 ?_
    refine lv_iconst (v := (-1)) hx hb dX11_sums_19 (by decide) ?_
    obtain ⟨r3, hr3, h⟩ := ob_bd h
    refine n_Vw (kV (As := [.ref (B + 1), .int ((-1))]) C0 (c_X2_run l 1 (Or.inl rfl) ((-1)) hr3) ⟨wd_628, wd_625, wd_626, wd_627, wd_4⟩ kd_X2_run ⟨Nat.le_of_ble_eq_true rfl, Nat.le_of_ble_eq_true rfl⟩ hP (lay_X2 B ct S) rfl rfl hl.1 rfl (Nat.le_of_ble_eq_true rfl) dX11_sums_20 ⟨Nat.le_of_ble_eq_true rfl, Nat.le_of_ble_eq_true rfl⟩) hS (fun H locs hP hS => ?_)
    refine lv_aload_n hx hb dX11_sums_23 rfl (lv_at hl 0 rfl) ?_
    refine x_get C0 hP (lay_X11 B ct r3) rfl inG11 4 (by decide) wd_223 (fun _ h => h) rfl dX11_sums_24 ?_
    refine lv_iload_n hx hb dX11_sums_27 rfl (lv_at hl 1 rfl) ?_
    obtain ⟨r4, hr4, h⟩ := ob_bd h
    refine n_I (kV (As := [.int v1]) C0 (c_X2_countOf l v1 hr4) ⟨wd_737, wd_734, wd_735, wd_736, wd_4⟩ kd_X2_countOf ⟨Nat.le_of_ble_eq_true rfl, Nat.le_of_ble_eq_true rfl⟩ hP (lay_X2 B ct r3) rfl rfl hl.1 rfl (Nat.le_of_ble_eq_true rfl) dX11_sums_28 ⟨Nat.le_of_ble_eq_true rfl, Nat.le_of_ble_eq_true rfl⟩) hS (fun H locs hP hS => ?_)
    exact r_Iw C0 hP hS h dX11_sums_31
  · have h := ob_f h z2
    refine lv_iconst (v := (-1)) hx hb dX11_sums_9 (by decide) ?_
    exact r_Iw C0 hP hS h dX11_sums_10
set_option maxRecDepth 100000 in
set_option maxHeartbeats 4000000 in
theorem c_X11_sums (l : Launch) (a1 : Int32) {D : va_G} {ct : Nat → ClassId} {B : Nat} {Hb : Heap} {S : St} {V : Int32 × St} (h : L_X11_sums a1 S = some V) : Met l yX11_sums (Cond.code yX11_sums cX11_sums 2 (some .int) :: tG) { frames := 5, cells := 0, slots := 0, locals := 117 } (va_Pc [.ref (B + 0), .int a1] (MPK D ct B Hb S)) (qIw D ct B Hb V) 0 0 (AB B) := by
  refine mk_met (by decide +kernel) (Nat.le_of_ble_eq_true rfl) (fun p e s m args below meth c ls C0 hP hl _ => ?_)
  have h := ob_of h
  exact w_X11_sums_0 l C0 a1 S h hP va_S.rf (lv_sub hl [0, 1] rfl)
set_option maxRecDepth 100000 in
set_option maxHeartbeats 4000000 in
theorem w_X11_market_0 (l : Launch) {V : Int32 × St} (C0 : XC D ct p s m args meth c cX11_market 2 (some .int) RX11) (v1 : Int32) (S : St) {H : Heap} {locs : List Loc} {ls : Array Slot} (h : (b_X11_market_0 v1 S).bind some = some V) (hP : MP D ct B Hb S H) (hS : va_S (AB B) s.heap H locs) (hl : lv_has ls 2 [(0, .ref (B + 0)), (1, .int v1)]) : W p l e { frames := 5, cells := 0, slots := 0, locals := 117 } s m args below meth c H locs 0 0 (MQ below (qIw D ct B Hb V) args s 0 0 (AB B)) (F0 m 0 ls []) := by
  obtain ⟨hx, hb, hr, hml, hown, hts, hK, hlocks, hN⟩ := id C0
  unfold b_X11_market_0 at h
  refine lv_iload_n hx hb dX11_market_0 rfl (lv_at hl 1 rfl) ?_
  refine lv_iconst (v := 0) hx hb dX11_market_1 (by decide) ?_
  refine lv_bipush (v := 23) hx hb dX11_market_2 (by decide) ?_
  obtain ⟨r1, hr1, h⟩ := ob_bd h
  refine n_I (kS (As := [.int v1, .int 0, .int 23]) C0 (c_X11_isOut l v1 0 23 hr1) ⟨wd_378, wd_500, wd_377, wd_1⟩ kd_X11_isOut ⟨Nat.le_of_ble_eq_true rfl, Nat.le_of_ble_eq_true rfl⟩ hP rfl hl.1 rfl (Nat.le_of_ble_eq_true rfl) dX11_market_4 ⟨Nat.le_of_ble_eq_true rfl, Nat.le_of_ble_eq_true rfl⟩) hS (fun H locs hP hS => ?_)
  refine lv_if_eq (tgt := 12) hx hb dX11_market_7 (by decide) (fun z2 => ?_) (fun z2 => ?_)
  · have h := ob_t h z2
    refine lv_aload_n hx hb dX11_market_12 rfl (lv_at hl 0 rfl) ?_
    refine x_get C0 hP (lay_X11 B ct S) rfl inG11 4 (by decide) wd_223 (fun _ h => h) rfl dX11_market_13 ?_
    refine lv_aload_n hx hb dX11_market_16 rfl (lv_at hl 0 rfl) ?_
    refine x_get C0 hP (lay_X11 B ct S) rfl inG11 0 (by decide) wd_219 (fun _ h => h) rfl dX11_market_17 ?_
    refine lv_iconst (v := (-1)) hx hb dX11_market_20 (by decide) ?_
    obtain ⟨r3, hr3, h⟩ := ob_bd h
    refine n_Vw (kV (As := [.ref (B + 1), .int ((-1))]) C0 (c_X2_run l 1 (Or.inl rfl) ((-1)) hr3) ⟨wd_628, wd_625, wd_626, wd_627, wd_4⟩ kd_X2_run ⟨Nat.le_of_ble_eq_true rfl, Nat.le_of_ble_eq_true rfl⟩ hP (lay_X2 B ct S) rfl rfl hl.1 rfl (Nat.le_of_ble_eq_true rfl) dX11_market_21 ⟨Nat.le_of_ble_eq_true rfl, Nat.le_of_ble_eq_true rfl⟩) hS (fun H locs hP hS => ?_)
    refine lv_aload_n hx hb dX11_market_24 rfl (lv_at hl 0 rfl) ?_
    refine x_get C0 hP (lay_X11 B ct r3) rfl inG11 4 (by decide) wd_223 (fun _ h => h) rfl dX11_market_25 ?_
    refine lv_iload_n hx hb dX11_market_28 rfl (lv_at hl 1 rfl) ?_
    obtain ⟨r4, hr4, h⟩ := ob_bd h
    refine n_I (kV (As := [.int v1]) C0 (c_X2_marketAt l v1 hr4) ⟨wd_761, wd_758, wd_759, wd_760, wd_4⟩ kd_X2_marketAt ⟨Nat.le_of_ble_eq_true rfl, Nat.le_of_ble_eq_true rfl⟩ hP (lay_X2 B ct r3) rfl rfl hl.1 rfl (Nat.le_of_ble_eq_true rfl) dX11_market_29 ⟨Nat.le_of_ble_eq_true rfl, Nat.le_of_ble_eq_true rfl⟩) hS (fun H locs hP hS => ?_)
    exact r_Iw C0 hP hS h dX11_market_32
  · have h := ob_f h z2
    refine lv_iconst (v := (-1)) hx hb dX11_market_10 (by decide) ?_
    exact r_Iw C0 hP hS h dX11_market_11
set_option maxRecDepth 100000 in
set_option maxHeartbeats 4000000 in
theorem c_X11_market (l : Launch) (a1 : Int32) {D : va_G} {ct : Nat → ClassId} {B : Nat} {Hb : Heap} {S : St} {V : Int32 × St} (h : L_X11_market a1 S = some V) : Met l yX11_market (Cond.code yX11_market cX11_market 2 (some .int) :: tG) { frames := 5, cells := 0, slots := 0, locals := 117 } (va_Pc [.ref (B + 0), .int a1] (MPK D ct B Hb S)) (qIw D ct B Hb V) 0 0 (AB B) := by
  refine mk_met (by decide +kernel) (Nat.le_of_ble_eq_true rfl) (fun p e s m args below meth c ls C0 hP hl _ => ?_)
  have h := ob_of h
  exact w_X11_market_0 l C0 a1 S h hP va_S.rf (lv_sub hl [0, 1] rfl)
end WALKS
