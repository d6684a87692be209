theorem dL_many_0 : decode cL_many 0 = .ok (.iconst 0, 1) := by decide +kernel
theorem dL_many_1 : decode cL_many 1 = .ok (.istore_n 1, 1) := by decide +kernel
theorem dL_many_2 : decode cL_many 2 = .ok (.iload_n 0, 1) := by decide +kernel
theorem dL_many_3 : decode cL_many 3 = .ok (.istore_n 2, 1) := by decide +kernel
theorem dL_many_4 : decode cL_many 4 = .ok (.iload_n 2, 1) := by decide +kernel
theorem dL_many_5 : decode cL_many 5 = .ok (.ifCond .eq 15, 3) := by decide +kernel
theorem dL_many_8 : decode cL_many 8 = .ok (.iinc 1 1, 3) := by decide +kernel
theorem dL_many_11 : decode cL_many 11 = .ok (.iload_n 2, 1) := by decide +kernel
theorem dL_many_12 : decode cL_many 12 = .ok (.iload_n 2, 1) := by decide +kernel
theorem dL_many_13 : decode cL_many 13 = .ok (.iconst 1, 1) := by decide +kernel
theorem dL_many_14 : decode cL_many 14 = .ok (.isub, 1) := by decide +kernel
theorem dL_many_15 : decode cL_many 15 = .ok (.iand, 1) := by decide +kernel
theorem dL_many_16 : decode cL_many 16 = .ok (.istore_n 2, 1) := by decide +kernel
theorem dL_many_17 : decode cL_many 17 = .ok (.goto (-13), 3) := by decide +kernel
theorem dL_many_20 : decode cL_many 20 = .ok (.iload_n 1, 1) := by decide +kernel
theorem dL_many_21 : decode cL_many 21 = .ok (.ireturn, 1) := by decide +kernel
theorem dL_has_0 : decode cL_has 0 = .ok (.iload_n 0, 1) := by decide +kernel
theorem dL_has_1 : decode cL_has 1 = .ok (.iload_n 1, 1) := by decide +kernel
theorem dL_has_2 : decode cL_has 2 = .ok (.ishr, 1) := by decide +kernel
theorem dL_has_3 : decode cL_has 3 = .ok (.iconst 1, 1) := by decide +kernel
theorem dL_has_4 : decode cL_has 4 = .ok (.iand, 1) := by decide +kernel
theorem dL_has_5 : decode cL_has 5 = .ok (.iconst 1, 1) := by decide +kernel
theorem dL_has_6 : decode cL_has 6 = .ok (.if_icmp .ne 7, 3) := by decide +kernel
theorem dL_has_9 : decode cL_has 9 = .ok (.iconst 1, 1) := by decide +kernel
theorem dL_has_10 : decode cL_has 10 = .ok (.goto 4, 3) := by decide +kernel
theorem dL_has_13 : decode cL_has 13 = .ok (.iconst 0, 1) := by decide +kernel
theorem dL_has_14 : decode cL_has 14 = .ok (.ireturn, 1) := by decide +kernel
theorem dL_place_0 : decode cL_place 0 = .ok (.iconst 0, 1) := by decide +kernel
theorem dL_place_1 : decode cL_place 1 = .ok (.istore_n 3, 1) := by decide +kernel
theorem dL_place_2 : decode cL_place 2 = .ok (.lload_n 0, 1) := by decide +kernel
theorem dL_place_3 : decode cL_place 3 = .ok (.lstore 4, 2) := by decide +kernel
theorem dL_place_5 : decode cL_place 5 = .ok (.lload 4, 2) := by decide +kernel
theorem dL_place_7 : decode cL_place 7 = .ok (.lconst 0, 1) := by decide +kernel
theorem dL_place_8 : decode cL_place 8 = .ok (.lcmp, 1) := by decide +kernel
theorem dL_place_9 : decode cL_place 9 = .ok (.ifCond .eq 31, 3) := by decide +kernel
theorem dL_place_12 : decode cL_place 12 = .ok (.lload 4, 2) := by decide +kernel
theorem dL_place_14 : decode cL_place 14 = .ok (.ldc2_w 7, 3) := by decide +kernel
theorem dL_place_17 : decode cL_place 17 = .ok (.land, 1) := by decide +kernel
theorem dL_place_18 : decode cL_place 18 = .ok (.iload_n 2, 1) := by decide +kernel
theorem dL_place_19 : decode cL_place 19 = .ok (.iconst 1, 1) := by decide +kernel
theorem dL_place_20 : decode cL_place 20 = .ok (.iadd, 1) := by decide +kernel
theorem dL_place_21 : decode cL_place 21 = .ok (.i2l, 1) := by decide +kernel
theorem dL_place_22 : decode cL_place 22 = .ok (.lcmp, 1) := by decide +kernel
theorem dL_place_23 : decode cL_place 23 = .ok (.ifCond .ne 5, 3) := by decide +kernel
theorem dL_place_26 : decode cL_place 26 = .ok (.iload_n 3, 1) := by decide +kernel
theorem dL_place_27 : decode cL_place 27 = .ok (.ireturn, 1) := by decide +kernel
theorem dL_place_28 : decode cL_place 28 = .ok (.iinc 3 1, 3) := by decide +kernel
theorem dL_place_31 : decode cL_place 31 = .ok (.lload 4, 2) := by decide +kernel
theorem dL_place_33 : decode cL_place 33 = .ok (.iconst 4, 1) := by decide +kernel
theorem dL_place_34 : decode cL_place 34 = .ok (.lushr, 1) := by decide +kernel
theorem dL_place_35 : decode cL_place 35 = .ok (.lstore 4, 2) := by decide +kernel
theorem dL_place_37 : decode cL_place 37 = .ok (.goto (-32), 3) := by decide +kernel
theorem dL_place_40 : decode cL_place 40 = .ok (.iconst (-1), 1) := by decide +kernel
theorem dL_place_41 : decode cL_place 41 = .ok (.ireturn, 1) := by decide +kernel
theorem dL_length_0 : decode cL_length 0 = .ok (.iconst 0, 1) := by decide +kernel
theorem dL_length_1 : decode cL_length 1 = .ok (.istore_n 2, 1) := by decide +kernel
theorem dL_length_2 : decode cL_length 2 = .ok (.lload_n 0, 1) := by decide +kernel
theorem dL_length_3 : decode cL_length 3 = .ok (.lstore_n 3, 1) := by decide +kernel
theorem dL_length_4 : decode cL_length 4 = .ok (.lload_n 3, 1) := by decide +kernel
theorem dL_length_5 : decode cL_length 5 = .ok (.lconst 0, 1) := by decide +kernel
theorem dL_length_6 : decode cL_length 6 = .ok (.lcmp, 1) := by decide +kernel
theorem dL_length_7 : decode cL_length 7 = .ok (.ifCond .eq 13, 3) := by decide +kernel
theorem dL_length_10 : decode cL_length 10 = .ok (.iinc 2 1, 3) := by decide +kernel
theorem dL_length_13 : decode cL_length 13 = .ok (.lload_n 3, 1) := by decide +kernel
theorem dL_length_14 : decode cL_length 14 = .ok (.iconst 4, 1) := by decide +kernel
theorem dL_length_15 : decode cL_length 15 = .ok (.lushr, 1) := by decide +kernel
theorem dL_length_16 : decode cL_length 16 = .ok (.lstore_n 3, 1) := by decide +kernel
theorem dL_length_17 : decode cL_length 17 = .ok (.goto (-13), 3) := by decide +kernel
theorem dL_length_20 : decode cL_length 20 = .ok (.iload_n 2, 1) := by decide +kernel
theorem dL_length_21 : decode cL_length 21 = .ok (.ireturn, 1) := by decide +kernel
theorem dL_without_0 : decode cL_without 0 = .ok (.lload_n 0, 1) := by decide +kernel
theorem dL_without_1 : decode cL_without 1 = .ok (.iload_n 2, 1) := by decide +kernel
theorem dL_without_2 : decode cL_without 2 = .ok (.invokestatic 9, 3) := by decide +kernel
theorem dL_without_5 : decode cL_without 5 = .ok (.istore_n 3, 1) := by decide +kernel
theorem dL_without_6 : decode cL_without 6 = .ok (.iload_n 3, 1) := by decide +kernel
theorem dL_without_7 : decode cL_without 7 = .ok (.ifCond .ge 7, 3) := by decide +kernel
theorem dL_without_10 : decode cL_without 10 = .ok (.lload_n 0, 1) := by decide +kernel
theorem dL_without_11 : decode cL_without 11 = .ok (.goto 24, 3) := by decide +kernel
theorem dL_without_14 : decode cL_without 14 = .ok (.lload_n 0, 1) := by decide +kernel
theorem dL_without_15 : decode cL_without 15 = .ok (.lconst 1, 1) := by decide +kernel
theorem dL_without_16 : decode cL_without 16 = .ok (.iconst 4, 1) := by decide +kernel
theorem dL_without_17 : decode cL_without 17 = .ok (.iload_n 3, 1) := by decide +kernel
theorem dL_without_18 : decode cL_without 18 = .ok (.imul, 1) := by decide +kernel
theorem dL_without_19 : decode cL_without 19 = .ok (.lshl, 1) := by decide +kernel
theorem dL_without_20 : decode cL_without 20 = .ok (.lconst 1, 1) := by decide +kernel
theorem dL_without_21 : decode cL_without 21 = .ok (.lsub, 1) := by decide +kernel
theorem dL_without_22 : decode cL_without 22 = .ok (.land, 1) := by decide +kernel
theorem dL_without_23 : decode cL_without 23 = .ok (.lload_n 0, 1) := by decide +kernel
theorem dL_without_24 : decode cL_without 24 = .ok (.iconst 4, 1) := by decide +kernel
theorem dL_without_25 : decode cL_without 25 = .ok (.iload_n 3, 1) := by decide +kernel
theorem dL_without_26 : decode cL_without 26 = .ok (.imul, 1) := by decide +kernel
theorem dL_without_27 : decode cL_without 27 = .ok (.iconst 4, 1) := by decide +kernel
theorem dL_without_28 : decode cL_without 28 = .ok (.iadd, 1) := by decide +kernel
theorem dL_without_29 : decode cL_without 29 = .ok (.lushr, 1) := by decide +kernel
theorem dL_without_30 : decode cL_without 30 = .ok (.iconst 4, 1) := by decide +kernel
theorem dL_without_31 : decode cL_without 31 = .ok (.iload_n 3, 1) := by decide +kernel
theorem dL_without_32 : decode cL_without 32 = .ok (.imul, 1) := by decide +kernel
theorem dL_without_33 : decode cL_without 33 = .ok (.lshl, 1) := by decide +kernel
theorem dL_without_34 : decode cL_without 34 = .ok (.lor, 1) := by decide +kernel
theorem dL_without_35 : decode cL_without 35 = .ok (.lreturn, 1) := by decide +kernel
theorem dL_worth_0 : decode cL_worth 0 = .ok (.iconst 0, 1) := by decide +kernel
theorem dL_worth_1 : decode cL_worth 1 = .ok (.istore_n 2, 1) := by decide +kernel
theorem dL_worth_2 : decode cL_worth 2 = .ok (.iconst 0, 1) := by decide +kernel
theorem dL_worth_3 : decode cL_worth 3 = .ok (.istore_n 3, 1) := by decide +kernel
theorem dL_worth_4 : decode cL_worth 4 = .ok (.iload_n 3, 1) := by decide +kernel
theorem dL_worth_5 : decode cL_worth 5 = .ok (.bipush 8, 2) := by decide +kernel
theorem dL_worth_7 : decode cL_worth 7 = .ok (.if_icmp .ge 32, 3) := by decide +kernel
theorem dL_worth_10 : decode cL_worth 10 = .ok (.iload_n 2, 1) := by decide +kernel
theorem dL_worth_11 : decode cL_worth 11 = .ok (.iload_n 1, 1) := by decide +kernel
theorem dL_worth_12 : decode cL_worth 12 = .ok (.iload_n 3, 1) := by decide +kernel
theorem dL_worth_13 : decode cL_worth 13 = .ok (.invokestatic 15, 3) := by decide +kernel
theorem dL_worth_16 : decode cL_worth 16 = .ok (.ifCond .eq 14, 3) := by decide +kernel
theorem dL_worth_19 : decode cL_worth 19 = .ok (.aload_n 0, 1) := by decide +kernel
theorem dL_worth_20 : decode cL_worth 20 = .ok (.bipush 8, 2) := by decide +kernel
theorem dL_worth_22 : decode cL_worth 22 = .ok (.iload_n 3, 1) := by decide +kernel
theorem dL_worth_23 : decode cL_worth 23 = .ok (.imul, 1) := by decide +kernel
theorem dL_worth_24 : decode cL_worth 24 = .ok (.iconst 1, 1) := by decide +kernel
theorem dL_worth_25 : decode cL_worth 25 = .ok (.iadd, 1) := by decide +kernel
theorem dL_worth_26 : decode cL_worth 26 = .ok (.iaload, 1) := by decide +kernel
theorem dL_worth_27 : decode cL_worth 27 = .ok (.goto 4, 3) := by decide +kernel
theorem dL_worth_30 : decode cL_worth 30 = .ok (.iconst 0, 1) := by decide +kernel
theorem dL_worth_31 : decode cL_worth 31 = .ok (.iadd, 1) := by decide +kernel
theorem dL_worth_32 : decode cL_worth 32 = .ok (.istore_n 2, 1) := by decide +kernel
theorem dL_worth_33 : decode cL_worth 33 = .ok (.iinc 3 1, 3) := by decide +kernel
theorem dL_worth_36 : decode cL_worth 36 = .ok (.goto (-32), 3) := by decide +kernel
theorem dL_worth_39 : decode cL_worth 39 = .ok (.iload_n 2, 1) := by decide +kernel
theorem dL_worth_40 : decode cL_worth 40 = .ok (.ireturn, 1) := by decide +kernel
theorem dL_obstacle_0 : decode cL_obstacle 0 = .ok (.iconst 0, 1) := by decide +kernel
theorem dL_obstacle_1 : decode cL_obstacle 1 = .ok (.istore 5, 2) := by decide +kernel
theorem dL_obstacle_3 : decode cL_obstacle 3 = .ok (.iconst 0, 1) := by decide +kernel
theorem dL_obstacle_4 : decode cL_obstacle 4 = .ok (.istore 6, 2) := by decide +kernel
theorem dL_obstacle_6 : decode cL_obstacle 6 = .ok (.iload 6, 2) := by decide +kernel
theorem dL_obstacle_8 : decode cL_obstacle 8 = .ok (.bipush 8, 2) := by decide +kernel
theorem dL_obstacle_10 : decode cL_obstacle 10 = .ok (.if_icmp .ge 37, 3) := by decide +kernel
theorem dL_obstacle_13 : decode cL_obstacle 13 = .ok (.iload 5, 2) := by decide +kernel
theorem dL_obstacle_15 : decode cL_obstacle 15 = .ok (.iload 4, 2) := by decide +kernel
theorem dL_obstacle_17 : decode cL_obstacle 17 = .ok (.iload 6, 2) := by decide +kernel
theorem dL_obstacle_19 : decode cL_obstacle 19 = .ok (.invokestatic 15, 3) := by decide +kernel
theorem dL_obstacle_22 : decode cL_obstacle 22 = .ok (.ifCond .eq 15, 3) := by decide +kernel
theorem dL_obstacle_25 : decode cL_obstacle 25 = .ok (.aload_n 0, 1) := by decide +kernel
theorem dL_obstacle_26 : decode cL_obstacle 26 = .ok (.bipush 8, 2) := by decide +kernel
theorem dL_obstacle_28 : decode cL_obstacle 28 = .ok (.iload 6, 2) := by decide +kernel
theorem dL_obstacle_30 : decode cL_obstacle 30 = .ok (.imul, 1) := by decide +kernel
theorem dL_obstacle_31 : decode cL_obstacle 31 = .ok (.iconst 2, 1) := by decide +kernel
theorem dL_obstacle_32 : decode cL_obstacle 32 = .ok (.iadd, 1) := by decide +kernel
theorem dL_obstacle_33 : decode cL_obstacle 33 = .ok (.iaload, 1) := by decide +kernel
theorem dL_obstacle_34 : decode cL_obstacle 34 = .ok (.goto 4, 3) := by decide +kernel
theorem dL_obstacle_37 : decode cL_obstacle 37 = .ok (.iconst 0, 1) := by decide +kernel
theorem dL_obstacle_38 : decode cL_obstacle 38 = .ok (.ior, 1) := by decide +kernel
theorem dL_obstacle_39 : decode cL_obstacle 39 = .ok (.istore 5, 2) := by decide +kernel
theorem dL_obstacle_41 : decode cL_obstacle 41 = .ok (.iinc 6 1, 3) := by decide +kernel
theorem dL_obstacle_44 : decode cL_obstacle 44 = .ok (.goto (-38), 3) := by decide +kernel
theorem dL_obstacle_47 : decode cL_obstacle 47 = .ok (.aload_n 1, 1) := by decide +kernel
theorem dL_obstacle_48 : decode cL_obstacle 48 = .ok (.bipush 8, 2) := by decide +kernel
theorem dL_obstacle_50 : decode cL_obstacle 50 = .ok (.iload_n 2, 1) := by decide +kernel
theorem dL_obstacle_51 : decode cL_obstacle 51 = .ok (.imul, 1) := by decide +kernel
theorem dL_obstacle_52 : decode cL_obstacle 52 = .ok (.iconst 2, 1) := by decide +kernel
theorem dL_obstacle_53 : decode cL_obstacle 53 = .ok (.iadd, 1) := by decide +kernel
theorem dL_obstacle_54 : decode cL_obstacle 54 = .ok (.iaload, 1) := by decide +kernel
theorem dL_obstacle_55 : decode cL_obstacle 55 = .ok (.iload_n 3, 1) := by decide +kernel
theorem dL_obstacle_56 : decode cL_obstacle 56 = .ok (.invokestatic 15, 3) := by decide +kernel
theorem dL_obstacle_59 : decode cL_obstacle 59 = .ok (.ifCond .eq 7, 3) := by decide +kernel
theorem dL_obstacle_62 : decode cL_obstacle 62 = .ok (.iconst 1, 1) := by decide +kernel
theorem dL_obstacle_63 : decode cL_obstacle 63 = .ok (.goto 91, 3) := by decide +kernel
theorem dL_obstacle_66 : decode cL_obstacle 66 = .ok (.iload 4, 2) := by decide +kernel
theorem dL_obstacle_68 : decode cL_obstacle 68 = .ok (.iload_n 3, 1) := by decide +kernel
theorem dL_obstacle_69 : decode cL_obstacle 69 = .ok (.invokestatic 15, 3) := by decide +kernel
theorem dL_obstacle_72 : decode cL_obstacle 72 = .ok (.ifCond .eq 7, 3) := by decide +kernel
theorem dL_obstacle_75 : decode cL_obstacle 75 = .ok (.iconst 2, 1) := by decide +kernel
theorem dL_obstacle_76 : decode cL_obstacle 76 = .ok (.goto 78, 3) := by decide +kernel
theorem dL_obstacle_79 : decode cL_obstacle 79 = .ok (.aload_n 0, 1) := by decide +kernel
theorem dL_obstacle_80 : decode cL_obstacle 80 = .ok (.bipush 8, 2) := by decide +kernel
theorem dL_obstacle_82 : decode cL_obstacle 82 = .ok (.iload_n 3, 1) := by decide +kernel
theorem dL_obstacle_83 : decode cL_obstacle 83 = .ok (.imul, 1) := by decide +kernel
theorem dL_obstacle_84 : decode cL_obstacle 84 = .ok (.iconst 4, 1) := by decide +kernel
theorem dL_obstacle_85 : decode cL_obstacle 85 = .ok (.iadd, 1) := by decide +kernel
theorem dL_obstacle_86 : decode cL_obstacle 86 = .ok (.iaload, 1) := by decide +kernel
theorem dL_obstacle_87 : decode cL_obstacle 87 = .ok (.aload_n 1, 1) := by decide +kernel
theorem dL_obstacle_88 : decode cL_obstacle 88 = .ok (.bipush 8, 2) := by decide +kernel
theorem dL_obstacle_90 : decode cL_obstacle 90 = .ok (.iload_n 2, 1) := by decide +kernel
theorem dL_obstacle_91 : decode cL_obstacle 91 = .ok (.imul, 1) := by decide +kernel
theorem dL_obstacle_92 : decode cL_obstacle 92 = .ok (.iconst 2, 1) := by decide +kernel
theorem dL_obstacle_93 : decode cL_obstacle 93 = .ok (.iadd, 1) := by decide +kernel
theorem dL_obstacle_94 : decode cL_obstacle 94 = .ok (.iaload, 1) := by decide +kernel
theorem dL_obstacle_95 : decode cL_obstacle 95 = .ok (.iconst (-1), 1) := by decide +kernel
theorem dL_obstacle_96 : decode cL_obstacle 96 = .ok (.ixor, 1) := by decide +kernel
theorem dL_obstacle_97 : decode cL_obstacle 97 = .ok (.iand, 1) := by decide +kernel
theorem dL_obstacle_98 : decode cL_obstacle 98 = .ok (.ifCond .eq 7, 3) := by decide +kernel
theorem dL_obstacle_101 : decode cL_obstacle 101 = .ok (.iconst 3, 1) := by decide +kernel
theorem dL_obstacle_102 : decode cL_obstacle 102 = .ok (.goto 52, 3) := by decide +kernel
theorem dL_obstacle_105 : decode cL_obstacle 105 = .ok (.aload_n 0, 1) := by decide +kernel
theorem dL_obstacle_106 : decode cL_obstacle 106 = .ok (.iload 4, 2) := by decide +kernel
theorem dL_obstacle_108 : decode cL_obstacle 108 = .ok (.invokestatic 19, 3) := by decide +kernel
theorem dL_obstacle_111 : decode cL_obstacle 111 = .ok (.aload_n 0, 1) := by decide +kernel
theorem dL_obstacle_112 : decode cL_obstacle 112 = .ok (.bipush 8, 2) := by decide +kernel
theorem dL_obstacle_114 : decode cL_obstacle 114 = .ok (.iload_n 3, 1) := by decide +kernel
theorem dL_obstacle_115 : decode cL_obstacle 115 = .ok (.imul, 1) := by decide +kernel
theorem dL_obstacle_116 : decode cL_obstacle 116 = .ok (.iconst 1, 1) := by decide +kernel
theorem dL_obstacle_117 : decode cL_obstacle 117 = .ok (.iadd, 1) := by decide +kernel
theorem dL_obstacle_118 : decode cL_obstacle 118 = .ok (.iaload, 1) := by decide +kernel
theorem dL_obstacle_119 : decode cL_obstacle 119 = .ok (.iadd, 1) := by decide +kernel
theorem dL_obstacle_120 : decode cL_obstacle 120 = .ok (.aload_n 1, 1) := by decide +kernel
theorem dL_obstacle_121 : decode cL_obstacle 121 = .ok (.bipush 8, 2) := by decide +kernel
theorem dL_obstacle_123 : decode cL_obstacle 123 = .ok (.iload_n 2, 1) := by decide +kernel
theorem dL_obstacle_124 : decode cL_obstacle 124 = .ok (.imul, 1) := by decide +kernel
theorem dL_obstacle_125 : decode cL_obstacle 125 = .ok (.iconst 1, 1) := by decide +kernel
theorem dL_obstacle_126 : decode cL_obstacle 126 = .ok (.iadd, 1) := by decide +kernel
theorem dL_obstacle_127 : decode cL_obstacle 127 = .ok (.iaload, 1) := by decide +kernel
theorem dL_obstacle_128 : decode cL_obstacle 128 = .ok (.if_icmp .le 7, 3) := by decide +kernel
theorem dL_obstacle_131 : decode cL_obstacle 131 = .ok (.iconst 4, 1) := by decide +kernel
theorem dL_obstacle_132 : decode cL_obstacle 132 = .ok (.goto 22, 3) := by decide +kernel
theorem dL_obstacle_135 : decode cL_obstacle 135 = .ok (.iload 5, 2) := by decide +kernel
theorem dL_obstacle_137 : decode cL_obstacle 137 = .ok (.aload_n 0, 1) := by decide +kernel
theorem dL_obstacle_138 : decode cL_obstacle 138 = .ok (.bipush 8, 2) := by decide +kernel
theorem dL_obstacle_140 : decode cL_obstacle 140 = .ok (.iload_n 3, 1) := by decide +kernel
theorem dL_obstacle_141 : decode cL_obstacle 141 = .ok (.imul, 1) := by decide +kernel
theorem dL_obstacle_142 : decode cL_obstacle 142 = .ok (.iconst 2, 1) := by decide +kernel
theorem dL_obstacle_143 : decode cL_obstacle 143 = .ok (.iadd, 1) := by decide +kernel
theorem dL_obstacle_144 : decode cL_obstacle 144 = .ok (.iaload, 1) := by decide +kernel
theorem dL_obstacle_145 : decode cL_obstacle 145 = .ok (.iand, 1) := by decide +kernel
theorem dL_obstacle_146 : decode cL_obstacle 146 = .ok (.ifCond .eq 7, 3) := by decide +kernel
theorem dL_obstacle_149 : decode cL_obstacle 149 = .ok (.iconst 5, 1) := by decide +kernel
theorem dL_obstacle_150 : decode cL_obstacle 150 = .ok (.goto 4, 3) := by decide +kernel
theorem dL_obstacle_153 : decode cL_obstacle 153 = .ok (.iconst 0, 1) := by decide +kernel
theorem dL_obstacle_154 : decode cL_obstacle 154 = .ok (.ireturn, 1) := by decide +kernel
theorem dL_offers_0 : decode cL_offers 0 = .ok (.aload_n 0, 1) := by decide +kernel
theorem dL_offers_1 : decode cL_offers 1 = .ok (.bipush 8, 2) := by decide +kernel
theorem dL_offers_3 : decode cL_offers 3 = .ok (.iload_n 1, 1) := by decide +kernel
theorem dL_offers_4 : decode cL_offers 4 = .ok (.imul, 1) := by decide +kernel
theorem dL_offers_5 : decode cL_offers 5 = .ok (.iconst 5, 1) := by decide +kernel
theorem dL_offers_6 : decode cL_offers 6 = .ok (.iadd, 1) := by decide +kernel
theorem dL_offers_7 : decode cL_offers 7 = .ok (.iaload, 1) := by decide +kernel
theorem dL_offers_8 : decode cL_offers 8 = .ok (.aload_n 0, 1) := by decide +kernel
theorem dL_offers_9 : decode cL_offers 9 = .ok (.bipush 8, 2) := by decide +kernel
theorem dL_offers_11 : decode cL_offers 11 = .ok (.iload_n 1, 1) := by decide +kernel
theorem dL_offers_12 : decode cL_offers 12 = .ok (.imul, 1) := by decide +kernel
theorem dL_offers_13 : decode cL_offers 13 = .ok (.bipush 6, 2) := by decide +kernel
theorem dL_offers_15 : decode cL_offers 15 = .ok (.iadd, 1) := by decide +kernel
theorem dL_offers_16 : decode cL_offers 16 = .ok (.iaload, 1) := by decide +kernel
theorem dL_offers_17 : decode cL_offers 17 = .ok (.ior, 1) := by decide +kernel
theorem dL_offers_18 : decode cL_offers 18 = .ok (.aload_n 0, 1) := by decide +kernel
theorem dL_offers_19 : decode cL_offers 19 = .ok (.bipush 8, 2) := by decide +kernel
theorem dL_offers_21 : decode cL_offers 21 = .ok (.iload_n 1, 1) := by decide +kernel
theorem dL_offers_22 : decode cL_offers 22 = .ok (.imul, 1) := by decide +kernel
theorem dL_offers_23 : decode cL_offers 23 = .ok (.bipush 7, 2) := by decide +kernel
theorem dL_offers_25 : decode cL_offers 25 = .ok (.iadd, 1) := by decide +kernel
theorem dL_offers_26 : decode cL_offers 26 = .ok (.iaload, 1) := by decide +kernel
theorem dL_offers_27 : decode cL_offers 27 = .ok (.ior, 1) := by decide +kernel
theorem dL_offers_28 : decode cL_offers 28 = .ok (.ireturn, 1) := by decide +kernel
theorem dL_inside_0 : decode cL_inside 0 = .ok (.iconst 0, 1) := by decide +kernel
theorem dL_inside_1 : decode cL_inside 1 = .ok (.istore_n 2, 1) := by decide +kernel
theorem dL_inside_2 : decode cL_inside 2 = .ok (.iconst 0, 1) := by decide +kernel
theorem dL_inside_3 : decode cL_inside 3 = .ok (.istore_n 3, 1) := by decide +kernel
theorem dL_inside_4 : decode cL_inside 4 = .ok (.iload_n 3, 1) := by decide +kernel
theorem dL_inside_5 : decode cL_inside 5 = .ok (.bipush 8, 2) := by decide +kernel
theorem dL_inside_7 : decode cL_inside 7 = .ok (.if_icmp .ge 32, 3) := by decide +kernel
theorem dL_inside_10 : decode cL_inside 10 = .ok (.iload_n 2, 1) := by decide +kernel
theorem dL_inside_11 : decode cL_inside 11 = .ok (.aload_n 0, 1) := by decide +kernel
theorem dL_inside_12 : decode cL_inside 12 = .ok (.bipush 8, 2) := by decide +kernel
theorem dL_inside_14 : decode cL_inside 14 = .ok (.iload_n 3, 1) := by decide +kernel
theorem dL_inside_15 : decode cL_inside 15 = .ok (.imul, 1) := by decide +kernel
theorem dL_inside_16 : decode cL_inside 16 = .ok (.iconst 3, 1) := by decide +kernel
theorem dL_inside_17 : decode cL_inside 17 = .ok (.iadd, 1) := by decide +kernel
theorem dL_inside_18 : decode cL_inside 18 = .ok (.iaload, 1) := by decide +kernel
theorem dL_inside_19 : decode cL_inside 19 = .ok (.iload_n 1, 1) := by decide +kernel
theorem dL_inside_20 : decode cL_inside 20 = .ok (.invokestatic 15, 3) := by decide +kernel
theorem dL_inside_23 : decode cL_inside 23 = .ok (.ifCond .eq 7, 3) := by decide +kernel
theorem dL_inside_26 : decode cL_inside 26 = .ok (.iconst 1, 1) := by decide +kernel
theorem dL_inside_27 : decode cL_inside 27 = .ok (.goto 4, 3) := by decide +kernel
theorem dL_inside_30 : decode cL_inside 30 = .ok (.iconst 0, 1) := by decide +kernel
theorem dL_inside_31 : decode cL_inside 31 = .ok (.iadd, 1) := by decide +kernel
theorem dL_inside_32 : decode cL_inside 32 = .ok (.istore_n 2, 1) := by decide +kernel
theorem dL_inside_33 : decode cL_inside 33 = .ok (.iinc 3 1, 3) := by decide +kernel
theorem dL_inside_36 : decode cL_inside 36 = .ok (.goto (-32), 3) := by decide +kernel
theorem dL_inside_39 : decode cL_inside 39 = .ok (.iload_n 2, 1) := by decide +kernel
theorem dL_inside_40 : decode cL_inside 40 = .ok (.ireturn, 1) := by decide +kernel
theorem dL_free_0 : decode cL_free 0 = .ok (.aload_n 0, 1) := by decide +kernel
theorem dL_free_1 : decode cL_free 1 = .ok (.bipush 8, 2) := by decide +kernel
theorem dL_free_3 : decode cL_free 3 = .ok (.iload_n 2, 1) := by decide +kernel
theorem dL_free_4 : decode cL_free 4 = .ok (.imul, 1) := by decide +kernel
theorem dL_free_5 : decode cL_free 5 = .ok (.iaload, 1) := by decide +kernel
theorem dL_free_6 : decode cL_free 6 = .ok (.aload_n 1, 1) := by decide +kernel
theorem dL_free_7 : decode cL_free 7 = .ok (.iload_n 2, 1) := by decide +kernel
theorem dL_free_8 : decode cL_free 8 = .ok (.invokestatic 23, 3) := by decide +kernel
theorem dL_free_11 : decode cL_free 11 = .ok (.isub, 1) := by decide +kernel
theorem dL_free_12 : decode cL_free 12 = .ok (.aload_n 0, 1) := by decide +kernel
theorem dL_free_13 : decode cL_free 13 = .ok (.iload_n 2, 1) := by decide +kernel
theorem dL_free_14 : decode cL_free 14 = .ok (.invokestatic 26, 3) := by decide +kernel
theorem dL_free_17 : decode cL_free 17 = .ok (.invokestatic 29, 3) := by decide +kernel
theorem dL_free_20 : decode cL_free 20 = .ok (.isub, 1) := by decide +kernel
theorem dL_free_21 : decode cL_free 21 = .ok (.ireturn, 1) := by decide +kernel
theorem dL_makes_0 : decode cL_makes 0 = .ok (.iconst 0, 1) := by decide +kernel
theorem dL_makes_1 : decode cL_makes 1 = .ok (.istore 4, 2) := by decide +kernel
theorem dL_makes_3 : decode cL_makes 3 = .ok (.iload 4, 2) := by decide +kernel
theorem dL_makes_5 : decode cL_makes 5 = .ok (.aload_n 3, 1) := by decide +kernel
theorem dL_makes_6 : decode cL_makes 6 = .ok (.iconst 0, 1) := by decide +kernel
theorem dL_makes_7 : decode cL_makes 7 = .ok (.iaload, 1) := by decide +kernel
theorem dL_makes_8 : decode cL_makes 8 = .ok (.if_icmp .ge 125, 3) := by decide +kernel
theorem dL_makes_11 : decode cL_makes 11 = .ok (.aload_n 2, 1) := by decide +kernel
theorem dL_makes_12 : decode cL_makes 12 = .ok (.iload 4, 2) := by decide +kernel
theorem dL_makes_14 : decode cL_makes 14 = .ok (.laload, 1) := by decide +kernel
theorem dL_makes_15 : decode cL_makes 15 = .ok (.lstore 5, 2) := by decide +kernel
theorem dL_makes_17 : decode cL_makes 17 = .ok (.lload 5, 2) := by decide +kernel
theorem dL_makes_19 : decode cL_makes 19 = .ok (.lconst 0, 1) := by decide +kernel
theorem dL_makes_20 : decode cL_makes 20 = .ok (.lcmp, 1) := by decide +kernel
theorem dL_makes_21 : decode cL_makes 21 = .ok (.ifCond .eq 106, 3) := by decide +kernel
theorem dL_makes_24 : decode cL_makes 24 = .ok (.lload 5, 2) := by decide +kernel
theorem dL_makes_26 : decode cL_makes 26 = .ok (.ldc2_w 7, 3) := by decide +kernel
theorem dL_makes_29 : decode cL_makes 29 = .ok (.land, 1) := by decide +kernel
theorem dL_makes_30 : decode cL_makes 30 = .ok (.l2i, 1) := by decide +kernel
theorem dL_makes_31 : decode cL_makes 31 = .ok (.iconst 1, 1) := by decide +kernel
theorem dL_makes_32 : decode cL_makes 32 = .ok (.isub, 1) := by decide +kernel
theorem dL_makes_33 : decode cL_makes 33 = .ok (.istore 7, 2) := by decide +kernel
theorem dL_makes_35 : decode cL_makes 35 = .ok (.aload_n 0, 1) := by decide +kernel
theorem dL_makes_36 : decode cL_makes 36 = .ok (.iload 4, 2) := by decide +kernel
theorem dL_makes_38 : decode cL_makes 38 = .ok (.invokestatic 26, 3) := by decide +kernel
theorem dL_makes_41 : decode cL_makes 41 = .ok (.iload 7, 2) := by decide +kernel
theorem dL_makes_43 : decode cL_makes 43 = .ok (.invokestatic 15, 3) := by decide +kernel
theorem dL_makes_46 : decode cL_makes 46 = .ok (.ifCond .ne 38, 3) := by decide +kernel
theorem dL_makes_49 : decode cL_makes 49 = .ok (.aload_n 0, 1) := by decide +kernel
theorem dL_makes_50 : decode cL_makes 50 = .ok (.aload_n 1, 1) := by decide +kernel
theorem dL_makes_51 : decode cL_makes 51 = .ok (.iload 4, 2) := by decide +kernel
theorem dL_makes_53 : decode cL_makes 53 = .ok (.invokestatic 33, 3) := by decide +kernel
theorem dL_makes_56 : decode cL_makes 56 = .ok (.ifCond .le 28, 3) := by decide +kernel
theorem dL_makes_59 : decode cL_makes 59 = .ok (.aload_n 0, 1) := by decide +kernel
theorem dL_makes_60 : decode cL_makes 60 = .ok (.aload_n 1, 1) := by decide +kernel
theorem dL_makes_61 : decode cL_makes 61 = .ok (.iload 7, 2) := by decide +kernel
theorem dL_makes_63 : decode cL_makes 63 = .ok (.iload 4, 2) := by decide +kernel
theorem dL_makes_65 : decode cL_makes 65 = .ok (.aload_n 1, 1) := by decide +kernel
theorem dL_makes_66 : decode cL_makes 66 = .ok (.bipush 8, 2) := by decide +kernel
theorem dL_makes_68 : decode cL_makes 68 = .ok (.iload 7, 2) := by decide +kernel
theorem dL_makes_70 : decode cL_makes 70 = .ok (.imul, 1) := by decide +kernel
theorem dL_makes_71 : decode cL_makes 71 = .ok (.iconst 3, 1) := by decide +kernel
theorem dL_makes_72 : decode cL_makes 72 = .ok (.iadd, 1) := by decide +kernel
theorem dL_makes_73 : decode cL_makes 73 = .ok (.iaload, 1) := by decide +kernel
theorem dL_makes_74 : decode cL_makes 74 = .ok (.invokestatic 37, 3) := by decide +kernel
theorem dL_makes_77 : decode cL_makes 77 = .ok (.ifCond .ne 7, 3) := by decide +kernel
theorem dL_makes_80 : decode cL_makes 80 = .ok (.iconst 1, 1) := by decide +kernel
theorem dL_makes_81 : decode cL_makes 81 = .ok (.goto 4, 3) := by decide +kernel
theorem dL_makes_84 : decode cL_makes 84 = .ok (.iconst 0, 1) := by decide +kernel
theorem dL_makes_85 : decode cL_makes 85 = .ok (.istore 8, 2) := by decide +kernel
theorem dL_makes_87 : decode cL_makes 87 = .ok (.aload_n 0, 1) := by decide +kernel
theorem dL_makes_88 : decode cL_makes 88 = .ok (.bipush 8, 2) := by decide +kernel
theorem dL_makes_90 : decode cL_makes 90 = .ok (.iload 4, 2) := by decide +kernel
theorem dL_makes_92 : decode cL_makes 92 = .ok (.imul, 1) := by decide +kernel
theorem dL_makes_93 : decode cL_makes 93 = .ok (.iconst 5, 1) := by decide +kernel
theorem dL_makes_94 : decode cL_makes 94 = .ok (.iadd, 1) := by decide +kernel
theorem dL_makes_95 : decode cL_makes 95 = .ok (.aload_n 3, 1) := by decide +kernel
theorem dL_makes_96 : decode cL_makes 96 = .ok (.iconst 2, 1) := by decide +kernel
theorem dL_makes_97 : decode cL_makes 97 = .ok (.iaload, 1) := by decide +kernel
theorem dL_makes_98 : decode cL_makes 98 = .ok (.iconst 3, 1) := by decide +kernel
theorem dL_makes_99 : decode cL_makes 99 = .ok (.irem, 1) := by decide +kernel
theorem dL_makes_100 : decode cL_makes 100 = .ok (.iadd, 1) := by decide +kernel
theorem dL_makes_101 : decode cL_makes 101 = .ok (.dup2, 1) := by decide +kernel
theorem dL_makes_102 : decode cL_makes 102 = .ok (.iaload, 1) := by decide +kernel
theorem dL_makes_103 : decode cL_makes 103 = .ok (.iload 8, 2) := by decide +kernel
theorem dL_makes_105 : decode cL_makes 105 = .ok (.ifCond .eq 10, 3) := by decide +kernel
theorem dL_makes_108 : decode cL_makes 108 = .ok (.iconst 1, 1) := by decide +kernel
theorem dL_makes_109 : decode cL_makes 109 = .ok (.iload 7, 2) := by decide +kernel
theorem dL_makes_111 : decode cL_makes 111 = .ok (.ishl, 1) := by decide +kernel
theorem dL_makes_112 : decode cL_makes 112 = .ok (.goto 4, 3) := by decide +kernel
theorem dL_makes_115 : decode cL_makes 115 = .ok (.iconst 0, 1) := by decide +kernel
theorem dL_makes_116 : decode cL_makes 116 = .ok (.ior, 1) := by decide +kernel
theorem dL_makes_117 : decode cL_makes 117 = .ok (.iastore, 1) := by decide +kernel
theorem dL_makes_118 : decode cL_makes 118 = .ok (.lload 5, 2) := by decide +kernel
theorem dL_makes_120 : decode cL_makes 120 = .ok (.iconst 4, 1) := by decide +kernel
theorem dL_makes_121 : decode cL_makes 121 = .ok (.lushr, 1) := by decide +kernel
theorem dL_makes_122 : decode cL_makes 122 = .ok (.lstore 5, 2) := by decide +kernel
theorem dL_makes_124 : decode cL_makes 124 = .ok (.goto (-107), 3) := by decide +kernel
theorem dL_makes_127 : decode cL_makes 127 = .ok (.iinc 4 1, 3) := by decide +kernel
theorem dL_makes_130 : decode cL_makes 130 = .ok (.goto (-127), 3) := by decide +kernel
theorem dL_makes_133 : decode cL_makes 133 = .ok (.return_, 1) := by decide +kernel
theorem dL_leaves_0 : decode cL_leaves 0 = .ok (.aload_n 1, 1) := by decide +kernel
theorem dL_leaves_1 : decode cL_leaves 1 = .ok (.iload_n 3, 1) := by decide +kernel
theorem dL_leaves_2 : decode cL_leaves 2 = .ok (.aload_n 1, 1) := by decide +kernel
theorem dL_leaves_3 : decode cL_leaves 3 = .ok (.iload_n 3, 1) := by decide +kernel
theorem dL_leaves_4 : decode cL_leaves 4 = .ok (.laload, 1) := by decide +kernel
theorem dL_leaves_5 : decode cL_leaves 5 = .ok (.iload_n 2, 1) := by decide +kernel
theorem dL_leaves_6 : decode cL_leaves 6 = .ok (.invokestatic 41, 3) := by decide +kernel
theorem dL_leaves_9 : decode cL_leaves 9 = .ok (.lastore, 1) := by decide +kernel
theorem dL_leaves_10 : decode cL_leaves 10 = .ok (.iconst 5, 1) := by decide +kernel
theorem dL_leaves_11 : decode cL_leaves 11 = .ok (.istore 4, 2) := by decide +kernel
theorem dL_leaves_13 : decode cL_leaves 13 = .ok (.iload 4, 2) := by decide +kernel
theorem dL_leaves_15 : decode cL_leaves 15 = .ok (.bipush 8, 2) := by decide +kernel
theorem dL_leaves_17 : decode cL_leaves 17 = .ok (.if_icmp .ge 26, 3) := by decide +kernel
theorem dL_leaves_20 : decode cL_leaves 20 = .ok (.aload_n 0, 1) := by decide +kernel
theorem dL_leaves_21 : decode cL_leaves 21 = .ok (.bipush 8, 2) := by decide +kernel
theorem dL_leaves_23 : decode cL_leaves 23 = .ok (.iload_n 3, 1) := by decide +kernel
theorem dL_leaves_24 : decode cL_leaves 24 = .ok (.imul, 1) := by decide +kernel
theorem dL_leaves_25 : decode cL_leaves 25 = .ok (.iload 4, 2) := by decide +kernel
theorem dL_leaves_27 : decode cL_leaves 27 = .ok (.iadd, 1) := by decide +kernel
theorem dL_leaves_28 : decode cL_leaves 28 = .ok (.dup2, 1) := by decide +kernel
theorem dL_leaves_29 : decode cL_leaves 29 = .ok (.iaload, 1) := by decide +kernel
theorem dL_leaves_30 : decode cL_leaves 30 = .ok (.iconst 1, 1) := by decide +kernel
theorem dL_leaves_31 : decode cL_leaves 31 = .ok (.iload_n 2, 1) := by decide +kernel
theorem dL_leaves_32 : decode cL_leaves 32 = .ok (.ishl, 1) := by decide +kernel
theorem dL_leaves_33 : decode cL_leaves 33 = .ok (.iconst (-1), 1) := by decide +kernel
theorem dL_leaves_34 : decode cL_leaves 34 = .ok (.ixor, 1) := by decide +kernel
theorem dL_leaves_35 : decode cL_leaves 35 = .ok (.iand, 1) := by decide +kernel
theorem dL_leaves_36 : decode cL_leaves 36 = .ok (.iastore, 1) := by decide +kernel
theorem dL_leaves_37 : decode cL_leaves 37 = .ok (.iinc 4 1, 3) := by decide +kernel
theorem dL_leaves_40 : decode cL_leaves 40 = .ok (.goto (-27), 3) := by decide +kernel
theorem dL_leaves_43 : decode cL_leaves 43 = .ok (.return_, 1) := by decide +kernel
theorem dL_unwishes_0 : decode cL_unwishes 0 = .ok (.aload_n 0, 1) := by decide +kernel
theorem dL_unwishes_1 : decode cL_unwishes 1 = .ok (.bipush 8, 2) := by decide +kernel
theorem dL_unwishes_3 : decode cL_unwishes 3 = .ok (.iload_n 1, 1) := by decide +kernel
theorem dL_unwishes_4 : decode cL_unwishes 4 = .ok (.imul, 1) := by decide +kernel
theorem dL_unwishes_5 : decode cL_unwishes 5 = .ok (.iconst 4, 1) := by decide +kernel
theorem dL_unwishes_6 : decode cL_unwishes 6 = .ok (.iadd, 1) := by decide +kernel
theorem dL_unwishes_7 : decode cL_unwishes 7 = .ok (.aload_n 0, 1) := by decide +kernel
theorem dL_unwishes_8 : decode cL_unwishes 8 = .ok (.bipush 8, 2) := by decide +kernel
theorem dL_unwishes_10 : decode cL_unwishes 10 = .ok (.iload_n 1, 1) := by decide +kernel
theorem dL_unwishes_11 : decode cL_unwishes 11 = .ok (.imul, 1) := by decide +kernel
theorem dL_unwishes_12 : decode cL_unwishes 12 = .ok (.iconst 4, 1) := by decide +kernel
theorem dL_unwishes_13 : decode cL_unwishes 13 = .ok (.iadd, 1) := by decide +kernel
theorem dL_unwishes_14 : decode cL_unwishes 14 = .ok (.iaload, 1) := by decide +kernel
theorem dL_unwishes_15 : decode cL_unwishes 15 = .ok (.i2l, 1) := by decide +kernel
theorem dL_unwishes_16 : decode cL_unwishes 16 = .ok (.iload_n 2, 1) := by decide +kernel
theorem dL_unwishes_17 : decode cL_unwishes 17 = .ok (.invokestatic 41, 3) := by decide +kernel
theorem dL_unwishes_20 : decode cL_unwishes 20 = .ok (.l2i, 1) := by decide +kernel
theorem dL_unwishes_21 : decode cL_unwishes 21 = .ok (.iastore, 1) := by decide +kernel
theorem dL_unwishes_22 : decode cL_unwishes 22 = .ok (.return_, 1) := by decide +kernel
theorem dL_enrols_0 : decode cL_enrols 0 = .ok (.aload_n 1, 1) := by decide +kernel
theorem dL_enrols_1 : decode cL_enrols 1 = .ok (.bipush 8, 2) := by decide +kernel
theorem dL_enrols_3 : decode cL_enrols 3 = .ok (.iload_n 3, 1) := by decide +kernel
theorem dL_enrols_4 : decode cL_enrols 4 = .ok (.imul, 1) := by decide +kernel
theorem dL_enrols_5 : decode cL_enrols 5 = .ok (.iconst 3, 1) := by decide +kernel
theorem dL_enrols_6 : decode cL_enrols 6 = .ok (.iadd, 1) := by decide +kernel
theorem dL_enrols_7 : decode cL_enrols 7 = .ok (.dup2, 1) := by decide +kernel
theorem dL_enrols_8 : decode cL_enrols 8 = .ok (.iaload, 1) := by decide +kernel
theorem dL_enrols_9 : decode cL_enrols 9 = .ok (.iconst 1, 1) := by decide +kernel
theorem dL_enrols_10 : decode cL_enrols 10 = .ok (.iload 4, 2) := by decide +kernel
theorem dL_enrols_12 : decode cL_enrols 12 = .ok (.ishl, 1) := by decide +kernel
theorem dL_enrols_13 : decode cL_enrols 13 = .ok (.ior, 1) := by decide +kernel
theorem dL_enrols_14 : decode cL_enrols 14 = .ok (.iastore, 1) := by decide +kernel
theorem dL_enrols_15 : decode cL_enrols 15 = .ok (.aload_n 1, 1) := by decide +kernel
theorem dL_enrols_16 : decode cL_enrols 16 = .ok (.iload_n 3, 1) := by decide +kernel
theorem dL_enrols_17 : decode cL_enrols 17 = .ok (.iload 4, 2) := by decide +kernel
theorem dL_enrols_19 : decode cL_enrols 19 = .ok (.invokestatic 45, 3) := by decide +kernel
theorem dL_enrols_22 : decode cL_enrols 22 = .ok (.aload_n 0, 1) := by decide +kernel
theorem dL_enrols_23 : decode cL_enrols 23 = .ok (.aload_n 2, 1) := by decide +kernel
theorem dL_enrols_24 : decode cL_enrols 24 = .ok (.iload_n 3, 1) := by decide +kernel
theorem dL_enrols_25 : decode cL_enrols 25 = .ok (.iload 4, 2) := by decide +kernel
theorem dL_enrols_27 : decode cL_enrols 27 = .ok (.invokestatic 49, 3) := by decide +kernel
theorem dL_enrols_30 : decode cL_enrols 30 = .ok (.return_, 1) := by decide +kernel
theorem dL_gives_0 : decode cL_gives 0 = .ok (.aload_n 0, 1) := by decide +kernel
theorem dL_gives_1 : decode cL_gives 1 = .ok (.bipush 8, 2) := by decide +kernel
theorem dL_gives_3 : decode cL_gives 3 = .ok (.iload_n 1, 1) := by decide +kernel
theorem dL_gives_4 : decode cL_gives 4 = .ok (.imul, 1) := by decide +kernel
theorem dL_gives_5 : decode cL_gives 5 = .ok (.iconst 3, 1) := by decide +kernel
theorem dL_gives_6 : decode cL_gives 6 = .ok (.iadd, 1) := by decide +kernel
theorem dL_gives_7 : decode cL_gives 7 = .ok (.dup2, 1) := by decide +kernel
theorem dL_gives_8 : decode cL_gives 8 = .ok (.iaload, 1) := by decide +kernel
theorem dL_gives_9 : decode cL_gives 9 = .ok (.iconst 1, 1) := by decide +kernel
theorem dL_gives_10 : decode cL_gives 10 = .ok (.iload_n 2, 1) := by decide +kernel
theorem dL_gives_11 : decode cL_gives 11 = .ok (.ishl, 1) := by decide +kernel
theorem dL_gives_12 : decode cL_gives 12 = .ok (.iconst (-1), 1) := by decide +kernel
theorem dL_gives_13 : decode cL_gives 13 = .ok (.ixor, 1) := by decide +kernel
theorem dL_gives_14 : decode cL_gives 14 = .ok (.iand, 1) := by decide +kernel
theorem dL_gives_15 : decode cL_gives 15 = .ok (.iastore, 1) := by decide +kernel
theorem dL_gives_16 : decode cL_gives 16 = .ok (.aload_n 0, 1) := by decide +kernel
theorem dL_gives_17 : decode cL_gives 17 = .ok (.bipush 8, 2) := by decide +kernel
theorem dL_gives_19 : decode cL_gives 19 = .ok (.iload_n 1, 1) := by decide +kernel
theorem dL_gives_20 : decode cL_gives 20 = .ok (.imul, 1) := by decide +kernel
theorem dL_gives_21 : decode cL_gives 21 = .ok (.iconst 5, 1) := by decide +kernel
theorem dL_gives_22 : decode cL_gives 22 = .ok (.iadd, 1) := by decide +kernel
theorem dL_gives_23 : decode cL_gives 23 = .ok (.aload_n 0, 1) := by decide +kernel
theorem dL_gives_24 : decode cL_gives 24 = .ok (.bipush 8, 2) := by decide +kernel
theorem dL_gives_26 : decode cL_gives 26 = .ok (.iload_n 1, 1) := by decide +kernel
theorem dL_gives_27 : decode cL_gives 27 = .ok (.imul, 1) := by decide +kernel
theorem dL_gives_28 : decode cL_gives 28 = .ok (.iconst 5, 1) := by decide +kernel
theorem dL_gives_29 : decode cL_gives 29 = .ok (.iadd, 1) := by decide +kernel
theorem dL_gives_30 : decode cL_gives 30 = .ok (.iaload, 1) := by decide +kernel
theorem dL_gives_31 : decode cL_gives 31 = .ok (.iload_n 2, 1) := by decide +kernel
theorem dL_gives_32 : decode cL_gives 32 = .ok (.if_icmp .ne 7, 3) := by decide +kernel
theorem dL_gives_35 : decode cL_gives 35 = .ok (.iconst (-1), 1) := by decide +kernel
theorem dL_gives_36 : decode cL_gives 36 = .ok (.goto 11, 3) := by decide +kernel
theorem dL_gives_39 : decode cL_gives 39 = .ok (.aload_n 0, 1) := by decide +kernel
theorem dL_gives_40 : decode cL_gives 40 = .ok (.bipush 8, 2) := by decide +kernel
theorem dL_gives_42 : decode cL_gives 42 = .ok (.iload_n 1, 1) := by decide +kernel
theorem dL_gives_43 : decode cL_gives 43 = .ok (.imul, 1) := by decide +kernel
theorem dL_gives_44 : decode cL_gives 44 = .ok (.iconst 5, 1) := by decide +kernel
theorem dL_gives_45 : decode cL_gives 45 = .ok (.iadd, 1) := by decide +kernel
theorem dL_gives_46 : decode cL_gives 46 = .ok (.iaload, 1) := by decide +kernel
theorem dL_gives_47 : decode cL_gives 47 = .ok (.iastore, 1) := by decide +kernel
theorem dL_gives_48 : decode cL_gives 48 = .ok (.return_, 1) := by decide +kernel
theorem dL_requires_0 : decode cL_requires 0 = .ok (.iload_n 2, 1) := by decide +kernel
theorem dL_requires_1 : decode cL_requires 1 = .ok (.iload_n 3, 1) := by decide +kernel
theorem dL_requires_2 : decode cL_requires 2 = .ok (.if_icmp .eq 33, 3) := by decide +kernel
theorem dL_requires_5 : decode cL_requires 5 = .ok (.aload_n 0, 1) := by decide +kernel
theorem dL_requires_6 : decode cL_requires 6 = .ok (.bipush 8, 2) := by decide +kernel
theorem dL_requires_8 : decode cL_requires 8 = .ok (.iload_n 2, 1) := by decide +kernel
theorem dL_requires_9 : decode cL_requires 9 = .ok (.imul, 1) := by decide +kernel
theorem dL_requires_10 : decode cL_requires 10 = .ok (.iconst 3, 1) := by decide +kernel
theorem dL_requires_11 : decode cL_requires 11 = .ok (.iadd, 1) := by decide +kernel
theorem dL_requires_12 : decode cL_requires 12 = .ok (.iaload, 1) := by decide +kernel
theorem dL_requires_13 : decode cL_requires 13 = .ok (.iload_n 3, 1) := by decide +kernel
theorem dL_requires_14 : decode cL_requires 14 = .ok (.invokestatic 15, 3) := by decide +kernel
theorem dL_requires_17 : decode cL_requires 17 = .ok (.ifCond .ne 18, 3) := by decide +kernel
theorem dL_requires_20 : decode cL_requires 20 = .ok (.aload_n 0, 1) := by decide +kernel
theorem dL_requires_21 : decode cL_requires 21 = .ok (.bipush 8, 2) := by decide +kernel
theorem dL_requires_23 : decode cL_requires 23 = .ok (.iload_n 3, 1) := by decide +kernel
theorem dL_requires_24 : decode cL_requires 24 = .ok (.imul, 1) := by decide +kernel
theorem dL_requires_25 : decode cL_requires 25 = .ok (.iconst 4, 1) := by decide +kernel
theorem dL_requires_26 : decode cL_requires 26 = .ok (.iadd, 1) := by decide +kernel
theorem dL_requires_27 : decode cL_requires 27 = .ok (.iaload, 1) := by decide +kernel
theorem dL_requires_28 : decode cL_requires 28 = .ok (.iload_n 2, 1) := by decide +kernel
theorem dL_requires_29 : decode cL_requires 29 = .ok (.invokestatic 15, 3) := by decide +kernel
theorem dL_requires_32 : decode cL_requires 32 = .ok (.ifCond .eq 6, 3) := by decide +kernel
theorem dL_requires_35 : decode cL_requires 35 = .ok (.bipush (-13), 2) := by decide +kernel
theorem dL_requires_37 : decode cL_requires 37 = .ok (.ireturn, 1) := by decide +kernel
theorem dL_requires_38 : decode cL_requires 38 = .ok (.aload_n 0, 1) := by decide +kernel
theorem dL_requires_39 : decode cL_requires 39 = .ok (.bipush 8, 2) := by decide +kernel
theorem dL_requires_41 : decode cL_requires 41 = .ok (.iload_n 2, 1) := by decide +kernel
theorem dL_requires_42 : decode cL_requires 42 = .ok (.imul, 1) := by decide +kernel
theorem dL_requires_43 : decode cL_requires 43 = .ok (.iconst 3, 1) := by decide +kernel
theorem dL_requires_44 : decode cL_requires 44 = .ok (.iadd, 1) := by decide +kernel
theorem dL_requires_45 : decode cL_requires 45 = .ok (.dup2, 1) := by decide +kernel
theorem dL_requires_46 : decode cL_requires 46 = .ok (.iaload, 1) := by decide +kernel
theorem dL_requires_47 : decode cL_requires 47 = .ok (.iconst 1, 1) := by decide +kernel
theorem dL_requires_48 : decode cL_requires 48 = .ok (.iload_n 3, 1) := by decide +kernel
theorem dL_requires_49 : decode cL_requires 49 = .ok (.ishl, 1) := by decide +kernel
theorem dL_requires_50 : decode cL_requires 50 = .ok (.ior, 1) := by decide +kernel
theorem dL_requires_51 : decode cL_requires 51 = .ok (.iastore, 1) := by decide +kernel
theorem dL_requires_52 : decode cL_requires 52 = .ok (.aload_n 0, 1) := by decide +kernel
theorem dL_requires_53 : decode cL_requires 53 = .ok (.bipush 8, 2) := by decide +kernel
theorem dL_requires_55 : decode cL_requires 55 = .ok (.iload_n 3, 1) := by decide +kernel
theorem dL_requires_56 : decode cL_requires 56 = .ok (.imul, 1) := by decide +kernel
theorem dL_requires_57 : decode cL_requires 57 = .ok (.iconst 4, 1) := by decide +kernel
theorem dL_requires_58 : decode cL_requires 58 = .ok (.iadd, 1) := by decide +kernel
theorem dL_requires_59 : decode cL_requires 59 = .ok (.iaload, 1) := by decide +kernel
theorem dL_requires_60 : decode cL_requires 60 = .ok (.iconst 1, 1) := by decide +kernel
theorem dL_requires_61 : decode cL_requires 61 = .ok (.iload_n 3, 1) := by decide +kernel
theorem dL_requires_62 : decode cL_requires 62 = .ok (.ishl, 1) := by decide +kernel
theorem dL_requires_63 : decode cL_requires 63 = .ok (.ior, 1) := by decide +kernel
theorem dL_requires_64 : decode cL_requires 64 = .ok (.istore 4, 2) := by decide +kernel
theorem dL_requires_66 : decode cL_requires 66 = .ok (.iconst 0, 1) := by decide +kernel
theorem dL_requires_67 : decode cL_requires 67 = .ok (.istore 5, 2) := by decide +kernel
theorem dL_requires_69 : decode cL_requires 69 = .ok (.iload 5, 2) := by decide +kernel
theorem dL_requires_71 : decode cL_requires 71 = .ok (.aload_n 1, 1) := by decide +kernel
theorem dL_requires_72 : decode cL_requires 72 = .ok (.iconst 0, 1) := by decide +kernel
theorem dL_requires_73 : decode cL_requires 73 = .ok (.iaload, 1) := by decide +kernel
theorem dL_requires_74 : decode cL_requires 74 = .ok (.if_icmp .ge 49, 3) := by decide +kernel
theorem dL_requires_77 : decode cL_requires 77 = .ok (.aload_n 0, 1) := by decide +kernel
theorem dL_requires_78 : decode cL_requires 78 = .ok (.bipush 8, 2) := by decide +kernel
theorem dL_requires_80 : decode cL_requires 80 = .ok (.iload 5, 2) := by decide +kernel
theorem dL_requires_82 : decode cL_requires 82 = .ok (.imul, 1) := by decide +kernel
theorem dL_requires_83 : decode cL_requires 83 = .ok (.iconst 4, 1) := by decide +kernel
theorem dL_requires_84 : decode cL_requires 84 = .ok (.iadd, 1) := by decide +kernel
theorem dL_requires_85 : decode cL_requires 85 = .ok (.dup2, 1) := by decide +kernel
theorem dL_requires_86 : decode cL_requires 86 = .ok (.iaload, 1) := by decide +kernel
theorem dL_requires_87 : decode cL_requires 87 = .ok (.iload 5, 2) := by decide +kernel
theorem dL_requires_89 : decode cL_requires 89 = .ok (.iload_n 2, 1) := by decide +kernel
theorem dL_requires_90 : decode cL_requires 90 = .ok (.if_icmp .eq 19, 3) := by decide +kernel
theorem dL_requires_93 : decode cL_requires 93 = .ok (.aload_n 0, 1) := by decide +kernel
theorem dL_requires_94 : decode cL_requires 94 = .ok (.bipush 8, 2) := by decide +kernel
theorem dL_requires_96 : decode cL_requires 96 = .ok (.iload 5, 2) := by decide +kernel
theorem dL_requires_98 : decode cL_requires 98 = .ok (.imul, 1) := by decide +kernel
theorem dL_requires_99 : decode cL_requires 99 = .ok (.iconst 4, 1) := by decide +kernel
theorem dL_requires_100 : decode cL_requires 100 = .ok (.iadd, 1) := by decide +kernel
theorem dL_requires_101 : decode cL_requires 101 = .ok (.iaload, 1) := by decide +kernel
theorem dL_requires_102 : decode cL_requires 102 = .ok (.iload_n 2, 1) := by decide +kernel
theorem dL_requires_103 : decode cL_requires 103 = .ok (.invokestatic 15, 3) := by decide +kernel
theorem dL_requires_106 : decode cL_requires 106 = .ok (.ifCond .eq 8, 3) := by decide +kernel
theorem dL_requires_109 : decode cL_requires 109 = .ok (.iload 4, 2) := by decide +kernel
theorem dL_requires_111 : decode cL_requires 111 = .ok (.goto 4, 3) := by decide +kernel
theorem dL_requires_114 : decode cL_requires 114 = .ok (.iconst 0, 1) := by decide +kernel
theorem dL_requires_115 : decode cL_requires 115 = .ok (.ior, 1) := by decide +kernel
theorem dL_requires_116 : decode cL_requires 116 = .ok (.iastore, 1) := by decide +kernel
theorem dL_requires_117 : decode cL_requires 117 = .ok (.iinc 5 1, 3) := by decide +kernel
theorem dL_requires_120 : decode cL_requires 120 = .ok (.goto (-51), 3) := by decide +kernel
theorem dL_requires_123 : decode cL_requires 123 = .ok (.aload_n 0, 1) := by decide +kernel
theorem dL_requires_124 : decode cL_requires 124 = .ok (.bipush 8, 2) := by decide +kernel
theorem dL_requires_126 : decode cL_requires 126 = .ok (.iload_n 2, 1) := by decide +kernel
theorem dL_requires_127 : decode cL_requires 127 = .ok (.imul, 1) := by decide +kernel
theorem dL_requires_128 : decode cL_requires 128 = .ok (.iconst 4, 1) := by decide +kernel
theorem dL_requires_129 : decode cL_requires 129 = .ok (.iadd, 1) := by decide +kernel
theorem dL_requires_130 : decode cL_requires 130 = .ok (.iaload, 1) := by decide +kernel
theorem dL_requires_131 : decode cL_requires 131 = .ok (.invokestatic 29, 3) := by decide +kernel
theorem dL_requires_134 : decode cL_requires 134 = .ok (.ireturn, 1) := by decide +kernel
theorem dL_passes_0 : decode cL_passes 0 = .ok (.aload_n 1, 1) := by decide +kernel
theorem dL_passes_1 : decode cL_passes 1 = .ok (.bipush 8, 2) := by decide +kernel
theorem dL_passes_3 : decode cL_passes 3 = .ok (.iload_n 3, 1) := by decide +kernel
theorem dL_passes_4 : decode cL_passes 4 = .ok (.imul, 1) := by decide +kernel
theorem dL_passes_5 : decode cL_passes 5 = .ok (.iconst 2, 1) := by decide +kernel
theorem dL_passes_6 : decode cL_passes 6 = .ok (.iadd, 1) := by decide +kernel
theorem dL_passes_7 : decode cL_passes 7 = .ok (.iaload, 1) := by decide +kernel
theorem dL_passes_8 : decode cL_passes 8 = .ok (.aload_n 1, 1) := by decide +kernel
theorem dL_passes_9 : decode cL_passes 9 = .ok (.bipush 8, 2) := by decide +kernel
theorem dL_passes_11 : decode cL_passes 11 = .ok (.iload_n 3, 1) := by decide +kernel
theorem dL_passes_12 : decode cL_passes 12 = .ok (.imul, 1) := by decide +kernel
theorem dL_passes_13 : decode cL_passes 13 = .ok (.iconst 3, 1) := by decide +kernel
theorem dL_passes_14 : decode cL_passes 14 = .ok (.iadd, 1) := by decide +kernel
theorem dL_passes_15 : decode cL_passes 15 = .ok (.iaload, 1) := by decide +kernel
theorem dL_passes_16 : decode cL_passes 16 = .ok (.ior, 1) := by decide +kernel
theorem dL_passes_17 : decode cL_passes 17 = .ok (.iload 4, 2) := by decide +kernel
theorem dL_passes_19 : decode cL_passes 19 = .ok (.invokestatic 15, 3) := by decide +kernel
theorem dL_passes_22 : decode cL_passes 22 = .ok (.ifCond .eq 6, 3) := by decide +kernel
theorem dL_passes_25 : decode cL_passes 25 = .ok (.bipush (-13), 2) := by decide +kernel
theorem dL_passes_27 : decode cL_passes 27 = .ok (.ireturn, 1) := by decide +kernel
theorem dL_passes_28 : decode cL_passes 28 = .ok (.aload_n 1, 1) := by decide +kernel
theorem dL_passes_29 : decode cL_passes 29 = .ok (.bipush 8, 2) := by decide +kernel
theorem dL_passes_31 : decode cL_passes 31 = .ok (.iload_n 3, 1) := by decide +kernel
theorem dL_passes_32 : decode cL_passes 32 = .ok (.imul, 1) := by decide +kernel
theorem dL_passes_33 : decode cL_passes 33 = .ok (.iconst 2, 1) := by decide +kernel
theorem dL_passes_34 : decode cL_passes 34 = .ok (.iadd, 1) := by decide +kernel
theorem dL_passes_35 : decode cL_passes 35 = .ok (.dup2, 1) := by decide +kernel
theorem dL_passes_36 : decode cL_passes 36 = .ok (.iaload, 1) := by decide +kernel
theorem dL_passes_37 : decode cL_passes 37 = .ok (.iconst 1, 1) := by decide +kernel
theorem dL_passes_38 : decode cL_passes 38 = .ok (.iload 4, 2) := by decide +kernel
theorem dL_passes_40 : decode cL_passes 40 = .ok (.ishl, 1) := by decide +kernel
theorem dL_passes_41 : decode cL_passes 41 = .ok (.ior, 1) := by decide +kernel
theorem dL_passes_42 : decode cL_passes 42 = .ok (.iastore, 1) := by decide +kernel
theorem dL_passes_43 : decode cL_passes 43 = .ok (.aload_n 1, 1) := by decide +kernel
theorem dL_passes_44 : decode cL_passes 44 = .ok (.iload_n 3, 1) := by decide +kernel
theorem dL_passes_45 : decode cL_passes 45 = .ok (.iload 4, 2) := by decide +kernel
theorem dL_passes_47 : decode cL_passes 47 = .ok (.invokestatic 45, 3) := by decide +kernel
theorem dL_passes_50 : decode cL_passes 50 = .ok (.aload_n 0, 1) := by decide +kernel
theorem dL_passes_51 : decode cL_passes 51 = .ok (.aload_n 2, 1) := by decide +kernel
theorem dL_passes_52 : decode cL_passes 52 = .ok (.iload_n 3, 1) := by decide +kernel
theorem dL_passes_53 : decode cL_passes 53 = .ok (.iload 4, 2) := by decide +kernel
theorem dL_passes_55 : decode cL_passes 55 = .ok (.invokestatic 49, 3) := by decide +kernel
theorem dL_passes_58 : decode cL_passes 58 = .ok (.aload_n 1, 1) := by decide +kernel
theorem dL_passes_59 : decode cL_passes 59 = .ok (.bipush 8, 2) := by decide +kernel
theorem dL_passes_61 : decode cL_passes 61 = .ok (.iload_n 3, 1) := by decide +kernel
theorem dL_passes_62 : decode cL_passes 62 = .ok (.imul, 1) := by decide +kernel
theorem dL_passes_63 : decode cL_passes 63 = .ok (.iconst 2, 1) := by decide +kernel
theorem dL_passes_64 : decode cL_passes 64 = .ok (.iadd, 1) := by decide +kernel
theorem dL_passes_65 : decode cL_passes 65 = .ok (.iaload, 1) := by decide +kernel
theorem dL_passes_66 : decode cL_passes 66 = .ok (.invokestatic 29, 3) := by decide +kernel
theorem dL_passes_69 : decode cL_passes 69 = .ok (.ireturn, 1) := by decide +kernel
theorem dL_wishes_0 : decode cL_wishes 0 = .ok (.aload_n 0, 1) := by decide +kernel
theorem dL_wishes_1 : decode cL_wishes 1 = .ok (.bipush 8, 2) := by decide +kernel
theorem dL_wishes_3 : decode cL_wishes 3 = .ok (.iload_n 1, 1) := by decide +kernel
theorem dL_wishes_4 : decode cL_wishes 4 = .ok (.imul, 1) := by decide +kernel
theorem dL_wishes_5 : decode cL_wishes 5 = .ok (.iconst 4, 1) := by decide +kernel
theorem dL_wishes_6 : decode cL_wishes 6 = .ok (.iadd, 1) := by decide +kernel
theorem dL_wishes_7 : decode cL_wishes 7 = .ok (.iaload, 1) := by decide +kernel
theorem dL_wishes_8 : decode cL_wishes 8 = .ok (.istore_n 3, 1) := by decide +kernel
theorem dL_wishes_9 : decode cL_wishes 9 = .ok (.iload_n 3, 1) := by decide +kernel
theorem dL_wishes_10 : decode cL_wishes 10 = .ok (.i2l, 1) := by decide +kernel
theorem dL_wishes_11 : decode cL_wishes 11 = .ok (.invokestatic 53, 3) := by decide +kernel
theorem dL_wishes_14 : decode cL_wishes 14 = .ok (.istore 4, 2) := by decide +kernel
theorem dL_wishes_16 : decode cL_wishes 16 = .ok (.aload_n 0, 1) := by decide +kernel
theorem dL_wishes_17 : decode cL_wishes 17 = .ok (.bipush 8, 2) := by decide +kernel
theorem dL_wishes_19 : decode cL_wishes 19 = .ok (.iload_n 1, 1) := by decide +kernel
theorem dL_wishes_20 : decode cL_wishes 20 = .ok (.imul, 1) := by decide +kernel
theorem dL_wishes_21 : decode cL_wishes 21 = .ok (.iconst 2, 1) := by decide +kernel
theorem dL_wishes_22 : decode cL_wishes 22 = .ok (.iadd, 1) := by decide +kernel
theorem dL_wishes_23 : decode cL_wishes 23 = .ok (.iaload, 1) := by decide +kernel
theorem dL_wishes_24 : decode cL_wishes 24 = .ok (.aload_n 0, 1) := by decide +kernel
theorem dL_wishes_25 : decode cL_wishes 25 = .ok (.bipush 8, 2) := by decide +kernel
theorem dL_wishes_27 : decode cL_wishes 27 = .ok (.iload_n 1, 1) := by decide +kernel
theorem dL_wishes_28 : decode cL_wishes 28 = .ok (.imul, 1) := by decide +kernel
theorem dL_wishes_29 : decode cL_wishes 29 = .ok (.iconst 3, 1) := by decide +kernel
theorem dL_wishes_30 : decode cL_wishes 30 = .ok (.iadd, 1) := by decide +kernel
theorem dL_wishes_31 : decode cL_wishes 31 = .ok (.iaload, 1) := by decide +kernel
theorem dL_wishes_32 : decode cL_wishes 32 = .ok (.ior, 1) := by decide +kernel
theorem dL_wishes_33 : decode cL_wishes 33 = .ok (.iload_n 2, 1) := by decide +kernel
theorem dL_wishes_34 : decode cL_wishes 34 = .ok (.invokestatic 15, 3) := by decide +kernel
theorem dL_wishes_37 : decode cL_wishes 37 = .ok (.ifCond .ne 19, 3) := by decide +kernel
theorem dL_wishes_40 : decode cL_wishes 40 = .ok (.iload_n 3, 1) := by decide +kernel
theorem dL_wishes_41 : decode cL_wishes 41 = .ok (.i2l, 1) := by decide +kernel
theorem dL_wishes_42 : decode cL_wishes 42 = .ok (.iload_n 2, 1) := by decide +kernel
theorem dL_wishes_43 : decode cL_wishes 43 = .ok (.invokestatic 9, 3) := by decide +kernel
theorem dL_wishes_46 : decode cL_wishes 46 = .ok (.ifCond .ge 10, 3) := by decide +kernel
theorem dL_wishes_49 : decode cL_wishes 49 = .ok (.iload 4, 2) := by decide +kernel
theorem dL_wishes_51 : decode cL_wishes 51 = .ok (.bipush 6, 2) := by decide +kernel
theorem dL_wishes_53 : decode cL_wishes 53 = .ok (.if_icmp .ne 6, 3) := by decide +kernel
theorem dL_wishes_56 : decode cL_wishes 56 = .ok (.bipush (-13), 2) := by decide +kernel
theorem dL_wishes_58 : decode cL_wishes 58 = .ok (.ireturn, 1) := by decide +kernel
theorem dL_wishes_59 : decode cL_wishes 59 = .ok (.aload_n 0, 1) := by decide +kernel
theorem dL_wishes_60 : decode cL_wishes 60 = .ok (.bipush 8, 2) := by decide +kernel
theorem dL_wishes_62 : decode cL_wishes 62 = .ok (.iload_n 1, 1) := by decide +kernel
theorem dL_wishes_63 : decode cL_wishes 63 = .ok (.imul, 1) := by decide +kernel
theorem dL_wishes_64 : decode cL_wishes 64 = .ok (.iconst 4, 1) := by decide +kernel
theorem dL_wishes_65 : decode cL_wishes 65 = .ok (.iadd, 1) := by decide +kernel
theorem dL_wishes_66 : decode cL_wishes 66 = .ok (.dup2, 1) := by decide +kernel
theorem dL_wishes_67 : decode cL_wishes 67 = .ok (.iaload, 1) := by decide +kernel
theorem dL_wishes_68 : decode cL_wishes 68 = .ok (.iload_n 2, 1) := by decide +kernel
theorem dL_wishes_69 : decode cL_wishes 69 = .ok (.iconst 1, 1) := by decide +kernel
theorem dL_wishes_70 : decode cL_wishes 70 = .ok (.iadd, 1) := by decide +kernel
theorem dL_wishes_71 : decode cL_wishes 71 = .ok (.iconst 4, 1) := by decide +kernel
theorem dL_wishes_72 : decode cL_wishes 72 = .ok (.iload 4, 2) := by decide +kernel
theorem dL_wishes_74 : decode cL_wishes 74 = .ok (.imul, 1) := by decide +kernel
theorem dL_wishes_75 : decode cL_wishes 75 = .ok (.ishl, 1) := by decide +kernel
theorem dL_wishes_76 : decode cL_wishes 76 = .ok (.ior, 1) := by decide +kernel
theorem dL_wishes_77 : decode cL_wishes 77 = .ok (.iastore, 1) := by decide +kernel
theorem dL_wishes_78 : decode cL_wishes 78 = .ok (.iload 4, 2) := by decide +kernel
theorem dL_wishes_80 : decode cL_wishes 80 = .ok (.ireturn, 1) := by decide +kernel
theorem dL_asks_0 : decode cL_asks 0 = .ok (.aload_n 0, 1) := by decide +kernel
theorem dL_asks_1 : decode cL_asks 1 = .ok (.aload_n 1, 1) := by decide +kernel
theorem dL_asks_2 : decode cL_asks 2 = .ok (.iload_n 3, 1) := by decide +kernel
theorem dL_asks_3 : decode cL_asks 3 = .ok (.iload 4, 2) := by decide +kernel
theorem dL_asks_5 : decode cL_asks 5 = .ok (.aload_n 1, 1) := by decide +kernel
theorem dL_asks_6 : decode cL_asks 6 = .ok (.bipush 8, 2) := by decide +kernel
theorem dL_asks_8 : decode cL_asks 8 = .ok (.iload_n 3, 1) := by decide +kernel
theorem dL_asks_9 : decode cL_asks 9 = .ok (.imul, 1) := by decide +kernel
theorem dL_asks_10 : decode cL_asks 10 = .ok (.iconst 3, 1) := by decide +kernel
theorem dL_asks_11 : decode cL_asks 11 = .ok (.iadd, 1) := by decide +kernel
theorem dL_asks_12 : decode cL_asks 12 = .ok (.iaload, 1) := by decide +kernel
theorem dL_asks_13 : decode cL_asks 13 = .ok (.invokestatic 37, 3) := by decide +kernel
theorem dL_asks_16 : decode cL_asks 16 = .ok (.ifCond .gt 14, 3) := by decide +kernel
theorem dL_asks_19 : decode cL_asks 19 = .ok (.aload_n 2, 1) := by decide +kernel
theorem dL_asks_20 : decode cL_asks 20 = .ok (.iload 4, 2) := by decide +kernel
theorem dL_asks_22 : decode cL_asks 22 = .ok (.laload, 1) := by decide +kernel
theorem dL_asks_23 : decode cL_asks 23 = .ok (.iload_n 3, 1) := by decide +kernel
theorem dL_asks_24 : decode cL_asks 24 = .ok (.invokestatic 9, 3) := by decide +kernel
theorem dL_asks_27 : decode cL_asks 27 = .ok (.ifCond .lt 6, 3) := by decide +kernel
theorem dL_asks_30 : decode cL_asks 30 = .ok (.bipush (-13), 2) := by decide +kernel
theorem dL_asks_32 : decode cL_asks 32 = .ok (.ireturn, 1) := by decide +kernel
theorem dL_asks_33 : decode cL_asks 33 = .ok (.aload_n 0, 1) := by decide +kernel
theorem dL_asks_34 : decode cL_asks 34 = .ok (.aload_n 1, 1) := by decide +kernel
theorem dL_asks_35 : decode cL_asks 35 = .ok (.iload 4, 2) := by decide +kernel
theorem dL_asks_37 : decode cL_asks 37 = .ok (.invokestatic 33, 3) := by decide +kernel
theorem dL_asks_40 : decode cL_asks 40 = .ok (.ifCond .le 14, 3) := by decide +kernel
theorem dL_asks_43 : decode cL_asks 43 = .ok (.aload_n 0, 1) := by decide +kernel
theorem dL_asks_44 : decode cL_asks 44 = .ok (.aload_n 1, 1) := by decide +kernel
theorem dL_asks_45 : decode cL_asks 45 = .ok (.aload_n 2, 1) := by decide +kernel
theorem dL_asks_46 : decode cL_asks 46 = .ok (.iload_n 3, 1) := by decide +kernel
theorem dL_asks_47 : decode cL_asks 47 = .ok (.iload 4, 2) := by decide +kernel
theorem dL_asks_49 : decode cL_asks 49 = .ok (.invokestatic 57, 3) := by decide +kernel
theorem dL_asks_52 : decode cL_asks 52 = .ok (.iconst 0, 1) := by decide +kernel
theorem dL_asks_53 : decode cL_asks 53 = .ok (.ireturn, 1) := by decide +kernel
theorem dL_asks_54 : decode cL_asks 54 = .ok (.aload_n 2, 1) := by decide +kernel
theorem dL_asks_55 : decode cL_asks 55 = .ok (.iload 4, 2) := by decide +kernel
theorem dL_asks_57 : decode cL_asks 57 = .ok (.dup2, 1) := by decide +kernel
theorem dL_asks_58 : decode cL_asks 58 = .ok (.laload, 1) := by decide +kernel
theorem dL_asks_59 : decode cL_asks 59 = .ok (.iload_n 3, 1) := by decide +kernel
theorem dL_asks_60 : decode cL_asks 60 = .ok (.i2l, 1) := by decide +kernel
theorem dL_asks_61 : decode cL_asks 61 = .ok (.lconst 1, 1) := by decide +kernel
theorem dL_asks_62 : decode cL_asks 62 = .ok (.ladd, 1) := by decide +kernel
theorem dL_asks_63 : decode cL_asks 63 = .ok (.iconst 4, 1) := by decide +kernel
theorem dL_asks_64 : decode cL_asks 64 = .ok (.aload_n 2, 1) := by decide +kernel
theorem dL_asks_65 : decode cL_asks 65 = .ok (.iload 4, 2) := by decide +kernel
theorem dL_asks_67 : decode cL_asks 67 = .ok (.laload, 1) := by decide +kernel
theorem dL_asks_68 : decode cL_asks 68 = .ok (.invokestatic 53, 3) := by decide +kernel
theorem dL_asks_71 : decode cL_asks 71 = .ok (.imul, 1) := by decide +kernel
theorem dL_asks_72 : decode cL_asks 72 = .ok (.lshl, 1) := by decide +kernel
theorem dL_asks_73 : decode cL_asks 73 = .ok (.lor, 1) := by decide +kernel
theorem dL_asks_74 : decode cL_asks 74 = .ok (.lastore, 1) := by decide +kernel
theorem dL_asks_75 : decode cL_asks 75 = .ok (.aload_n 2, 1) := by decide +kernel
theorem dL_asks_76 : decode cL_asks 76 = .ok (.iload 4, 2) := by decide +kernel
theorem dL_asks_78 : decode cL_asks 78 = .ok (.laload, 1) := by decide +kernel
theorem dL_asks_79 : decode cL_asks 79 = .ok (.invokestatic 53, 3) := by decide +kernel
theorem dL_asks_82 : decode cL_asks 82 = .ok (.ireturn, 1) := by decide +kernel
theorem dL_drops_0 : decode cL_drops 0 = .ok (.aload_n 1, 1) := by decide +kernel
theorem dL_drops_1 : decode cL_drops 1 = .ok (.bipush 8, 2) := by decide +kernel
theorem dL_drops_3 : decode cL_drops 3 = .ok (.iload_n 2, 1) := by decide +kernel
theorem dL_drops_4 : decode cL_drops 4 = .ok (.imul, 1) := by decide +kernel
theorem dL_drops_5 : decode cL_drops 5 = .ok (.iconst 3, 1) := by decide +kernel
theorem dL_drops_6 : decode cL_drops 6 = .ok (.iadd, 1) := by decide +kernel
theorem dL_drops_7 : decode cL_drops 7 = .ok (.iaload, 1) := by decide +kernel
theorem dL_drops_8 : decode cL_drops 8 = .ok (.iload_n 3, 1) := by decide +kernel
theorem dL_drops_9 : decode cL_drops 9 = .ok (.invokestatic 15, 3) := by decide +kernel
theorem dL_drops_12 : decode cL_drops 12 = .ok (.ifCond .ne 6, 3) := by decide +kernel
theorem dL_drops_15 : decode cL_drops 15 = .ok (.bipush (-13), 2) := by decide +kernel
theorem dL_drops_17 : decode cL_drops 17 = .ok (.ireturn, 1) := by decide +kernel
theorem dL_drops_18 : decode cL_drops 18 = .ok (.aload_n 1, 1) := by decide +kernel
theorem dL_drops_19 : decode cL_drops 19 = .ok (.iload_n 2, 1) := by decide +kernel
theorem dL_drops_20 : decode cL_drops 20 = .ok (.iload_n 3, 1) := by decide +kernel
theorem dL_drops_21 : decode cL_drops 21 = .ok (.invokestatic 61, 3) := by decide +kernel
theorem dL_drops_24 : decode cL_drops 24 = .ok (.aload_n 0, 1) := by decide +kernel
theorem dL_drops_25 : decode cL_drops 25 = .ok (.aload_n 1, 1) := by decide +kernel
theorem dL_drops_26 : decode cL_drops 26 = .ok (.bipush 8, 2) := by decide +kernel
theorem dL_drops_28 : decode cL_drops 28 = .ok (.iload_n 2, 1) := by decide +kernel
theorem dL_drops_29 : decode cL_drops 29 = .ok (.imul, 1) := by decide +kernel
theorem dL_drops_30 : decode cL_drops 30 = .ok (.iconst 3, 1) := by decide +kernel
theorem dL_drops_31 : decode cL_drops 31 = .ok (.iadd, 1) := by decide +kernel
theorem dL_drops_32 : decode cL_drops 32 = .ok (.iaload, 1) := by decide +kernel
theorem dL_drops_33 : decode cL_drops 33 = .ok (.invokestatic 19, 3) := by decide +kernel
theorem dL_drops_36 : decode cL_drops 36 = .ok (.ireturn, 1) := by decide +kernel
theorem dL_changes_0 : decode cL_changes 0 = .ok (.aload_n 1, 1) := by decide +kernel
theorem dL_changes_1 : decode cL_changes 1 = .ok (.bipush 8, 2) := by decide +kernel
theorem dL_changes_3 : decode cL_changes 3 = .ok (.iload_n 3, 1) := by decide +kernel
theorem dL_changes_4 : decode cL_changes 4 = .ok (.imul, 1) := by decide +kernel
theorem dL_changes_5 : decode cL_changes 5 = .ok (.iconst 3, 1) := by decide +kernel
theorem dL_changes_6 : decode cL_changes 6 = .ok (.iadd, 1) := by decide +kernel
theorem dL_changes_7 : decode cL_changes 7 = .ok (.iaload, 1) := by decide +kernel
theorem dL_changes_8 : decode cL_changes 8 = .ok (.iload 4, 2) := by decide +kernel
theorem dL_changes_10 : decode cL_changes 10 = .ok (.invokestatic 15, 3) := by decide +kernel
theorem dL_changes_13 : decode cL_changes 13 = .ok (.ifCond .eq 46, 3) := by decide +kernel
theorem dL_changes_16 : decode cL_changes 16 = .ok (.iload 4, 2) := by decide +kernel
theorem dL_changes_18 : decode cL_changes 18 = .ok (.iload 5, 2) := by decide +kernel
theorem dL_changes_20 : decode cL_changes 20 = .ok (.if_icmp .eq 39, 3) := by decide +kernel
theorem dL_changes_23 : decode cL_changes 23 = .ok (.aload_n 0, 1) := by decide +kernel
theorem dL_changes_24 : decode cL_changes 24 = .ok (.aload_n 1, 1) := by decide +kernel
theorem dL_changes_25 : decode cL_changes 25 = .ok (.iload_n 3, 1) := by decide +kernel
theorem dL_changes_26 : decode cL_changes 26 = .ok (.iload 5, 2) := by decide +kernel
theorem dL_changes_28 : decode cL_changes 28 = .ok (.aload_n 1, 1) := by decide +kernel
theorem dL_changes_29 : decode cL_changes 29 = .ok (.bipush 8, 2) := by decide +kernel
theorem dL_changes_31 : decode cL_changes 31 = .ok (.iload_n 3, 1) := by decide +kernel
theorem dL_changes_32 : decode cL_changes 32 = .ok (.imul, 1) := by decide +kernel
theorem dL_changes_33 : decode cL_changes 33 = .ok (.iconst 3, 1) := by decide +kernel
theorem dL_changes_34 : decode cL_changes 34 = .ok (.iadd, 1) := by decide +kernel
theorem dL_changes_35 : decode cL_changes 35 = .ok (.iaload, 1) := by decide +kernel
theorem dL_changes_36 : decode cL_changes 36 = .ok (.iconst 1, 1) := by decide +kernel
theorem dL_changes_37 : decode cL_changes 37 = .ok (.iload 4, 2) := by decide +kernel
theorem dL_changes_39 : decode cL_changes 39 = .ok (.ishl, 1) := by decide +kernel
theorem dL_changes_40 : decode cL_changes 40 = .ok (.iconst (-1), 1) := by decide +kernel
theorem dL_changes_41 : decode cL_changes 41 = .ok (.ixor, 1) := by decide +kernel
theorem dL_changes_42 : decode cL_changes 42 = .ok (.iand, 1) := by decide +kernel
theorem dL_changes_43 : decode cL_changes 43 = .ok (.invokestatic 37, 3) := by decide +kernel
theorem dL_changes_46 : decode cL_changes 46 = .ok (.ifCond .gt 13, 3) := by decide +kernel
theorem dL_changes_49 : decode cL_changes 49 = .ok (.aload_n 0, 1) := by decide +kernel
theorem dL_changes_50 : decode cL_changes 50 = .ok (.aload_n 1, 1) := by decide +kernel
theorem dL_changes_51 : decode cL_changes 51 = .ok (.iload 5, 2) := by decide +kernel
theorem dL_changes_53 : decode cL_changes 53 = .ok (.invokestatic 33, 3) := by decide +kernel
theorem dL_changes_56 : decode cL_changes 56 = .ok (.ifCond .ne 6, 3) := by decide +kernel
theorem dL_changes_59 : decode cL_changes 59 = .ok (.bipush (-13), 2) := by decide +kernel
theorem dL_changes_61 : decode cL_changes 61 = .ok (.ireturn, 1) := by decide +kernel
theorem dL_changes_62 : decode cL_changes 62 = .ok (.aload_n 1, 1) := by decide +kernel
theorem dL_changes_63 : decode cL_changes 63 = .ok (.iload_n 3, 1) := by decide +kernel
theorem dL_changes_64 : decode cL_changes 64 = .ok (.iload 4, 2) := by decide +kernel
theorem dL_changes_66 : decode cL_changes 66 = .ok (.invokestatic 61, 3) := by decide +kernel
theorem dL_changes_69 : decode cL_changes 69 = .ok (.aload_n 0, 1) := by decide +kernel
theorem dL_changes_70 : decode cL_changes 70 = .ok (.aload_n 1, 1) := by decide +kernel
theorem dL_changes_71 : decode cL_changes 71 = .ok (.aload_n 2, 1) := by decide +kernel
theorem dL_changes_72 : decode cL_changes 72 = .ok (.iload_n 3, 1) := by decide +kernel
theorem dL_changes_73 : decode cL_changes 73 = .ok (.iload 5, 2) := by decide +kernel
theorem dL_changes_75 : decode cL_changes 75 = .ok (.invokestatic 57, 3) := by decide +kernel
theorem dL_changes_78 : decode cL_changes 78 = .ok (.aload_n 0, 1) := by decide +kernel
theorem dL_changes_79 : decode cL_changes 79 = .ok (.aload_n 1, 1) := by decide +kernel
theorem dL_changes_80 : decode cL_changes 80 = .ok (.bipush 8, 2) := by decide +kernel
theorem dL_changes_82 : decode cL_changes 82 = .ok (.iload_n 3, 1) := by decide +kernel
theorem dL_changes_83 : decode cL_changes 83 = .ok (.imul, 1) := by decide +kernel
theorem dL_changes_84 : decode cL_changes 84 = .ok (.iconst 3, 1) := by decide +kernel
theorem dL_changes_85 : decode cL_changes 85 = .ok (.iadd, 1) := by decide +kernel
theorem dL_changes_86 : decode cL_changes 86 = .ok (.iaload, 1) := by decide +kernel
theorem dL_changes_87 : decode cL_changes 87 = .ok (.invokestatic 19, 3) := by decide +kernel
theorem dL_changes_90 : decode cL_changes 90 = .ok (.ireturn, 1) := by decide +kernel
theorem dL_accepts_0 : decode cL_accepts 0 = .ok (.aload_n 0, 1) := by decide +kernel
theorem dL_accepts_1 : decode cL_accepts 1 = .ok (.iload 4, 2) := by decide +kernel
theorem dL_accepts_3 : decode cL_accepts 3 = .ok (.invokestatic 26, 3) := by decide +kernel
theorem dL_accepts_6 : decode cL_accepts 6 = .ok (.iload_n 3, 1) := by decide +kernel
theorem dL_accepts_7 : decode cL_accepts 7 = .ok (.invokestatic 15, 3) := by decide +kernel
theorem dL_accepts_10 : decode cL_accepts 10 = .ok (.ifCond .eq 22, 3) := by decide +kernel
theorem dL_accepts_13 : decode cL_accepts 13 = .ok (.aload_n 0, 1) := by decide +kernel
theorem dL_accepts_14 : decode cL_accepts 14 = .ok (.aload_n 1, 1) := by decide +kernel
theorem dL_accepts_15 : decode cL_accepts 15 = .ok (.iload_n 3, 1) := by decide +kernel
theorem dL_accepts_16 : decode cL_accepts 16 = .ok (.iload 4, 2) := by decide +kernel
theorem dL_accepts_18 : decode cL_accepts 18 = .ok (.aload_n 1, 1) := by decide +kernel
theorem dL_accepts_19 : decode cL_accepts 19 = .ok (.bipush 8, 2) := by decide +kernel
theorem dL_accepts_21 : decode cL_accepts 21 = .ok (.iload_n 3, 1) := by decide +kernel
theorem dL_accepts_22 : decode cL_accepts 22 = .ok (.imul, 1) := by decide +kernel
theorem dL_accepts_23 : decode cL_accepts 23 = .ok (.iconst 3, 1) := by decide +kernel
theorem dL_accepts_24 : decode cL_accepts 24 = .ok (.iadd, 1) := by decide +kernel
theorem dL_accepts_25 : decode cL_accepts 25 = .ok (.iaload, 1) := by decide +kernel
theorem dL_accepts_26 : decode cL_accepts 26 = .ok (.invokestatic 37, 3) := by decide +kernel
theorem dL_accepts_29 : decode cL_accepts 29 = .ok (.ifCond .le 6, 3) := by decide +kernel
theorem dL_accepts_32 : decode cL_accepts 32 = .ok (.bipush (-13), 2) := by decide +kernel
theorem dL_accepts_34 : decode cL_accepts 34 = .ok (.ireturn, 1) := by decide +kernel
theorem dL_accepts_35 : decode cL_accepts 35 = .ok (.aload_n 0, 1) := by decide +kernel
theorem dL_accepts_36 : decode cL_accepts 36 = .ok (.aload_n 1, 1) := by decide +kernel
theorem dL_accepts_37 : decode cL_accepts 37 = .ok (.aload_n 2, 1) := by decide +kernel
theorem dL_accepts_38 : decode cL_accepts 38 = .ok (.iload_n 3, 1) := by decide +kernel
theorem dL_accepts_39 : decode cL_accepts 39 = .ok (.iload 4, 2) := by decide +kernel
theorem dL_accepts_41 : decode cL_accepts 41 = .ok (.invokestatic 57, 3) := by decide +kernel
theorem dL_accepts_44 : decode cL_accepts 44 = .ok (.aload_n 0, 1) := by decide +kernel
theorem dL_accepts_45 : decode cL_accepts 45 = .ok (.aload_n 1, 1) := by decide +kernel
theorem dL_accepts_46 : decode cL_accepts 46 = .ok (.bipush 8, 2) := by decide +kernel
theorem dL_accepts_48 : decode cL_accepts 48 = .ok (.iload_n 3, 1) := by decide +kernel
theorem dL_accepts_49 : decode cL_accepts 49 = .ok (.imul, 1) := by decide +kernel
theorem dL_accepts_50 : decode cL_accepts 50 = .ok (.iconst 3, 1) := by decide +kernel
theorem dL_accepts_51 : decode cL_accepts 51 = .ok (.iadd, 1) := by decide +kernel
theorem dL_accepts_52 : decode cL_accepts 52 = .ok (.iaload, 1) := by decide +kernel
theorem dL_accepts_53 : decode cL_accepts 53 = .ok (.invokestatic 19, 3) := by decide +kernel
theorem dL_accepts_56 : decode cL_accepts 56 = .ok (.ireturn, 1) := by decide +kernel
theorem dL_goesOn_0 : decode cL_goesOn 0 = .ok (.iconst 0, 1) := by decide +kernel
theorem dL_goesOn_1 : decode cL_goesOn 1 = .ok (.istore 5, 2) := by decide +kernel
theorem dL_goesOn_3 : decode cL_goesOn 3 = .ok (.iconst 0, 1) := by decide +kernel
theorem dL_goesOn_4 : decode cL_goesOn 4 = .ok (.istore 6, 2) := by decide +kernel
theorem dL_goesOn_6 : decode cL_goesOn 6 = .ok (.iload 6, 2) := by decide +kernel
theorem dL_goesOn_8 : decode cL_goesOn 8 = .ok (.iload 4, 2) := by decide +kernel
theorem dL_goesOn_10 : decode cL_goesOn 10 = .ok (.if_icmp .ge 102, 3) := by decide +kernel
theorem dL_goesOn_13 : decode cL_goesOn 13 = .ok (.aload_n 3, 1) := by decide +kernel
theorem dL_goesOn_14 : decode cL_goesOn 14 = .ok (.iconst 2, 1) := by decide +kernel
theorem dL_goesOn_15 : decode cL_goesOn 15 = .ok (.dup2, 1) := by decide +kernel
theorem dL_goesOn_16 : decode cL_goesOn 16 = .ok (.iaload, 1) := by decide +kernel
theorem dL_goesOn_17 : decode cL_goesOn 17 = .ok (.iconst 1, 1) := by decide +kernel
theorem dL_goesOn_18 : decode cL_goesOn 18 = .ok (.iadd, 1) := by decide +kernel
theorem dL_goesOn_19 : decode cL_goesOn 19 = .ok (.iastore, 1) := by decide +kernel
theorem dL_goesOn_20 : decode cL_goesOn 20 = .ok (.iconst 0, 1) := by decide +kernel
theorem dL_goesOn_21 : decode cL_goesOn 21 = .ok (.istore 7, 2) := by decide +kernel
theorem dL_goesOn_23 : decode cL_goesOn 23 = .ok (.iload 7, 2) := by decide +kernel
theorem dL_goesOn_25 : decode cL_goesOn 25 = .ok (.aload_n 3, 1) := by decide +kernel
theorem dL_goesOn_26 : decode cL_goesOn 26 = .ok (.iconst 0, 1) := by decide +kernel
theorem dL_goesOn_27 : decode cL_goesOn 27 = .ok (.iaload, 1) := by decide +kernel
theorem dL_goesOn_28 : decode cL_goesOn 28 = .ok (.if_icmp .ge 71, 3) := by decide +kernel
theorem dL_goesOn_31 : decode cL_goesOn 31 = .ok (.aload_n 0, 1) := by decide +kernel
theorem dL_goesOn_32 : decode cL_goesOn 32 = .ok (.bipush 8, 2) := by decide +kernel
theorem dL_goesOn_34 : decode cL_goesOn 34 = .ok (.iload 7, 2) := by decide +kernel
theorem dL_goesOn_36 : decode cL_goesOn 36 = .ok (.imul, 1) := by decide +kernel
theorem dL_goesOn_37 : decode cL_goesOn 37 = .ok (.iconst 5, 1) := by decide +kernel
theorem dL_goesOn_38 : decode cL_goesOn 38 = .ok (.iadd, 1) := by decide +kernel
theorem dL_goesOn_39 : decode cL_goesOn 39 = .ok (.aload_n 3, 1) := by decide +kernel
theorem dL_goesOn_40 : decode cL_goesOn 40 = .ok (.iconst 2, 1) := by decide +kernel
theorem dL_goesOn_41 : decode cL_goesOn 41 = .ok (.iaload, 1) := by decide +kernel
theorem dL_goesOn_42 : decode cL_goesOn 42 = .ok (.iconst 3, 1) := by decide +kernel
theorem dL_goesOn_43 : decode cL_goesOn 43 = .ok (.irem, 1) := by decide +kernel
theorem dL_goesOn_44 : decode cL_goesOn 44 = .ok (.iadd, 1) := by decide +kernel
theorem dL_goesOn_45 : decode cL_goesOn 45 = .ok (.iaload, 1) := by decide +kernel
theorem dL_goesOn_46 : decode cL_goesOn 46 = .ok (.istore 8, 2) := by decide +kernel
theorem dL_goesOn_48 : decode cL_goesOn 48 = .ok (.iload 5, 2) := by decide +kernel
theorem dL_goesOn_50 : decode cL_goesOn 50 = .ok (.iload 8, 2) := by decide +kernel
theorem dL_goesOn_52 : decode cL_goesOn 52 = .ok (.invokestatic 29, 3) := by decide +kernel
theorem dL_goesOn_55 : decode cL_goesOn 55 = .ok (.iadd, 1) := by decide +kernel
theorem dL_goesOn_56 : decode cL_goesOn 56 = .ok (.istore 5, 2) := by decide +kernel
theorem dL_goesOn_58 : decode cL_goesOn 58 = .ok (.iconst 0, 1) := by decide +kernel
theorem dL_goesOn_59 : decode cL_goesOn 59 = .ok (.istore 9, 2) := by decide +kernel
theorem dL_goesOn_61 : decode cL_goesOn 61 = .ok (.iload 9, 2) := by decide +kernel
theorem dL_goesOn_63 : decode cL_goesOn 63 = .ok (.bipush 8, 2) := by decide +kernel
theorem dL_goesOn_65 : decode cL_goesOn 65 = .ok (.if_icmp .ge 28, 3) := by decide +kernel
theorem dL_goesOn_68 : decode cL_goesOn 68 = .ok (.iload 8, 2) := by decide +kernel
theorem dL_goesOn_70 : decode cL_goesOn 70 = .ok (.iload 9, 2) := by decide +kernel
theorem dL_goesOn_72 : decode cL_goesOn 72 = .ok (.invokestatic 15, 3) := by decide +kernel
theorem dL_goesOn_75 : decode cL_goesOn 75 = .ok (.ifCond .eq 12, 3) := by decide +kernel
theorem dL_goesOn_78 : decode cL_goesOn 78 = .ok (.aload_n 0, 1) := by decide +kernel
theorem dL_goesOn_79 : decode cL_goesOn 79 = .ok (.aload_n 2, 1) := by decide +kernel
theorem dL_goesOn_80 : decode cL_goesOn 80 = .ok (.iload 9, 2) := by decide +kernel
theorem dL_goesOn_82 : decode cL_goesOn 82 = .ok (.iload 7, 2) := by decide +kernel
theorem dL_goesOn_84 : decode cL_goesOn 84 = .ok (.invokestatic 49, 3) := by decide +kernel
theorem dL_goesOn_87 : decode cL_goesOn 87 = .ok (.iinc 9 1, 3) := by decide +kernel
theorem dL_goesOn_90 : decode cL_goesOn 90 = .ok (.goto (-29), 3) := by decide +kernel
theorem dL_goesOn_93 : decode cL_goesOn 93 = .ok (.iinc 7 1, 3) := by decide +kernel
theorem dL_goesOn_96 : decode cL_goesOn 96 = .ok (.goto (-73), 3) := by decide +kernel
theorem dL_goesOn_99 : decode cL_goesOn 99 = .ok (.aload_n 0, 1) := by decide +kernel
theorem dL_goesOn_100 : decode cL_goesOn 100 = .ok (.aload_n 1, 1) := by decide +kernel
theorem dL_goesOn_101 : decode cL_goesOn 101 = .ok (.aload_n 2, 1) := by decide +kernel
theorem dL_goesOn_102 : decode cL_goesOn 102 = .ok (.aload_n 3, 1) := by decide +kernel
theorem dL_goesOn_103 : decode cL_goesOn 103 = .ok (.invokestatic 64, 3) := by decide +kernel
theorem dL_goesOn_106 : decode cL_goesOn 106 = .ok (.iinc 6 1, 3) := by decide +kernel
theorem dL_goesOn_109 : decode cL_goesOn 109 = .ok (.goto (-103), 3) := by decide +kernel
theorem dL_goesOn_112 : decode cL_goesOn 112 = .ok (.iload 5, 2) := by decide +kernel
theorem dL_goesOn_114 : decode cL_goesOn 114 = .ok (.ireturn, 1) := by decide +kernel
theorem dL_draws_0 : decode cL_draws 0 = .ok (.iload 4, 2) := by decide +kernel
theorem dL_draws_2 : decode cL_draws 2 = .ok (.i2l, 1) := by decide +kernel
theorem dL_draws_3 : decode cL_draws 3 = .ok (.lstore 5, 2) := by decide +kernel
theorem dL_draws_5 : decode cL_draws 5 = .ok (.iconst 0, 1) := by decide +kernel
theorem dL_draws_6 : decode cL_draws 6 = .ok (.istore 7, 2) := by decide +kernel
theorem dL_draws_8 : decode cL_draws 8 = .ok (.iload 7, 2) := by decide +kernel
theorem dL_draws_10 : decode cL_draws 10 = .ok (.aload_n 3, 1) := by decide +kernel
theorem dL_draws_11 : decode cL_draws 11 = .ok (.iconst 1, 1) := by decide +kernel
theorem dL_draws_12 : decode cL_draws 12 = .ok (.iaload, 1) := by decide +kernel
theorem dL_draws_13 : decode cL_draws 13 = .ok (.if_icmp .ge 41, 3) := by decide +kernel
theorem dL_draws_16 : decode cL_draws 16 = .ok (.lload 5, 2) := by decide +kernel
theorem dL_draws_18 : decode cL_draws 18 = .ok (.ldc2_w 68, 3) := by decide +kernel
theorem dL_draws_21 : decode cL_draws 21 = .ok (.lmul, 1) := by decide +kernel
theorem dL_draws_22 : decode cL_draws 22 = .ok (.ldc2_w 70, 3) := by decide +kernel
theorem dL_draws_25 : decode cL_draws 25 = .ok (.ladd, 1) := by decide +kernel
theorem dL_draws_26 : decode cL_draws 26 = .ok (.ldc2_w 72, 3) := by decide +kernel
theorem dL_draws_29 : decode cL_draws 29 = .ok (.land, 1) := by decide +kernel
theorem dL_draws_30 : decode cL_draws 30 = .ok (.lstore 5, 2) := by decide +kernel
theorem dL_draws_32 : decode cL_draws 32 = .ok (.aload_n 1, 1) := by decide +kernel
theorem dL_draws_33 : decode cL_draws 33 = .ok (.bipush 8, 2) := by decide +kernel
theorem dL_draws_35 : decode cL_draws 35 = .ok (.iload 7, 2) := by decide +kernel
theorem dL_draws_37 : decode cL_draws 37 = .ok (.imul, 1) := by decide +kernel
theorem dL_draws_38 : decode cL_draws 38 = .ok (.bipush 6, 2) := by decide +kernel
theorem dL_draws_40 : decode cL_draws 40 = .ok (.iadd, 1) := by decide +kernel
theorem dL_draws_41 : decode cL_draws 41 = .ok (.lload 5, 2) := by decide +kernel
theorem dL_draws_43 : decode cL_draws 43 = .ok (.bipush 16, 2) := by decide +kernel
theorem dL_draws_45 : decode cL_draws 45 = .ok (.lshr, 1) := by decide +kernel
theorem dL_draws_46 : decode cL_draws 46 = .ok (.l2i, 1) := by decide +kernel
theorem dL_draws_47 : decode cL_draws 47 = .ok (.iastore, 1) := by decide +kernel
theorem dL_draws_48 : decode cL_draws 48 = .ok (.iinc 7 1, 3) := by decide +kernel
theorem dL_draws_51 : decode cL_draws 51 = .ok (.goto (-43), 3) := by decide +kernel
theorem dL_draws_54 : decode cL_draws 54 = .ok (.iconst 0, 1) := by decide +kernel
theorem dL_draws_55 : decode cL_draws 55 = .ok (.istore 7, 2) := by decide +kernel
theorem dL_draws_57 : decode cL_draws 57 = .ok (.iconst (-1), 1) := by decide +kernel
theorem dL_draws_58 : decode cL_draws 58 = .ok (.istore 8, 2) := by decide +kernel
theorem dL_draws_60 : decode cL_draws 60 = .ok (.iconst 0, 1) := by decide +kernel
theorem dL_draws_61 : decode cL_draws 61 = .ok (.istore 9, 2) := by decide +kernel
theorem dL_draws_63 : decode cL_draws 63 = .ok (.iload 9, 2) := by decide +kernel
theorem dL_draws_65 : decode cL_draws 65 = .ok (.aload_n 3, 1) := by decide +kernel
theorem dL_draws_66 : decode cL_draws 66 = .ok (.iconst 1, 1) := by decide +kernel
theorem dL_draws_67 : decode cL_draws 67 = .ok (.iaload, 1) := by decide +kernel
theorem dL_draws_68 : decode cL_draws 68 = .ok (.if_icmp .ge 191, 3) := by decide +kernel
theorem dL_draws_71 : decode cL_draws 71 = .ok (.ldc 74, 2) := by decide +kernel
theorem dL_draws_73 : decode cL_draws 73 = .ok (.istore 10, 2) := by decide +kernel
theorem dL_draws_75 : decode cL_draws 75 = .ok (.iconst 0, 1) := by decide +kernel
theorem dL_draws_76 : decode cL_draws 76 = .ok (.istore 11, 2) := by decide +kernel
theorem dL_draws_78 : decode cL_draws 78 = .ok (.iload 11, 2) := by decide +kernel
theorem dL_draws_80 : decode cL_draws 80 = .ok (.aload_n 3, 1) := by decide +kernel
theorem dL_draws_81 : decode cL_draws 81 = .ok (.iconst 1, 1) := by decide +kernel
theorem dL_draws_82 : decode cL_draws 82 = .ok (.iaload, 1) := by decide +kernel
theorem dL_draws_83 : decode cL_draws 83 = .ok (.if_icmp .ge 60, 3) := by decide +kernel
theorem dL_draws_86 : decode cL_draws 86 = .ok (.aload_n 1, 1) := by decide +kernel
theorem dL_draws_87 : decode cL_draws 87 = .ok (.bipush 8, 2) := by decide +kernel
theorem dL_draws_89 : decode cL_draws 89 = .ok (.iload 11, 2) := by decide +kernel
theorem dL_draws_91 : decode cL_draws 91 = .ok (.imul, 1) := by decide +kernel
theorem dL_draws_92 : decode cL_draws 92 = .ok (.iaload, 1) := by decide +kernel
theorem dL_draws_93 : decode cL_draws 93 = .ok (.bipush 15, 2) := by decide +kernel
theorem dL_draws_95 : decode cL_draws 95 = .ok (.ishl, 1) := by decide +kernel
theorem dL_draws_96 : decode cL_draws 96 = .ok (.aload_n 1, 1) := by decide +kernel
theorem dL_draws_97 : decode cL_draws 97 = .ok (.bipush 8, 2) := by decide +kernel
theorem dL_draws_99 : decode cL_draws 99 = .ok (.iload 11, 2) := by decide +kernel
theorem dL_draws_101 : decode cL_draws 101 = .ok (.imul, 1) := by decide +kernel
theorem dL_draws_102 : decode cL_draws 102 = .ok (.bipush 6, 2) := by decide +kernel
theorem dL_draws_104 : decode cL_draws 104 = .ok (.iadd, 1) := by decide +kernel
theorem dL_draws_105 : decode cL_draws 105 = .ok (.iaload, 1) := by decide +kernel
theorem dL_draws_106 : decode cL_draws 106 = .ok (.ior, 1) := by decide +kernel
theorem dL_draws_107 : decode cL_draws 107 = .ok (.iconst 3, 1) := by decide +kernel
theorem dL_draws_108 : decode cL_draws 108 = .ok (.ishl, 1) := by decide +kernel
theorem dL_draws_109 : decode cL_draws 109 = .ok (.iload 11, 2) := by decide +kernel
theorem dL_draws_111 : decode cL_draws 111 = .ok (.ior, 1) := by decide +kernel
theorem dL_draws_112 : decode cL_draws 112 = .ok (.istore 12, 2) := by decide +kernel
theorem dL_draws_114 : decode cL_draws 114 = .ok (.iload 12, 2) := by decide +kernel
theorem dL_draws_116 : decode cL_draws 116 = .ok (.iload 8, 2) := by decide +kernel
theorem dL_draws_118 : decode cL_draws 118 = .ok (.if_icmp .le 15, 3) := by decide +kernel
theorem dL_draws_121 : decode cL_draws 121 = .ok (.iload 12, 2) := by decide +kernel
theorem dL_draws_123 : decode cL_draws 123 = .ok (.iload 10, 2) := by decide +kernel
theorem dL_draws_125 : decode cL_draws 125 = .ok (.if_icmp .ge 8, 3) := by decide +kernel
theorem dL_draws_128 : decode cL_draws 128 = .ok (.iload 12, 2) := by decide +kernel
theorem dL_draws_130 : decode cL_draws 130 = .ok (.goto 5, 3) := by decide +kernel
theorem dL_draws_133 : decode cL_draws 133 = .ok (.iload 10, 2) := by decide +kernel
theorem dL_draws_135 : decode cL_draws 135 = .ok (.istore 10, 2) := by decide +kernel
theorem dL_draws_137 : decode cL_draws 137 = .ok (.iinc 11 1, 3) := by decide +kernel
theorem dL_draws_140 : decode cL_draws 140 = .ok (.goto (-62), 3) := by decide +kernel
theorem dL_draws_143 : decode cL_draws 143 = .ok (.iload 10, 2) := by decide +kernel
theorem dL_draws_145 : decode cL_draws 145 = .ok (.istore 8, 2) := by decide +kernel
theorem dL_draws_147 : decode cL_draws 147 = .ok (.iload 10, 2) := by decide +kernel
theorem dL_draws_149 : decode cL_draws 149 = .ok (.bipush 7, 2) := by decide +kernel
theorem dL_draws_151 : decode cL_draws 151 = .ok (.iand, 1) := by decide +kernel
theorem dL_draws_152 : decode cL_draws 152 = .ok (.istore 11, 2) := by decide +kernel
theorem dL_draws_154 : decode cL_draws 154 = .ok (.iconst (-1), 1) := by decide +kernel
theorem dL_draws_155 : decode cL_draws 155 = .ok (.istore 12, 2) := by decide +kernel
theorem dL_draws_157 : decode cL_draws 157 = .ok (.aload_n 1, 1) := by decide +kernel
theorem dL_draws_158 : decode cL_draws 158 = .ok (.bipush 8, 2) := by decide +kernel
theorem dL_draws_160 : decode cL_draws 160 = .ok (.iload 11, 2) := by decide +kernel
theorem dL_draws_162 : decode cL_draws 162 = .ok (.imul, 1) := by decide +kernel
theorem dL_draws_163 : decode cL_draws 163 = .ok (.iconst 4, 1) := by decide +kernel
theorem dL_draws_164 : decode cL_draws 164 = .ok (.iadd, 1) := by decide +kernel
theorem dL_draws_165 : decode cL_draws 165 = .ok (.iaload, 1) := by decide +kernel
theorem dL_draws_166 : decode cL_draws 166 = .ok (.istore 13, 2) := by decide +kernel
theorem dL_draws_168 : decode cL_draws 168 = .ok (.iload 13, 2) := by decide +kernel
theorem dL_draws_170 : decode cL_draws 170 = .ok (.ifCond .eq 65, 3) := by decide +kernel
theorem dL_draws_173 : decode cL_draws 173 = .ok (.iload 12, 2) := by decide +kernel
theorem dL_draws_175 : decode cL_draws 175 = .ok (.ifCond .ge 60, 3) := by decide +kernel
theorem dL_draws_178 : decode cL_draws 178 = .ok (.iload 13, 2) := by decide +kernel
theorem dL_draws_180 : decode cL_draws 180 = .ok (.bipush 15, 2) := by decide +kernel
theorem dL_draws_182 : decode cL_draws 182 = .ok (.iand, 1) := by decide +kernel
theorem dL_draws_183 : decode cL_draws 183 = .ok (.iconst 1, 1) := by decide +kernel
theorem dL_draws_184 : decode cL_draws 184 = .ok (.isub, 1) := by decide +kernel
theorem dL_draws_185 : decode cL_draws 185 = .ok (.istore 14, 2) := by decide +kernel
theorem dL_draws_187 : decode cL_draws 187 = .ok (.aload_n 0, 1) := by decide +kernel
theorem dL_draws_188 : decode cL_draws 188 = .ok (.aload_n 1, 1) := by decide +kernel
theorem dL_draws_189 : decode cL_draws 189 = .ok (.iload 11, 2) := by decide +kernel
theorem dL_draws_191 : decode cL_draws 191 = .ok (.iload 14, 2) := by decide +kernel
theorem dL_draws_193 : decode cL_draws 193 = .ok (.aload_n 1, 1) := by decide +kernel
theorem dL_draws_194 : decode cL_draws 194 = .ok (.bipush 8, 2) := by decide +kernel
theorem dL_draws_196 : decode cL_draws 196 = .ok (.iload 11, 2) := by decide +kernel
theorem dL_draws_198 : decode cL_draws 198 = .ok (.imul, 1) := by decide +kernel
theorem dL_draws_199 : decode cL_draws 199 = .ok (.iconst 3, 1) := by decide +kernel
theorem dL_draws_200 : decode cL_draws 200 = .ok (.iadd, 1) := by decide +kernel
theorem dL_draws_201 : decode cL_draws 201 = .ok (.iaload, 1) := by decide +kernel
theorem dL_draws_202 : decode cL_draws 202 = .ok (.invokestatic 37, 3) := by decide +kernel
theorem dL_draws_205 : decode cL_draws 205 = .ok (.ifCond .ne 18, 3) := by decide +kernel
theorem dL_draws_208 : decode cL_draws 208 = .ok (.aload_n 0, 1) := by decide +kernel
theorem dL_draws_209 : decode cL_draws 209 = .ok (.aload_n 1, 1) := by decide +kernel
theorem dL_draws_210 : decode cL_draws 210 = .ok (.iload 14, 2) := by decide +kernel
theorem dL_draws_212 : decode cL_draws 212 = .ok (.invokestatic 33, 3) := by decide +kernel
theorem dL_draws_215 : decode cL_draws 215 = .ok (.ifCond .le 8, 3) := by decide +kernel
theorem dL_draws_218 : decode cL_draws 218 = .ok (.iload 14, 2) := by decide +kernel
theorem dL_draws_220 : decode cL_draws 220 = .ok (.goto 4, 3) := by decide +kernel
theorem dL_draws_223 : decode cL_draws 223 = .ok (.iconst (-1), 1) := by decide +kernel
theorem dL_draws_224 : decode cL_draws 224 = .ok (.istore 12, 2) := by decide +kernel
theorem dL_draws_226 : decode cL_draws 226 = .ok (.iload 13, 2) := by decide +kernel
theorem dL_draws_228 : decode cL_draws 228 = .ok (.iconst 4, 1) := by decide +kernel
theorem dL_draws_229 : decode cL_draws 229 = .ok (.iushr, 1) := by decide +kernel
theorem dL_draws_230 : decode cL_draws 230 = .ok (.istore 13, 2) := by decide +kernel
theorem dL_draws_232 : decode cL_draws 232 = .ok (.goto (-64), 3) := by decide +kernel
theorem dL_draws_235 : decode cL_draws 235 = .ok (.iload 12, 2) := by decide +kernel
theorem dL_draws_237 : decode cL_draws 237 = .ok (.ifCond .lt 16, 3) := by decide +kernel
theorem dL_draws_240 : decode cL_draws 240 = .ok (.aload_n 0, 1) := by decide +kernel
theorem dL_draws_241 : decode cL_draws 241 = .ok (.aload_n 1, 1) := by decide +kernel
theorem dL_draws_242 : decode cL_draws 242 = .ok (.aload_n 2, 1) := by decide +kernel
theorem dL_draws_243 : decode cL_draws 243 = .ok (.iload 11, 2) := by decide +kernel
theorem dL_draws_245 : decode cL_draws 245 = .ok (.iload 12, 2) := by decide +kernel
theorem dL_draws_247 : decode cL_draws 247 = .ok (.invokestatic 57, 3) := by decide +kernel
theorem dL_draws_250 : decode cL_draws 250 = .ok (.iinc 7 1, 3) := by decide +kernel
theorem dL_draws_253 : decode cL_draws 253 = .ok (.iinc 9 1, 3) := by decide +kernel
theorem dL_draws_256 : decode cL_draws 256 = .ok (.goto (-193), 3) := by decide +kernel
theorem dL_draws_259 : decode cL_draws 259 = .ok (.iload 7, 2) := by decide +kernel
theorem dL_draws_261 : decode cL_draws 261 = .ok (.ireturn, 1) := by decide +kernel
theorem dL_points_0 : decode cL_points 0 = .ok (.aload_n 1, 1) := by decide +kernel
theorem dL_points_1 : decode cL_points 1 = .ok (.bipush 8, 2) := by decide +kernel
theorem dL_points_3 : decode cL_points 3 = .ok (.iload_n 2, 1) := by decide +kernel
theorem dL_points_4 : decode cL_points 4 = .ok (.imul, 1) := by decide +kernel
theorem dL_points_5 : decode cL_points 5 = .ok (.iconst 3, 1) := by decide +kernel
theorem dL_points_6 : decode cL_points 6 = .ok (.iadd, 1) := by decide +kernel
theorem dL_points_7 : decode cL_points 7 = .ok (.iaload, 1) := by decide +kernel
theorem dL_points_8 : decode cL_points 8 = .ok (.iconst 1, 1) := by decide +kernel
theorem dL_points_9 : decode cL_points 9 = .ok (.aload_n 1, 1) := by decide +kernel
theorem dL_points_10 : decode cL_points 10 = .ok (.bipush 8, 2) := by decide +kernel
theorem dL_points_12 : decode cL_points 12 = .ok (.iload_n 2, 1) := by decide +kernel
theorem dL_points_13 : decode cL_points 13 = .ok (.imul, 1) := by decide +kernel
theorem dL_points_14 : decode cL_points 14 = .ok (.iconst 5, 1) := by decide +kernel
theorem dL_points_15 : decode cL_points 15 = .ok (.iadd, 1) := by decide +kernel
theorem dL_points_16 : decode cL_points 16 = .ok (.iaload, 1) := by decide +kernel
theorem dL_points_17 : decode cL_points 17 = .ok (.ishl, 1) := by decide +kernel
theorem dL_points_18 : decode cL_points 18 = .ok (.iconst (-1), 1) := by decide +kernel
theorem dL_points_19 : decode cL_points 19 = .ok (.ixor, 1) := by decide +kernel
theorem dL_points_20 : decode cL_points 20 = .ok (.iand, 1) := by decide +kernel
theorem dL_points_21 : decode cL_points 21 = .ok (.istore 4, 2) := by decide +kernel
theorem dL_points_23 : decode cL_points 23 = .ok (.aload_n 1, 1) := by decide +kernel
theorem dL_points_24 : decode cL_points 24 = .ok (.bipush 8, 2) := by decide +kernel
theorem dL_points_26 : decode cL_points 26 = .ok (.iload_n 2, 1) := by decide +kernel
theorem dL_points_27 : decode cL_points 27 = .ok (.imul, 1) := by decide +kernel
theorem dL_points_28 : decode cL_points 28 = .ok (.iconst 4, 1) := by decide +kernel
theorem dL_points_29 : decode cL_points 29 = .ok (.iadd, 1) := by decide +kernel
theorem dL_points_30 : decode cL_points 30 = .ok (.iaload, 1) := by decide +kernel
theorem dL_points_31 : decode cL_points 31 = .ok (.istore 5, 2) := by decide +kernel
theorem dL_points_33 : decode cL_points 33 = .ok (.iload 5, 2) := by decide +kernel
theorem dL_points_35 : decode cL_points 35 = .ok (.ifCond .eq 82, 3) := by decide +kernel
theorem dL_points_38 : decode cL_points 38 = .ok (.iload 5, 2) := by decide +kernel
theorem dL_points_40 : decode cL_points 40 = .ok (.bipush 15, 2) := by decide +kernel
theorem dL_points_42 : decode cL_points 42 = .ok (.iand, 1) := by decide +kernel
theorem dL_points_43 : decode cL_points 43 = .ok (.iconst 1, 1) := by decide +kernel
theorem dL_points_44 : decode cL_points 44 = .ok (.isub, 1) := by decide +kernel
theorem dL_points_45 : decode cL_points 45 = .ok (.istore 6, 2) := by decide +kernel
theorem dL_points_47 : decode cL_points 47 = .ok (.iconst 0, 1) := by decide +kernel
theorem dL_points_48 : decode cL_points 48 = .ok (.istore 7, 2) := by decide +kernel
theorem dL_points_50 : decode cL_points 50 = .ok (.iload 7, 2) := by decide +kernel
theorem dL_points_52 : decode cL_points 52 = .ok (.bipush 8, 2) := by decide +kernel
theorem dL_points_54 : decode cL_points 54 = .ok (.if_icmp .ge 54, 3) := by decide +kernel
theorem dL_points_57 : decode cL_points 57 = .ok (.aload_n 0, 1) := by decide +kernel
theorem dL_points_58 : decode cL_points 58 = .ok (.aload_n 1, 1) := by decide +kernel
theorem dL_points_59 : decode cL_points 59 = .ok (.iload_n 2, 1) := by decide +kernel
theorem dL_points_60 : decode cL_points 60 = .ok (.iload 6, 2) := by decide +kernel
theorem dL_points_62 : decode cL_points 62 = .ok (.iload 4, 2) := by decide +kernel
theorem dL_points_64 : decode cL_points 64 = .ok (.invokestatic 37, 3) := by decide +kernel
theorem dL_points_67 : decode cL_points 67 = .ok (.ifCond .ne 41, 3) := by decide +kernel
theorem dL_points_70 : decode cL_points 70 = .ok (.iload 7, 2) := by decide +kernel
theorem dL_points_72 : decode cL_points 72 = .ok (.iload_n 2, 1) := by decide +kernel
theorem dL_points_73 : decode cL_points 73 = .ok (.if_icmp .eq 29, 3) := by decide +kernel
theorem dL_points_76 : decode cL_points 76 = .ok (.iload_n 3, 1) := by decide +kernel
theorem dL_points_77 : decode cL_points 77 = .ok (.iload 7, 2) := by decide +kernel
theorem dL_points_79 : decode cL_points 79 = .ok (.invokestatic 15, 3) := by decide +kernel
theorem dL_points_82 : decode cL_points 82 = .ok (.ifCond .eq 20, 3) := by decide +kernel
theorem dL_points_85 : decode cL_points 85 = .ok (.aload_n 1, 1) := by decide +kernel
theorem dL_points_86 : decode cL_points 86 = .ok (.bipush 8, 2) := by decide +kernel
theorem dL_points_88 : decode cL_points 88 = .ok (.iload 7, 2) := by decide +kernel
theorem dL_points_90 : decode cL_points 90 = .ok (.imul, 1) := by decide +kernel
theorem dL_points_91 : decode cL_points 91 = .ok (.iconst 5, 1) := by decide +kernel
theorem dL_points_92 : decode cL_points 92 = .ok (.iadd, 1) := by decide +kernel
theorem dL_points_93 : decode cL_points 93 = .ok (.iaload, 1) := by decide +kernel
theorem dL_points_94 : decode cL_points 94 = .ok (.iload 6, 2) := by decide +kernel
theorem dL_points_96 : decode cL_points 96 = .ok (.if_icmp .ne 6, 3) := by decide +kernel
theorem dL_points_99 : decode cL_points 99 = .ok (.iload 7, 2) := by decide +kernel
theorem dL_points_101 : decode cL_points 101 = .ok (.ireturn, 1) := by decide +kernel
theorem dL_points_102 : decode cL_points 102 = .ok (.iinc 7 1, 3) := by decide +kernel
theorem dL_points_105 : decode cL_points 105 = .ok (.goto (-55), 3) := by decide +kernel
theorem dL_points_108 : decode cL_points 108 = .ok (.iload 5, 2) := by decide +kernel
theorem dL_points_110 : decode cL_points 110 = .ok (.iconst 4, 1) := by decide +kernel
theorem dL_points_111 : decode cL_points 111 = .ok (.iushr, 1) := by decide +kernel
theorem dL_points_112 : decode cL_points 112 = .ok (.istore 5, 2) := by decide +kernel
theorem dL_points_114 : decode cL_points 114 = .ok (.goto (-81), 3) := by decide +kernel
theorem dL_points_117 : decode cL_points 117 = .ok (.iload_n 2, 1) := by decide +kernel
theorem dL_points_118 : decode cL_points 118 = .ok (.ireturn, 1) := by decide +kernel
theorem dL_swaps_0 : decode cL_swaps 0 = .ok (.bipush 8, 2) := by decide +kernel
theorem dL_swaps_2 : decode cL_swaps 2 = .ok (.newarray .int, 2) := by decide +kernel
theorem dL_swaps_4 : decode cL_swaps 4 = .ok (.astore 4, 2) := by decide +kernel
theorem dL_swaps_6 : decode cL_swaps 6 = .ok (.iconst 0, 1) := by decide +kernel
theorem dL_swaps_7 : decode cL_swaps 7 = .ok (.istore 5, 2) := by decide +kernel
theorem dL_swaps_9 : decode cL_swaps 9 = .ok (.iconst 0, 1) := by decide +kernel
theorem dL_swaps_10 : decode cL_swaps 10 = .ok (.istore 6, 2) := by decide +kernel
theorem dL_swaps_12 : decode cL_swaps 12 = .ok (.iload 6, 2) := by decide +kernel
theorem dL_swaps_14 : decode cL_swaps 14 = .ok (.bipush 8, 2) := by decide +kernel
theorem dL_swaps_16 : decode cL_swaps 16 = .ok (.if_icmp .ge 48, 3) := by decide +kernel
theorem dL_swaps_19 : decode cL_swaps 19 = .ok (.aload 4, 2) := by decide +kernel
theorem dL_swaps_21 : decode cL_swaps 21 = .ok (.iload 6, 2) := by decide +kernel
theorem dL_swaps_23 : decode cL_swaps 23 = .ok (.iconst (-1), 1) := by decide +kernel
theorem dL_swaps_24 : decode cL_swaps 24 = .ok (.iastore, 1) := by decide +kernel
theorem dL_swaps_25 : decode cL_swaps 25 = .ok (.iload 5, 2) := by decide +kernel
theorem dL_swaps_27 : decode cL_swaps 27 = .ok (.iload 6, 2) := by decide +kernel
theorem dL_swaps_29 : decode cL_swaps 29 = .ok (.aload_n 3, 1) := by decide +kernel
theorem dL_swaps_30 : decode cL_swaps 30 = .ok (.iconst 1, 1) := by decide +kernel
theorem dL_swaps_31 : decode cL_swaps 31 = .ok (.iaload, 1) := by decide +kernel
theorem dL_swaps_32 : decode cL_swaps 32 = .ok (.if_icmp .ge 22, 3) := by decide +kernel
theorem dL_swaps_35 : decode cL_swaps 35 = .ok (.aload_n 1, 1) := by decide +kernel
theorem dL_swaps_36 : decode cL_swaps 36 = .ok (.bipush 8, 2) := by decide +kernel
theorem dL_swaps_38 : decode cL_swaps 38 = .ok (.iload 6, 2) := by decide +kernel
theorem dL_swaps_40 : decode cL_swaps 40 = .ok (.imul, 1) := by decide +kernel
theorem dL_swaps_41 : decode cL_swaps 41 = .ok (.iconst 5, 1) := by decide +kernel
theorem dL_swaps_42 : decode cL_swaps 42 = .ok (.iadd, 1) := by decide +kernel
theorem dL_swaps_43 : decode cL_swaps 43 = .ok (.iaload, 1) := by decide +kernel
theorem dL_swaps_44 : decode cL_swaps 44 = .ok (.ifCond .lt 10, 3) := by decide +kernel
theorem dL_swaps_47 : decode cL_swaps 47 = .ok (.iconst 1, 1) := by decide +kernel
theorem dL_swaps_48 : decode cL_swaps 48 = .ok (.iload 6, 2) := by decide +kernel
theorem dL_swaps_50 : decode cL_swaps 50 = .ok (.ishl, 1) := by decide +kernel
theorem dL_swaps_51 : decode cL_swaps 51 = .ok (.goto 4, 3) := by decide +kernel
theorem dL_swaps_54 : decode cL_swaps 54 = .ok (.iconst 0, 1) := by decide +kernel
theorem dL_swaps_55 : decode cL_swaps 55 = .ok (.ior, 1) := by decide +kernel
theorem dL_swaps_56 : decode cL_swaps 56 = .ok (.istore 5, 2) := by decide +kernel
theorem dL_swaps_58 : decode cL_swaps 58 = .ok (.iinc 6 1, 3) := by decide +kernel
theorem dL_swaps_61 : decode cL_swaps 61 = .ok (.goto (-49), 3) := by decide +kernel
theorem dL_swaps_64 : decode cL_swaps 64 = .ok (.iload 5, 2) := by decide +kernel
theorem dL_swaps_66 : decode cL_swaps 66 = .ok (.ifCond .eq 126, 3) := by decide +kernel
theorem dL_swaps_69 : decode cL_swaps 69 = .ok (.iconst 0, 1) := by decide +kernel
theorem dL_swaps_70 : decode cL_swaps 70 = .ok (.istore 6, 2) := by decide +kernel
theorem dL_swaps_72 : decode cL_swaps 72 = .ok (.iload 5, 2) := by decide +kernel
theorem dL_swaps_74 : decode cL_swaps 74 = .ok (.iload 6, 2) := by decide +kernel
theorem dL_swaps_76 : decode cL_swaps 76 = .ok (.invokestatic 15, 3) := by decide +kernel
theorem dL_swaps_79 : decode cL_swaps 79 = .ok (.ifCond .ne 9, 3) := by decide +kernel
theorem dL_swaps_82 : decode cL_swaps 82 = .ok (.iinc 6 1, 3) := by decide +kernel
theorem dL_swaps_85 : decode cL_swaps 85 = .ok (.goto (-13), 3) := by decide +kernel
theorem dL_swaps_88 : decode cL_swaps 88 = .ok (.iconst 0, 1) := by decide +kernel
theorem dL_swaps_89 : decode cL_swaps 89 = .ok (.istore 7, 2) := by decide +kernel
theorem dL_swaps_91 : decode cL_swaps 91 = .ok (.iload 7, 2) := by decide +kernel
theorem dL_swaps_93 : decode cL_swaps 93 = .ok (.bipush 8, 2) := by decide +kernel
theorem dL_swaps_95 : decode cL_swaps 95 = .ok (.if_icmp .ge 20, 3) := by decide +kernel
theorem dL_swaps_98 : decode cL_swaps 98 = .ok (.aload_n 0, 1) := by decide +kernel
theorem dL_swaps_99 : decode cL_swaps 99 = .ok (.aload_n 1, 1) := by decide +kernel
theorem dL_swaps_100 : decode cL_swaps 100 = .ok (.iload 6, 2) := by decide +kernel
theorem dL_swaps_102 : decode cL_swaps 102 = .ok (.iload 5, 2) := by decide +kernel
theorem dL_swaps_104 : decode cL_swaps 104 = .ok (.invokestatic 75, 3) := by decide +kernel
theorem dL_swaps_107 : decode cL_swaps 107 = .ok (.istore 6, 2) := by decide +kernel
theorem dL_swaps_109 : decode cL_swaps 109 = .ok (.iinc 7 1, 3) := by decide +kernel
theorem dL_swaps_112 : decode cL_swaps 112 = .ok (.goto (-21), 3) := by decide +kernel
theorem dL_swaps_115 : decode cL_swaps 115 = .ok (.iconst 0, 1) := by decide +kernel
theorem dL_swaps_116 : decode cL_swaps 116 = .ok (.istore 7, 2) := by decide +kernel
theorem dL_swaps_118 : decode cL_swaps 118 = .ok (.iload 7, 2) := by decide +kernel
theorem dL_swaps_120 : decode cL_swaps 120 = .ok (.iload 6, 2) := by decide +kernel
theorem dL_swaps_122 : decode cL_swaps 122 = .ok (.invokestatic 15, 3) := by decide +kernel
theorem dL_swaps_125 : decode cL_swaps 125 = .ok (.ifCond .ne 55, 3) := by decide +kernel
theorem dL_swaps_128 : decode cL_swaps 128 = .ok (.iload 7, 2) := by decide +kernel
theorem dL_swaps_130 : decode cL_swaps 130 = .ok (.iconst 1, 1) := by decide +kernel
theorem dL_swaps_131 : decode cL_swaps 131 = .ok (.iload 6, 2) := by decide +kernel
theorem dL_swaps_133 : decode cL_swaps 133 = .ok (.ishl, 1) := by decide +kernel
theorem dL_swaps_134 : decode cL_swaps 134 = .ok (.ior, 1) := by decide +kernel
theorem dL_swaps_135 : decode cL_swaps 135 = .ok (.istore 7, 2) := by decide +kernel
theorem dL_swaps_137 : decode cL_swaps 137 = .ok (.aload_n 0, 1) := by decide +kernel
theorem dL_swaps_138 : decode cL_swaps 138 = .ok (.aload_n 1, 1) := by decide +kernel
theorem dL_swaps_139 : decode cL_swaps 139 = .ok (.iload 6, 2) := by decide +kernel
theorem dL_swaps_141 : decode cL_swaps 141 = .ok (.iload 5, 2) := by decide +kernel
theorem dL_swaps_143 : decode cL_swaps 143 = .ok (.invokestatic 75, 3) := by decide +kernel
theorem dL_swaps_146 : decode cL_swaps 146 = .ok (.istore 8, 2) := by decide +kernel
theorem dL_swaps_148 : decode cL_swaps 148 = .ok (.aload 4, 2) := by decide +kernel
theorem dL_swaps_150 : decode cL_swaps 150 = .ok (.iload 6, 2) := by decide +kernel
theorem dL_swaps_152 : decode cL_swaps 152 = .ok (.iload 8, 2) := by decide +kernel
theorem dL_swaps_154 : decode cL_swaps 154 = .ok (.iload 6, 2) := by decide +kernel
theorem dL_swaps_156 : decode cL_swaps 156 = .ok (.if_icmp .ne 7, 3) := by decide +kernel
theorem dL_swaps_159 : decode cL_swaps 159 = .ok (.iconst (-1), 1) := by decide +kernel
theorem dL_swaps_160 : decode cL_swaps 160 = .ok (.goto 12, 3) := by decide +kernel
theorem dL_swaps_163 : decode cL_swaps 163 = .ok (.aload_n 1, 1) := by decide +kernel
theorem dL_swaps_164 : decode cL_swaps 164 = .ok (.bipush 8, 2) := by decide +kernel
theorem dL_swaps_166 : decode cL_swaps 166 = .ok (.iload 8, 2) := by decide +kernel
theorem dL_swaps_168 : decode cL_swaps 168 = .ok (.imul, 1) := by decide +kernel
theorem dL_swaps_169 : decode cL_swaps 169 = .ok (.iconst 5, 1) := by decide +kernel
theorem dL_swaps_170 : decode cL_swaps 170 = .ok (.iadd, 1) := by decide +kernel
theorem dL_swaps_171 : decode cL_swaps 171 = .ok (.iaload, 1) := by decide +kernel
theorem dL_swaps_172 : decode cL_swaps 172 = .ok (.iastore, 1) := by decide +kernel
theorem dL_swaps_173 : decode cL_swaps 173 = .ok (.iload 8, 2) := by decide +kernel
theorem dL_swaps_175 : decode cL_swaps 175 = .ok (.istore 6, 2) := by decide +kernel
theorem dL_swaps_177 : decode cL_swaps 177 = .ok (.goto (-59), 3) := by decide +kernel
theorem dL_swaps_180 : decode cL_swaps 180 = .ok (.iload 5, 2) := by decide +kernel
theorem dL_swaps_182 : decode cL_swaps 182 = .ok (.iload 7, 2) := by decide +kernel
theorem dL_swaps_184 : decode cL_swaps 184 = .ok (.iconst (-1), 1) := by decide +kernel
theorem dL_swaps_185 : decode cL_swaps 185 = .ok (.ixor, 1) := by decide +kernel
theorem dL_swaps_186 : decode cL_swaps 186 = .ok (.iand, 1) := by decide +kernel
theorem dL_swaps_187 : decode cL_swaps 187 = .ok (.istore 5, 2) := by decide +kernel
theorem dL_swaps_189 : decode cL_swaps 189 = .ok (.goto (-125), 3) := by decide +kernel
theorem dL_swaps_192 : decode cL_swaps 192 = .ok (.iconst 0, 1) := by decide +kernel
theorem dL_swaps_193 : decode cL_swaps 193 = .ok (.istore 6, 2) := by decide +kernel
theorem dL_swaps_195 : decode cL_swaps 195 = .ok (.iconst 0, 1) := by decide +kernel
theorem dL_swaps_196 : decode cL_swaps 196 = .ok (.istore 7, 2) := by decide +kernel
theorem dL_swaps_198 : decode cL_swaps 198 = .ok (.iload 7, 2) := by decide +kernel
theorem dL_swaps_200 : decode cL_swaps 200 = .ok (.bipush 8, 2) := by decide +kernel
theorem dL_swaps_202 : decode cL_swaps 202 = .ok (.if_icmp .ge 48, 3) := by decide +kernel
theorem dL_swaps_205 : decode cL_swaps 205 = .ok (.aload 4, 2) := by decide +kernel
theorem dL_swaps_207 : decode cL_swaps 207 = .ok (.iload 7, 2) := by decide +kernel
theorem dL_swaps_209 : decode cL_swaps 209 = .ok (.iaload, 1) := by decide +kernel
theorem dL_swaps_210 : decode cL_swaps 210 = .ok (.ifCond .lt 34, 3) := by decide +kernel
theorem dL_swaps_213 : decode cL_swaps 213 = .ok (.aload_n 1, 1) := by decide +kernel
theorem dL_swaps_214 : decode cL_swaps 214 = .ok (.iload 7, 2) := by decide +kernel
theorem dL_swaps_216 : decode cL_swaps 216 = .ok (.aload_n 1, 1) := by decide +kernel
theorem dL_swaps_217 : decode cL_swaps 217 = .ok (.bipush 8, 2) := by decide +kernel
theorem dL_swaps_219 : decode cL_swaps 219 = .ok (.iload 7, 2) := by decide +kernel
theorem dL_swaps_221 : decode cL_swaps 221 = .ok (.imul, 1) := by decide +kernel
theorem dL_swaps_222 : decode cL_swaps 222 = .ok (.iconst 5, 1) := by decide +kernel
theorem dL_swaps_223 : decode cL_swaps 223 = .ok (.iadd, 1) := by decide +kernel
theorem dL_swaps_224 : decode cL_swaps 224 = .ok (.iaload, 1) := by decide +kernel
theorem dL_swaps_225 : decode cL_swaps 225 = .ok (.invokestatic 61, 3) := by decide +kernel
theorem dL_swaps_228 : decode cL_swaps 228 = .ok (.aload_n 0, 1) := by decide +kernel
theorem dL_swaps_229 : decode cL_swaps 229 = .ok (.aload_n 1, 1) := by decide +kernel
theorem dL_swaps_230 : decode cL_swaps 230 = .ok (.aload_n 2, 1) := by decide +kernel
theorem dL_swaps_231 : decode cL_swaps 231 = .ok (.iload 7, 2) := by decide +kernel
theorem dL_swaps_233 : decode cL_swaps 233 = .ok (.aload 4, 2) := by decide +kernel
theorem dL_swaps_235 : decode cL_swaps 235 = .ok (.iload 7, 2) := by decide +kernel
theorem dL_swaps_237 : decode cL_swaps 237 = .ok (.iaload, 1) := by decide +kernel
theorem dL_swaps_238 : decode cL_swaps 238 = .ok (.invokestatic 57, 3) := by decide +kernel
theorem dL_swaps_241 : decode cL_swaps 241 = .ok (.iinc 6 1, 3) := by decide +kernel
theorem dL_swaps_244 : decode cL_swaps 244 = .ok (.iinc 7 1, 3) := by decide +kernel
theorem dL_swaps_247 : decode cL_swaps 247 = .ok (.goto (-49), 3) := by decide +kernel
theorem dL_swaps_250 : decode cL_swaps 250 = .ok (.iload 6, 2) := by decide +kernel
theorem dL_swaps_252 : decode cL_swaps 252 = .ok (.ireturn, 1) := by decide +kernel
theorem dL_does_0 : decode cL_does 0 = .ok (.iload_n 1, 1) := by decide +kernel
theorem dL_does_1 : decode cL_does 1 = .ok (.ifCond .ne 12, 3) := by decide +kernel
theorem dL_does_4 : decode cL_does 4 = .ok (.aload_n 0, 1) := by decide +kernel
theorem dL_does_5 : decode cL_does 5 = .ok (.iload_n 2, 1) := by decide +kernel
theorem dL_does_6 : decode cL_does 6 = .ok (.iload_n 3, 1) := by decide +kernel
theorem dL_does_7 : decode cL_does 7 = .ok (.invokevirtual 79, 3) := by decide +kernel
theorem dL_does_10 : decode cL_does 10 = .ok (.goto 204, 3) := by decide +kernel
theorem dL_does_13 : decode cL_does 13 = .ok (.iload_n 1, 1) := by decide +kernel
theorem dL_does_14 : decode cL_does 14 = .ok (.iconst 1, 1) := by decide +kernel
theorem dL_does_15 : decode cL_does 15 = .ok (.if_icmp .ne 12, 3) := by decide +kernel
theorem dL_does_18 : decode cL_does 18 = .ok (.aload_n 0, 1) := by decide +kernel
theorem dL_does_19 : decode cL_does 19 = .ok (.iload_n 2, 1) := by decide +kernel
theorem dL_does_20 : decode cL_does 20 = .ok (.iload_n 3, 1) := by decide +kernel
theorem dL_does_21 : decode cL_does 21 = .ok (.invokevirtual 85, 3) := by decide +kernel
theorem dL_does_24 : decode cL_does 24 = .ok (.goto 190, 3) := by decide +kernel
theorem dL_does_27 : decode cL_does 27 = .ok (.iload_n 1, 1) := by decide +kernel
theorem dL_does_28 : decode cL_does 28 = .ok (.iconst 2, 1) := by decide +kernel
theorem dL_does_29 : decode cL_does 29 = .ok (.if_icmp .ne 12, 3) := by decide +kernel
theorem dL_does_32 : decode cL_does 32 = .ok (.aload_n 0, 1) := by decide +kernel
theorem dL_does_33 : decode cL_does 33 = .ok (.iload_n 2, 1) := by decide +kernel
theorem dL_does_34 : decode cL_does 34 = .ok (.iload_n 3, 1) := by decide +kernel
theorem dL_does_35 : decode cL_does 35 = .ok (.invokevirtual 88, 3) := by decide +kernel
theorem dL_does_38 : decode cL_does 38 = .ok (.goto 176, 3) := by decide +kernel
theorem dL_does_41 : decode cL_does 41 = .ok (.iload_n 1, 1) := by decide +kernel
theorem dL_does_42 : decode cL_does 42 = .ok (.iconst 3, 1) := by decide +kernel
theorem dL_does_43 : decode cL_does 43 = .ok (.if_icmp .ne 12, 3) := by decide +kernel
theorem dL_does_46 : decode cL_does 46 = .ok (.aload_n 0, 1) := by decide +kernel
theorem dL_does_47 : decode cL_does 47 = .ok (.iload_n 2, 1) := by decide +kernel
theorem dL_does_48 : decode cL_does 48 = .ok (.iload_n 3, 1) := by decide +kernel
theorem dL_does_49 : decode cL_does 49 = .ok (.invokevirtual 91, 3) := by decide +kernel
theorem dL_does_52 : decode cL_does 52 = .ok (.goto 162, 3) := by decide +kernel
theorem dL_does_55 : decode cL_does 55 = .ok (.iload_n 1, 1) := by decide +kernel
theorem dL_does_56 : decode cL_does 56 = .ok (.iconst 4, 1) := by decide +kernel
theorem dL_does_57 : decode cL_does 57 = .ok (.if_icmp .ne 12, 3) := by decide +kernel
theorem dL_does_60 : decode cL_does 60 = .ok (.aload_n 0, 1) := by decide +kernel
theorem dL_does_61 : decode cL_does 61 = .ok (.iload_n 2, 1) := by decide +kernel
theorem dL_does_62 : decode cL_does 62 = .ok (.iload_n 3, 1) := by decide +kernel
theorem dL_does_63 : decode cL_does 63 = .ok (.invokevirtual 94, 3) := by decide +kernel
theorem dL_does_66 : decode cL_does 66 = .ok (.goto 148, 3) := by decide +kernel
theorem dL_does_69 : decode cL_does 69 = .ok (.iload_n 1, 1) := by decide +kernel
theorem dL_does_70 : decode cL_does 70 = .ok (.iconst 5, 1) := by decide +kernel
theorem dL_does_71 : decode cL_does 71 = .ok (.if_icmp .ne 12, 3) := by decide +kernel
theorem dL_does_74 : decode cL_does 74 = .ok (.aload_n 0, 1) := by decide +kernel
theorem dL_does_75 : decode cL_does 75 = .ok (.iload_n 2, 1) := by decide +kernel
theorem dL_does_76 : decode cL_does 76 = .ok (.iload_n 3, 1) := by decide +kernel
theorem dL_does_77 : decode cL_does 77 = .ok (.invokevirtual 97, 3) := by decide +kernel
theorem dL_does_80 : decode cL_does 80 = .ok (.goto 134, 3) := by decide +kernel
theorem dL_does_83 : decode cL_does 83 = .ok (.iload_n 1, 1) := by decide +kernel
theorem dL_does_84 : decode cL_does 84 = .ok (.bipush 6, 2) := by decide +kernel
theorem dL_does_86 : decode cL_does 86 = .ok (.if_icmp .ne 12, 3) := by decide +kernel
theorem dL_does_89 : decode cL_does 89 = .ok (.aload_n 0, 1) := by decide +kernel
theorem dL_does_90 : decode cL_does 90 = .ok (.iload_n 2, 1) := by decide +kernel
theorem dL_does_91 : decode cL_does 91 = .ok (.iload_n 3, 1) := by decide +kernel
theorem dL_does_92 : decode cL_does 92 = .ok (.invokevirtual 100, 3) := by decide +kernel
theorem dL_does_95 : decode cL_does 95 = .ok (.goto 119, 3) := by decide +kernel
theorem dL_does_98 : decode cL_does 98 = .ok (.iload_n 1, 1) := by decide +kernel
theorem dL_does_99 : decode cL_does 99 = .ok (.bipush 7, 2) := by decide +kernel
theorem dL_does_101 : decode cL_does 101 = .ok (.if_icmp .ne 14, 3) := by decide +kernel
theorem dL_does_104 : decode cL_does 104 = .ok (.aload_n 0, 1) := by decide +kernel
theorem dL_does_105 : decode cL_does 105 = .ok (.iload_n 2, 1) := by decide +kernel
theorem dL_does_106 : decode cL_does 106 = .ok (.iload_n 3, 1) := by decide +kernel
theorem dL_does_107 : decode cL_does 107 = .ok (.iload 4, 2) := by decide +kernel
theorem dL_does_109 : decode cL_does 109 = .ok (.invokevirtual 103, 3) := by decide +kernel
theorem dL_does_112 : decode cL_does 112 = .ok (.goto 102, 3) := by decide +kernel
theorem dL_does_115 : decode cL_does 115 = .ok (.iload_n 1, 1) := by decide +kernel
theorem dL_does_116 : decode cL_does 116 = .ok (.bipush 8, 2) := by decide +kernel
theorem dL_does_118 : decode cL_does 118 = .ok (.if_icmp .ne 12, 3) := by decide +kernel
theorem dL_does_121 : decode cL_does 121 = .ok (.aload_n 0, 1) := by decide +kernel
theorem dL_does_122 : decode cL_does 122 = .ok (.iload_n 2, 1) := by decide +kernel
theorem dL_does_123 : decode cL_does 123 = .ok (.iload_n 3, 1) := by decide +kernel
theorem dL_does_124 : decode cL_does 124 = .ok (.invokevirtual 107, 3) := by decide +kernel
theorem dL_does_127 : decode cL_does 127 = .ok (.goto 87, 3) := by decide +kernel
theorem dL_does_130 : decode cL_does 130 = .ok (.iload_n 1, 1) := by decide +kernel
theorem dL_does_131 : decode cL_does 131 = .ok (.bipush 9, 2) := by decide +kernel
theorem dL_does_133 : decode cL_does 133 = .ok (.if_icmp .ne 20, 3) := by decide +kernel
theorem dL_does_136 : decode cL_does 136 = .ok (.aload_n 0, 1) := by decide +kernel
theorem dL_does_137 : decode cL_does 137 = .ok (.iload_n 2, 1) := by decide +kernel
theorem dL_does_138 : decode cL_does 138 = .ok (.iload_n 3, 1) := by decide +kernel
theorem dL_does_139 : decode cL_does 139 = .ok (.invokevirtual 110, 3) := by decide +kernel
theorem dL_does_142 : decode cL_does 142 = .ok (.ifCond .eq 7, 3) := by decide +kernel
theorem dL_does_145 : decode cL_does 145 = .ok (.iconst 1, 1) := by decide +kernel
theorem dL_does_146 : decode cL_does 146 = .ok (.goto 68, 3) := by decide +kernel
theorem dL_does_149 : decode cL_does 149 = .ok (.iconst 0, 1) := by decide +kernel
theorem dL_does_150 : decode cL_does 150 = .ok (.goto 64, 3) := by decide +kernel
theorem dL_does_153 : decode cL_does 153 = .ok (.iload_n 1, 1) := by decide +kernel
theorem dL_does_154 : decode cL_does 154 = .ok (.bipush 10, 2) := by decide +kernel
theorem dL_does_156 : decode cL_does 156 = .ok (.if_icmp .ne 11, 3) := by decide +kernel
theorem dL_does_159 : decode cL_does 159 = .ok (.aload_n 0, 1) := by decide +kernel
theorem dL_does_160 : decode cL_does 160 = .ok (.iload_n 2, 1) := by decide +kernel
theorem dL_does_161 : decode cL_does 161 = .ok (.invokevirtual 113, 3) := by decide +kernel
theorem dL_does_164 : decode cL_does 164 = .ok (.goto 50, 3) := by decide +kernel
theorem dL_does_167 : decode cL_does 167 = .ok (.iload_n 1, 1) := by decide +kernel
theorem dL_does_168 : decode cL_does 168 = .ok (.bipush 11, 2) := by decide +kernel
theorem dL_does_170 : decode cL_does 170 = .ok (.if_icmp .ne 11, 3) := by decide +kernel
theorem dL_does_173 : decode cL_does 173 = .ok (.aload_n 0, 1) := by decide +kernel
theorem dL_does_174 : decode cL_does 174 = .ok (.iload_n 2, 1) := by decide +kernel
theorem dL_does_175 : decode cL_does 175 = .ok (.invokevirtual 116, 3) := by decide +kernel
theorem dL_does_178 : decode cL_does 178 = .ok (.goto 36, 3) := by decide +kernel
theorem dL_does_181 : decode cL_does 181 = .ok (.iload_n 1, 1) := by decide +kernel
theorem dL_does_182 : decode cL_does 182 = .ok (.bipush 12, 2) := by decide +kernel
theorem dL_does_184 : decode cL_does 184 = .ok (.if_icmp .ne 12, 3) := by decide +kernel
theorem dL_does_187 : decode cL_does 187 = .ok (.aload_n 0, 1) := by decide +kernel
theorem dL_does_188 : decode cL_does 188 = .ok (.iload_n 2, 1) := by decide +kernel
theorem dL_does_189 : decode cL_does 189 = .ok (.iload_n 3, 1) := by decide +kernel
theorem dL_does_190 : decode cL_does 190 = .ok (.invokevirtual 119, 3) := by decide +kernel
theorem dL_does_193 : decode cL_does 193 = .ok (.goto 21, 3) := by decide +kernel
theorem dL_does_196 : decode cL_does 196 = .ok (.iload_n 1, 1) := by decide +kernel
theorem dL_does_197 : decode cL_does 197 = .ok (.bipush 13, 2) := by decide +kernel
theorem dL_does_199 : decode cL_does 199 = .ok (.if_icmp .ne 11, 3) := by decide +kernel
theorem dL_does_202 : decode cL_does 202 = .ok (.aload_n 0, 1) := by decide +kernel
theorem dL_does_203 : decode cL_does 203 = .ok (.iload_n 2, 1) := by decide +kernel
theorem dL_does_204 : decode cL_does 204 = .ok (.invokevirtual 122, 3) := by decide +kernel
theorem dL_does_207 : decode cL_does 207 = .ok (.goto 7, 3) := by decide +kernel
theorem dL_does_210 : decode cL_does 210 = .ok (.aload_n 0, 1) := by decide +kernel
theorem dL_does_211 : decode cL_does 211 = .ok (.invokevirtual 125, 3) := by decide +kernel
theorem dL_does_214 : decode cL_does 214 = .ok (.ireturn, 1) := by decide +kernel
theorem dL_does_215 : decode cL_does 215 = .ok (.astore 5, 2) := by decide +kernel
theorem dL_does_217 : decode cL_does 217 = .ok (.bipush (-13), 2) := by decide +kernel
theorem dL_does_219 : decode cL_does 219 = .ok (.ireturn, 1) := by decide +kernel
theorem dL_books_0 : decode cL_books 0 = .ok (.iload 4, 2) := by decide +kernel
theorem dL_books_2 : decode cL_books 2 = .ok (.tableswitch 364 0 13 #[70, 109, 119, 130, 139, 182, 193, 203, 216, 227, 275, 285, 295, 340], 70) := by decide +kernel
theorem dL_books_72 : decode cL_books 72 = .ok (.aload_n 0, 1) := by decide +kernel
theorem dL_books_73 : decode cL_books 73 = .ok (.bipush 8, 2) := by decide +kernel
theorem dL_books_75 : decode cL_books 75 = .ok (.iload 5, 2) := by decide +kernel
theorem dL_books_77 : decode cL_books 77 = .ok (.imul, 1) := by decide +kernel
theorem dL_books_78 : decode cL_books 78 = .ok (.iaload, 1) := by decide +kernel
theorem dL_books_79 : decode cL_books 79 = .ok (.istore 8, 2) := by decide +kernel
theorem dL_books_81 : decode cL_books 81 = .ok (.iload 6, 2) := by decide +kernel
theorem dL_books_83 : decode cL_books 83 = .ok (.iload 8, 2) := by decide +kernel
theorem dL_books_85 : decode cL_books 85 = .ok (.aload_n 0, 1) := by decide +kernel
theorem dL_books_86 : decode cL_books 86 = .ok (.aload_n 1, 1) := by decide +kernel
theorem dL_books_87 : decode cL_books 87 = .ok (.iload 5, 2) := by decide +kernel
theorem dL_books_89 : decode cL_books 89 = .ok (.invokestatic 33, 3) := by decide +kernel
theorem dL_books_92 : decode cL_books 92 = .ok (.isub, 1) := by decide +kernel
theorem dL_books_93 : decode cL_books 93 = .ok (.if_icmp .ge 6, 3) := by decide +kernel
theorem dL_books_96 : decode cL_books 96 = .ok (.bipush (-13), 2) := by decide +kernel
theorem dL_books_98 : decode cL_books 98 = .ok (.ireturn, 1) := by decide +kernel
theorem dL_books_99 : decode cL_books 99 = .ok (.aload_n 0, 1) := by decide +kernel
theorem dL_books_100 : decode cL_books 100 = .ok (.bipush 8, 2) := by decide +kernel
theorem dL_books_102 : decode cL_books 102 = .ok (.iload 5, 2) := by decide +kernel
theorem dL_books_104 : decode cL_books 104 = .ok (.imul, 1) := by decide +kernel
theorem dL_books_105 : decode cL_books 105 = .ok (.iload 6, 2) := by decide +kernel
theorem dL_books_107 : decode cL_books 107 = .ok (.iastore, 1) := by decide +kernel
theorem dL_books_108 : decode cL_books 108 = .ok (.iload 8, 2) := by decide +kernel
theorem dL_books_110 : decode cL_books 110 = .ok (.ireturn, 1) := by decide +kernel
theorem dL_books_111 : decode cL_books 111 = .ok (.aload_n 0, 1) := by decide +kernel
theorem dL_books_112 : decode cL_books 112 = .ok (.aload_n 3, 1) := by decide +kernel
theorem dL_books_113 : decode cL_books 113 = .ok (.iload 5, 2) := by decide +kernel
theorem dL_books_115 : decode cL_books 115 = .ok (.iload 6, 2) := by decide +kernel
theorem dL_books_117 : decode cL_books 117 = .ok (.invokestatic 131, 3) := by decide +kernel
theorem dL_books_120 : decode cL_books 120 = .ok (.ireturn, 1) := by decide +kernel
theorem dL_books_121 : decode cL_books 121 = .ok (.aload_n 0, 1) := by decide +kernel
theorem dL_books_122 : decode cL_books 122 = .ok (.aload_n 1, 1) := by decide +kernel
theorem dL_books_123 : decode cL_books 123 = .ok (.aload_n 2, 1) := by decide +kernel
theorem dL_books_124 : decode cL_books 124 = .ok (.iload 5, 2) := by decide +kernel
theorem dL_books_126 : decode cL_books 126 = .ok (.iload 6, 2) := by decide +kernel
theorem dL_books_128 : decode cL_books 128 = .ok (.invokestatic 134, 3) := by decide +kernel
theorem dL_books_131 : decode cL_books 131 = .ok (.ireturn, 1) := by decide +kernel
theorem dL_books_132 : decode cL_books 132 = .ok (.aload_n 1, 1) := by decide +kernel
theorem dL_books_133 : decode cL_books 133 = .ok (.iload 5, 2) := by decide +kernel
theorem dL_books_135 : decode cL_books 135 = .ok (.iload 6, 2) := by decide +kernel
theorem dL_books_137 : decode cL_books 137 = .ok (.invokestatic 138, 3) := by decide +kernel
theorem dL_books_140 : decode cL_books 140 = .ok (.ireturn, 1) := by decide +kernel
theorem dL_books_141 : decode cL_books 141 = .ok (.aload_n 1, 1) := by decide +kernel
theorem dL_books_142 : decode cL_books 142 = .ok (.bipush 8, 2) := by decide +kernel
theorem dL_books_144 : decode cL_books 144 = .ok (.iload 5, 2) := by decide +kernel
theorem dL_books_146 : decode cL_books 146 = .ok (.imul, 1) := by decide +kernel
theorem dL_books_147 : decode cL_books 147 = .ok (.iconst 4, 1) := by decide +kernel
theorem dL_books_148 : decode cL_books 148 = .ok (.iadd, 1) := by decide +kernel
theorem dL_books_149 : decode cL_books 149 = .ok (.iaload, 1) := by decide +kernel
theorem dL_books_150 : decode cL_books 150 = .ok (.i2l, 1) := by decide +kernel
theorem dL_books_151 : decode cL_books 151 = .ok (.iload 6, 2) := by decide +kernel
theorem dL_books_153 : decode cL_books 153 = .ok (.invokestatic 9, 3) := by decide +kernel
theorem dL_books_156 : decode cL_books 156 = .ok (.ifCond .ge 6, 3) := by decide +kernel
theorem dL_books_159 : decode cL_books 159 = .ok (.bipush (-13), 2) := by decide +kernel
theorem dL_books_161 : decode cL_books 161 = .ok (.ireturn, 1) := by decide +kernel
theorem dL_books_162 : decode cL_books 162 = .ok (.aload_n 1, 1) := by decide +kernel
theorem dL_books_163 : decode cL_books 163 = .ok (.iload 5, 2) := by decide +kernel
theorem dL_books_165 : decode cL_books 165 = .ok (.iload 6, 2) := by decide +kernel
theorem dL_books_167 : decode cL_books 167 = .ok (.invokestatic 45, 3) := by decide +kernel
theorem dL_books_170 : decode cL_books 170 = .ok (.aload_n 1, 1) := by decide +kernel
theorem dL_books_171 : decode cL_books 171 = .ok (.bipush 8, 2) := by decide +kernel
theorem dL_books_173 : decode cL_books 173 = .ok (.iload 5, 2) := by decide +kernel
theorem dL_books_175 : decode cL_books 175 = .ok (.imul, 1) := by decide +kernel
theorem dL_books_176 : decode cL_books 176 = .ok (.iconst 4, 1) := by decide +kernel
theorem dL_books_177 : decode cL_books 177 = .ok (.iadd, 1) := by decide +kernel
theorem dL_books_178 : decode cL_books 178 = .ok (.iaload, 1) := by decide +kernel
theorem dL_books_179 : decode cL_books 179 = .ok (.i2l, 1) := by decide +kernel
theorem dL_books_180 : decode cL_books 180 = .ok (.invokestatic 53, 3) := by decide +kernel
theorem dL_books_183 : decode cL_books 183 = .ok (.ireturn, 1) := by decide +kernel
theorem dL_books_184 : decode cL_books 184 = .ok (.aload_n 0, 1) := by decide +kernel
theorem dL_books_185 : decode cL_books 185 = .ok (.aload_n 1, 1) := by decide +kernel
theorem dL_books_186 : decode cL_books 186 = .ok (.aload_n 2, 1) := by decide +kernel
theorem dL_books_187 : decode cL_books 187 = .ok (.iload 5, 2) := by decide +kernel
theorem dL_books_189 : decode cL_books 189 = .ok (.iload 6, 2) := by decide +kernel
theorem dL_books_191 : decode cL_books 191 = .ok (.invokestatic 142, 3) := by decide +kernel
theorem dL_books_194 : decode cL_books 194 = .ok (.ireturn, 1) := by decide +kernel
theorem dL_books_195 : decode cL_books 195 = .ok (.aload_n 0, 1) := by decide +kernel
theorem dL_books_196 : decode cL_books 196 = .ok (.aload_n 1, 1) := by decide +kernel
theorem dL_books_197 : decode cL_books 197 = .ok (.iload 5, 2) := by decide +kernel
theorem dL_books_199 : decode cL_books 199 = .ok (.iload 6, 2) := by decide +kernel
theorem dL_books_201 : decode cL_books 201 = .ok (.invokestatic 145, 3) := by decide +kernel
theorem dL_books_204 : decode cL_books 204 = .ok (.ireturn, 1) := by decide +kernel
theorem dL_books_205 : decode cL_books 205 = .ok (.aload_n 0, 1) := by decide +kernel
theorem dL_books_206 : decode cL_books 206 = .ok (.aload_n 1, 1) := by decide +kernel
theorem dL_books_207 : decode cL_books 207 = .ok (.aload_n 2, 1) := by decide +kernel
theorem dL_books_208 : decode cL_books 208 = .ok (.iload 5, 2) := by decide +kernel
theorem dL_books_210 : decode cL_books 210 = .ok (.iload 6, 2) := by decide +kernel
theorem dL_books_212 : decode cL_books 212 = .ok (.iload 7, 2) := by decide +kernel
theorem dL_books_214 : decode cL_books 214 = .ok (.invokestatic 148, 3) := by decide +kernel
theorem dL_books_217 : decode cL_books 217 = .ok (.ireturn, 1) := by decide +kernel
theorem dL_books_218 : decode cL_books 218 = .ok (.aload_n 0, 1) := by decide +kernel
theorem dL_books_219 : decode cL_books 219 = .ok (.aload_n 1, 1) := by decide +kernel
theorem dL_books_220 : decode cL_books 220 = .ok (.aload_n 2, 1) := by decide +kernel
theorem dL_books_221 : decode cL_books 221 = .ok (.iload 5, 2) := by decide +kernel
theorem dL_books_223 : decode cL_books 223 = .ok (.iload 6, 2) := by decide +kernel
theorem dL_books_225 : decode cL_books 225 = .ok (.invokestatic 152, 3) := by decide +kernel
theorem dL_books_228 : decode cL_books 228 = .ok (.ireturn, 1) := by decide +kernel
theorem dL_books_229 : decode cL_books 229 = .ok (.aload_n 2, 1) := by decide +kernel
theorem dL_books_230 : decode cL_books 230 = .ok (.iload 6, 2) := by decide +kernel
theorem dL_books_232 : decode cL_books 232 = .ok (.laload, 1) := by decide +kernel
theorem dL_books_233 : decode cL_books 233 = .ok (.iload 5, 2) := by decide +kernel
theorem dL_books_235 : decode cL_books 235 = .ok (.invokestatic 9, 3) := by decide +kernel
theorem dL_books_238 : decode cL_books 238 = .ok (.ifCond .ge 6, 3) := by decide +kernel
theorem dL_books_241 : decode cL_books 241 = .ok (.bipush (-13), 2) := by decide +kernel
theorem dL_books_243 : decode cL_books 243 = .ok (.ireturn, 1) := by decide +kernel
theorem dL_books_244 : decode cL_books 244 = .ok (.aload_n 0, 1) := by decide +kernel
theorem dL_books_245 : decode cL_books 245 = .ok (.iload 6, 2) := by decide +kernel
theorem dL_books_247 : decode cL_books 247 = .ok (.invokestatic 26, 3) := by decide +kernel
theorem dL_books_250 : decode cL_books 250 = .ok (.iload 5, 2) := by decide +kernel
theorem dL_books_252 : decode cL_books 252 = .ok (.invokestatic 15, 3) := by decide +kernel
theorem dL_books_255 : decode cL_books 255 = .ok (.ifCond .eq 7, 3) := by decide +kernel
theorem dL_books_258 : decode cL_books 258 = .ok (.iconst 1, 1) := by decide +kernel
theorem dL_books_259 : decode cL_books 259 = .ok (.goto 4, 3) := by decide +kernel
theorem dL_books_262 : decode cL_books 262 = .ok (.iconst 0, 1) := by decide +kernel
theorem dL_books_263 : decode cL_books 263 = .ok (.istore 8, 2) := by decide +kernel
theorem dL_books_265 : decode cL_books 265 = .ok (.aload_n 0, 1) := by decide +kernel
theorem dL_books_266 : decode cL_books 266 = .ok (.aload_n 2, 1) := by decide +kernel
theorem dL_books_267 : decode cL_books 267 = .ok (.iload 5, 2) := by decide +kernel
theorem dL_books_269 : decode cL_books 269 = .ok (.iload 6, 2) := by decide +kernel
theorem dL_books_271 : decode cL_books 271 = .ok (.invokestatic 49, 3) := by decide +kernel
theorem dL_books_274 : decode cL_books 274 = .ok (.iload 8, 2) := by decide +kernel
theorem dL_books_276 : decode cL_books 276 = .ok (.ireturn, 1) := by decide +kernel
theorem dL_books_277 : decode cL_books 277 = .ok (.aload_n 0, 1) := by decide +kernel
theorem dL_books_278 : decode cL_books 278 = .ok (.aload_n 1, 1) := by decide +kernel
theorem dL_books_279 : decode cL_books 279 = .ok (.aload_n 2, 1) := by decide +kernel
theorem dL_books_280 : decode cL_books 280 = .ok (.aload_n 3, 1) := by decide +kernel
theorem dL_books_281 : decode cL_books 281 = .ok (.iload 5, 2) := by decide +kernel
theorem dL_books_283 : decode cL_books 283 = .ok (.invokestatic 155, 3) := by decide +kernel
theorem dL_books_286 : decode cL_books 286 = .ok (.ireturn, 1) := by decide +kernel
theorem dL_books_287 : decode cL_books 287 = .ok (.aload_n 0, 1) := by decide +kernel
theorem dL_books_288 : decode cL_books 288 = .ok (.aload_n 1, 1) := by decide +kernel
theorem dL_books_289 : decode cL_books 289 = .ok (.aload_n 2, 1) := by decide +kernel
theorem dL_books_290 : decode cL_books 290 = .ok (.aload_n 3, 1) := by decide +kernel
theorem dL_books_291 : decode cL_books 291 = .ok (.iload 5, 2) := by decide +kernel
theorem dL_books_293 : decode cL_books 293 = .ok (.invokestatic 159, 3) := by decide +kernel
theorem dL_books_296 : decode cL_books 296 = .ok (.ireturn, 1) := by decide +kernel
theorem dL_books_297 : decode cL_books 297 = .ok (.aload_n 1, 1) := by decide +kernel
theorem dL_books_298 : decode cL_books 298 = .ok (.bipush 8, 2) := by decide +kernel
theorem dL_books_300 : decode cL_books 300 = .ok (.iload 5, 2) := by decide +kernel
theorem dL_books_302 : decode cL_books 302 = .ok (.imul, 1) := by decide +kernel
theorem dL_books_303 : decode cL_books 303 = .ok (.iconst 3, 1) := by decide +kernel
theorem dL_books_304 : decode cL_books 304 = .ok (.iadd, 1) := by decide +kernel
theorem dL_books_305 : decode cL_books 305 = .ok (.iaload, 1) := by decide +kernel
theorem dL_books_306 : decode cL_books 306 = .ok (.iload 6, 2) := by decide +kernel
theorem dL_books_308 : decode cL_books 308 = .ok (.invokestatic 15, 3) := by decide +kernel
theorem dL_books_311 : decode cL_books 311 = .ok (.ifCond .ne 6, 3) := by decide +kernel
theorem dL_books_314 : decode cL_books 314 = .ok (.bipush (-13), 2) := by decide +kernel
theorem dL_books_316 : decode cL_books 316 = .ok (.ireturn, 1) := by decide +kernel
theorem dL_books_317 : decode cL_books 317 = .ok (.aload_n 1, 1) := by decide +kernel
theorem dL_books_318 : decode cL_books 318 = .ok (.bipush 8, 2) := by decide +kernel
theorem dL_books_320 : decode cL_books 320 = .ok (.iload 5, 2) := by decide +kernel
theorem dL_books_322 : decode cL_books 322 = .ok (.imul, 1) := by decide +kernel
theorem dL_books_323 : decode cL_books 323 = .ok (.iconst 5, 1) := by decide +kernel
theorem dL_books_324 : decode cL_books 324 = .ok (.iadd, 1) := by decide +kernel
theorem dL_books_325 : decode cL_books 325 = .ok (.iaload, 1) := by decide +kernel
theorem dL_books_326 : decode cL_books 326 = .ok (.istore 8, 2) := by decide +kernel
theorem dL_books_328 : decode cL_books 328 = .ok (.aload_n 1, 1) := by decide +kernel
theorem dL_books_329 : decode cL_books 329 = .ok (.bipush 8, 2) := by decide +kernel
theorem dL_books_331 : decode cL_books 331 = .ok (.iload 5, 2) := by decide +kernel
theorem dL_books_333 : decode cL_books 333 = .ok (.imul, 1) := by decide +kernel
theorem dL_books_334 : decode cL_books 334 = .ok (.iconst 5, 1) := by decide +kernel
theorem dL_books_335 : decode cL_books 335 = .ok (.iadd, 1) := by decide +kernel
theorem dL_books_336 : decode cL_books 336 = .ok (.iload 6, 2) := by decide +kernel
theorem dL_books_338 : decode cL_books 338 = .ok (.iastore, 1) := by decide +kernel
theorem dL_books_339 : decode cL_books 339 = .ok (.iload 8, 2) := by decide +kernel
theorem dL_books_341 : decode cL_books 341 = .ok (.ireturn, 1) := by decide +kernel
theorem dL_books_342 : decode cL_books 342 = .ok (.aload_n 1, 1) := by decide +kernel
theorem dL_books_343 : decode cL_books 343 = .ok (.bipush 8, 2) := by decide +kernel
theorem dL_books_345 : decode cL_books 345 = .ok (.iload 5, 2) := by decide +kernel
theorem dL_books_347 : decode cL_books 347 = .ok (.imul, 1) := by decide +kernel
theorem dL_books_348 : decode cL_books 348 = .ok (.iconst 5, 1) := by decide +kernel
theorem dL_books_349 : decode cL_books 349 = .ok (.iadd, 1) := by decide +kernel
theorem dL_books_350 : decode cL_books 350 = .ok (.iaload, 1) := by decide +kernel
theorem dL_books_351 : decode cL_books 351 = .ok (.istore 8, 2) := by decide +kernel
theorem dL_books_353 : decode cL_books 353 = .ok (.aload_n 1, 1) := by decide +kernel
theorem dL_books_354 : decode cL_books 354 = .ok (.bipush 8, 2) := by decide +kernel
theorem dL_books_356 : decode cL_books 356 = .ok (.iload 5, 2) := by decide +kernel
theorem dL_books_358 : decode cL_books 358 = .ok (.imul, 1) := by decide +kernel
theorem dL_books_359 : decode cL_books 359 = .ok (.iconst 5, 1) := by decide +kernel
theorem dL_books_360 : decode cL_books 360 = .ok (.iadd, 1) := by decide +kernel
theorem dL_books_361 : decode cL_books 361 = .ok (.iconst (-1), 1) := by decide +kernel
theorem dL_books_362 : decode cL_books 362 = .ok (.iastore, 1) := by decide +kernel
theorem dL_books_363 : decode cL_books 363 = .ok (.iload 8, 2) := by decide +kernel
theorem dL_books_365 : decode cL_books 365 = .ok (.ireturn, 1) := by decide +kernel
theorem dL_books_366 : decode cL_books 366 = .ok (.aload_n 0, 1) := by decide +kernel
theorem dL_books_367 : decode cL_books 367 = .ok (.aload_n 1, 1) := by decide +kernel
theorem dL_books_368 : decode cL_books 368 = .ok (.aload_n 2, 1) := by decide +kernel
theorem dL_books_369 : decode cL_books 369 = .ok (.aload_n 3, 1) := by decide +kernel
theorem dL_books_370 : decode cL_books 370 = .ok (.invokestatic 162, 3) := by decide +kernel
theorem dL_books_373 : decode cL_books 373 = .ok (.ireturn, 1) := by decide +kernel
theorem dL_level_0 : decode cL_level 0 = .ok (.iconst 0, 1) := by decide +kernel
theorem dL_level_1 : decode cL_level 1 = .ok (.istore_n 2, 1) := by decide +kernel
theorem dL_level_2 : decode cL_level 2 = .ok (.iconst 0, 1) := by decide +kernel
theorem dL_level_3 : decode cL_level 3 = .ok (.istore_n 3, 1) := by decide +kernel
theorem dL_level_4 : decode cL_level 4 = .ok (.iload_n 2, 1) := by decide +kernel
theorem dL_level_5 : decode cL_level 5 = .ok (.iload_n 1, 1) := by decide +kernel
theorem dL_level_6 : decode cL_level 6 = .ok (.invokestatic 15, 3) := by decide +kernel
theorem dL_level_9 : decode cL_level 9 = .ok (.ifCond .ne 60, 3) := by decide +kernel
theorem dL_level_12 : decode cL_level 12 = .ok (.iload_n 2, 1) := by decide +kernel
theorem dL_level_13 : decode cL_level 13 = .ok (.istore 4, 2) := by decide +kernel
theorem dL_level_15 : decode cL_level 15 = .ok (.iconst 0, 1) := by decide +kernel
theorem dL_level_16 : decode cL_level 16 = .ok (.istore 5, 2) := by decide +kernel
theorem dL_level_18 : decode cL_level 18 = .ok (.iload 5, 2) := by decide +kernel
theorem dL_level_20 : decode cL_level 20 = .ok (.bipush 8, 2) := by decide +kernel
theorem dL_level_22 : decode cL_level 22 = .ok (.if_icmp .ge 38, 3) := by decide +kernel
theorem dL_level_25 : decode cL_level 25 = .ok (.iload 4, 2) := by decide +kernel
theorem dL_level_27 : decode cL_level 27 = .ok (.aload_n 0, 1) := by decide +kernel
theorem dL_level_28 : decode cL_level 28 = .ok (.bipush 8, 2) := by decide +kernel
theorem dL_level_30 : decode cL_level 30 = .ok (.iload 5, 2) := by decide +kernel
theorem dL_level_32 : decode cL_level 32 = .ok (.imul, 1) := by decide +kernel
theorem dL_level_33 : decode cL_level 33 = .ok (.iconst 3, 1) := by decide +kernel
theorem dL_level_34 : decode cL_level 34 = .ok (.iadd, 1) := by decide +kernel
theorem dL_level_35 : decode cL_level 35 = .ok (.iaload, 1) := by decide +kernel
theorem dL_level_36 : decode cL_level 36 = .ok (.iload_n 2, 1) := by decide +kernel
theorem dL_level_37 : decode cL_level 37 = .ok (.iconst (-1), 1) := by decide +kernel
theorem dL_level_38 : decode cL_level 38 = .ok (.ixor, 1) := by decide +kernel
theorem dL_level_39 : decode cL_level 39 = .ok (.iand, 1) := by decide +kernel
theorem dL_level_40 : decode cL_level 40 = .ok (.ifCond .ne 10, 3) := by decide +kernel
theorem dL_level_43 : decode cL_level 43 = .ok (.iconst 1, 1) := by decide +kernel
theorem dL_level_44 : decode cL_level 44 = .ok (.iload 5, 2) := by decide +kernel
theorem dL_level_46 : decode cL_level 46 = .ok (.ishl, 1) := by decide +kernel
theorem dL_level_47 : decode cL_level 47 = .ok (.goto 4, 3) := by decide +kernel
theorem dL_level_50 : decode cL_level 50 = .ok (.iconst 0, 1) := by decide +kernel
theorem dL_level_51 : decode cL_level 51 = .ok (.ior, 1) := by decide +kernel
theorem dL_level_52 : decode cL_level 52 = .ok (.istore 4, 2) := by decide +kernel
theorem dL_level_54 : decode cL_level 54 = .ok (.iinc 5 1, 3) := by decide +kernel
theorem dL_level_57 : decode cL_level 57 = .ok (.goto (-39), 3) := by decide +kernel
theorem dL_level_60 : decode cL_level 60 = .ok (.iload 4, 2) := by decide +kernel
theorem dL_level_62 : decode cL_level 62 = .ok (.istore_n 2, 1) := by decide +kernel
theorem dL_level_63 : decode cL_level 63 = .ok (.iinc 3 1, 3) := by decide +kernel
theorem dL_level_66 : decode cL_level 66 = .ok (.goto (-62), 3) := by decide +kernel
theorem dL_level_69 : decode cL_level 69 = .ok (.iload_n 3, 1) := by decide +kernel
theorem dL_level_70 : decode cL_level 70 = .ok (.iconst 1, 1) := by decide +kernel
theorem dL_level_71 : decode cL_level 71 = .ok (.isub, 1) := by decide +kernel
theorem dL_level_72 : decode cL_level 72 = .ok (.ireturn, 1) := by decide +kernel
theorem dL_areCourses_0 : decode cL_areCourses 0 = .ok (.aload_n 0, 1) := by decide +kernel
theorem dL_areCourses_1 : decode cL_areCourses 1 = .ok (.invokevirtual 166, 3) := by decide +kernel
theorem dL_areCourses_4 : decode cL_areCourses 4 = .ok (.aload 4, 2) := by decide +kernel
theorem dL_areCourses_6 : decode cL_areCourses 6 = .ok (.iconst 0, 1) := by decide +kernel
theorem dL_areCourses_7 : decode cL_areCourses 7 = .ok (.iaload, 1) := by decide +kernel
theorem dL_areCourses_8 : decode cL_areCourses 8 = .ok (.if_icmp .ne 29, 3) := by decide +kernel
theorem dL_areCourses_11 : decode cL_areCourses 11 = .ok (.aload_n 0, 1) := by decide +kernel
theorem dL_areCourses_12 : decode cL_areCourses 12 = .ok (.invokevirtual 169, 3) := by decide +kernel
theorem dL_areCourses_15 : decode cL_areCourses 15 = .ok (.aload 4, 2) := by decide +kernel
theorem dL_areCourses_17 : decode cL_areCourses 17 = .ok (.iconst 1, 1) := by decide +kernel
theorem dL_areCourses_18 : decode cL_areCourses 18 = .ok (.iaload, 1) := by decide +kernel
theorem dL_areCourses_19 : decode cL_areCourses 19 = .ok (.if_icmp .ne 18, 3) := by decide +kernel
theorem dL_areCourses_22 : decode cL_areCourses 22 = .ok (.aload_n 0, 1) := by decide +kernel
theorem dL_areCourses_23 : decode cL_areCourses 23 = .ok (.invokevirtual 172, 3) := by decide +kernel
theorem dL_areCourses_26 : decode cL_areCourses 26 = .ok (.aload 4, 2) := by decide +kernel
theorem dL_areCourses_28 : decode cL_areCourses 28 = .ok (.iconst 2, 1) := by decide +kernel
theorem dL_areCourses_29 : decode cL_areCourses 29 = .ok (.iaload, 1) := by decide +kernel
theorem dL_areCourses_30 : decode cL_areCourses 30 = .ok (.if_icmp .ne 7, 3) := by decide +kernel
theorem dL_areCourses_33 : decode cL_areCourses 33 = .ok (.iconst 1, 1) := by decide +kernel
theorem dL_areCourses_34 : decode cL_areCourses 34 = .ok (.goto 4, 3) := by decide +kernel
theorem dL_areCourses_37 : decode cL_areCourses 37 = .ok (.iconst 0, 1) := by decide +kernel
theorem dL_areCourses_38 : decode cL_areCourses 38 = .ok (.istore 5, 2) := by decide +kernel
theorem dL_areCourses_40 : decode cL_areCourses 40 = .ok (.iconst 0, 1) := by decide +kernel
theorem dL_areCourses_41 : decode cL_areCourses 41 = .ok (.istore 6, 2) := by decide +kernel
theorem dL_areCourses_43 : decode cL_areCourses 43 = .ok (.iload 6, 2) := by decide +kernel
theorem dL_areCourses_45 : decode cL_areCourses 45 = .ok (.aload 4, 2) := by decide +kernel
theorem dL_areCourses_47 : decode cL_areCourses 47 = .ok (.iconst 0, 1) := by decide +kernel
theorem dL_areCourses_48 : decode cL_areCourses 48 = .ok (.iaload, 1) := by decide +kernel
theorem dL_areCourses_49 : decode cL_areCourses 49 = .ok (.if_icmp .ge 143, 3) := by decide +kernel
theorem dL_areCourses_52 : decode cL_areCourses 52 = .ok (.iload 5, 2) := by decide +kernel
theorem dL_areCourses_54 : decode cL_areCourses 54 = .ok (.ifCond .eq 138, 3) := by decide +kernel
theorem dL_areCourses_57 : decode cL_areCourses 57 = .ok (.aload_n 0, 1) := by decide +kernel
theorem dL_areCourses_58 : decode cL_areCourses 58 = .ok (.iload 6, 2) := by decide +kernel
theorem dL_areCourses_60 : decode cL_areCourses 60 = .ok (.invokevirtual 175, 3) := by decide +kernel
theorem dL_areCourses_63 : decode cL_areCourses 63 = .ok (.aload_n 2, 1) := by decide +kernel
theorem dL_areCourses_64 : decode cL_areCourses 64 = .ok (.iload 6, 2) := by decide +kernel
theorem dL_areCourses_66 : decode cL_areCourses 66 = .ok (.invokestatic 23, 3) := by decide +kernel
theorem dL_areCourses_69 : decode cL_areCourses 69 = .ok (.if_icmp .ne 54, 3) := by decide +kernel
theorem dL_areCourses_72 : decode cL_areCourses 72 = .ok (.aload_n 0, 1) := by decide +kernel
theorem dL_areCourses_73 : decode cL_areCourses 73 = .ok (.iload 6, 2) := by decide +kernel
theorem dL_areCourses_75 : decode cL_areCourses 75 = .ok (.invokevirtual 178, 3) := by decide +kernel
theorem dL_areCourses_78 : decode cL_areCourses 78 = .ok (.aload_n 1, 1) := by decide +kernel
theorem dL_areCourses_79 : decode cL_areCourses 79 = .ok (.aload_n 2, 1) := by decide +kernel
theorem dL_areCourses_80 : decode cL_areCourses 80 = .ok (.iload 6, 2) := by decide +kernel
theorem dL_areCourses_82 : decode cL_areCourses 82 = .ok (.invokestatic 33, 3) := by decide +kernel
theorem dL_areCourses_85 : decode cL_areCourses 85 = .ok (.if_icmp .ne 38, 3) := by decide +kernel
theorem dL_areCourses_88 : decode cL_areCourses 88 = .ok (.aload_n 0, 1) := by decide +kernel
theorem dL_areCourses_89 : decode cL_areCourses 89 = .ok (.iload 6, 2) := by decide +kernel
theorem dL_areCourses_91 : decode cL_areCourses 91 = .ok (.invokevirtual 181, 3) := by decide +kernel
theorem dL_areCourses_94 : decode cL_areCourses 94 = .ok (.aload_n 1, 1) := by decide +kernel
theorem dL_areCourses_95 : decode cL_areCourses 95 = .ok (.iload 6, 2) := by decide +kernel
theorem dL_areCourses_97 : decode cL_areCourses 97 = .ok (.invokestatic 184, 3) := by decide +kernel
theorem dL_areCourses_100 : decode cL_areCourses 100 = .ok (.if_icmp .ne 23, 3) := by decide +kernel
theorem dL_areCourses_103 : decode cL_areCourses 103 = .ok (.aload_n 0, 1) := by decide +kernel
theorem dL_areCourses_104 : decode cL_areCourses 104 = .ok (.iload 6, 2) := by decide +kernel
theorem dL_areCourses_106 : decode cL_areCourses 106 = .ok (.invokevirtual 186, 3) := by decide +kernel
theorem dL_areCourses_109 : decode cL_areCourses 109 = .ok (.aload_n 3, 1) := by decide +kernel
theorem dL_areCourses_110 : decode cL_areCourses 110 = .ok (.iload 6, 2) := by decide +kernel
theorem dL_areCourses_112 : decode cL_areCourses 112 = .ok (.laload, 1) := by decide +kernel
theorem dL_areCourses_113 : decode cL_areCourses 113 = .ok (.invokestatic 53, 3) := by decide +kernel
theorem dL_areCourses_116 : decode cL_areCourses 116 = .ok (.if_icmp .ne 7, 3) := by decide +kernel
theorem dL_areCourses_119 : decode cL_areCourses 119 = .ok (.iconst 1, 1) := by decide +kernel
theorem dL_areCourses_120 : decode cL_areCourses 120 = .ok (.goto 4, 3) := by decide +kernel
theorem dL_areCourses_123 : decode cL_areCourses 123 = .ok (.iconst 0, 1) := by decide +kernel
theorem dL_areCourses_124 : decode cL_areCourses 124 = .ok (.istore 5, 2) := by decide +kernel
theorem dL_areCourses_126 : decode cL_areCourses 126 = .ok (.iconst 0, 1) := by decide +kernel
theorem dL_areCourses_127 : decode cL_areCourses 127 = .ok (.istore 7, 2) := by decide +kernel
theorem dL_areCourses_129 : decode cL_areCourses 129 = .ok (.iload 7, 2) := by decide +kernel
theorem dL_areCourses_131 : decode cL_areCourses 131 = .ok (.aload_n 3, 1) := by decide +kernel
theorem dL_areCourses_132 : decode cL_areCourses 132 = .ok (.iload 6, 2) := by decide +kernel
theorem dL_areCourses_134 : decode cL_areCourses 134 = .ok (.laload, 1) := by decide +kernel
theorem dL_areCourses_135 : decode cL_areCourses 135 = .ok (.invokestatic 53, 3) := by decide +kernel
theorem dL_areCourses_138 : decode cL_areCourses 138 = .ok (.if_icmp .ge 48, 3) := by decide +kernel
theorem dL_areCourses_141 : decode cL_areCourses 141 = .ok (.iload 5, 2) := by decide +kernel
theorem dL_areCourses_143 : decode cL_areCourses 143 = .ok (.ifCond .eq 43, 3) := by decide +kernel
theorem dL_areCourses_146 : decode cL_areCourses 146 = .ok (.aload_n 0, 1) := by decide +kernel
theorem dL_areCourses_147 : decode cL_areCourses 147 = .ok (.iload 6, 2) := by decide +kernel
theorem dL_areCourses_149 : decode cL_areCourses 149 = .ok (.iload 7, 2) := by decide +kernel
theorem dL_areCourses_151 : decode cL_areCourses 151 = .ok (.invokevirtual 189, 3) := by decide +kernel
theorem dL_areCourses_154 : decode cL_areCourses 154 = .ok (.aload_n 3, 1) := by decide +kernel
theorem dL_areCourses_155 : decode cL_areCourses 155 = .ok (.iload 6, 2) := by decide +kernel
theorem dL_areCourses_157 : decode cL_areCourses 157 = .ok (.laload, 1) := by decide +kernel
theorem dL_areCourses_158 : decode cL_areCourses 158 = .ok (.iconst 4, 1) := by decide +kernel
theorem dL_areCourses_159 : decode cL_areCourses 159 = .ok (.iload 7, 2) := by decide +kernel
theorem dL_areCourses_161 : decode cL_areCourses 161 = .ok (.imul, 1) := by decide +kernel
theorem dL_areCourses_162 : decode cL_areCourses 162 = .ok (.lushr, 1) := by decide +kernel
theorem dL_areCourses_163 : decode cL_areCourses 163 = .ok (.ldc2_w 7, 3) := by decide +kernel
theorem dL_areCourses_166 : decode cL_areCourses 166 = .ok (.land, 1) := by decide +kernel
theorem dL_areCourses_167 : decode cL_areCourses 167 = .ok (.l2i, 1) := by decide +kernel
theorem dL_areCourses_168 : decode cL_areCourses 168 = .ok (.iconst 1, 1) := by decide +kernel
theorem dL_areCourses_169 : decode cL_areCourses 169 = .ok (.isub, 1) := by decide +kernel
theorem dL_areCourses_170 : decode cL_areCourses 170 = .ok (.if_icmp .ne 7, 3) := by decide +kernel
theorem dL_areCourses_173 : decode cL_areCourses 173 = .ok (.iconst 1, 1) := by decide +kernel
theorem dL_areCourses_174 : decode cL_areCourses 174 = .ok (.goto 4, 3) := by decide +kernel
theorem dL_areCourses_177 : decode cL_areCourses 177 = .ok (.iconst 0, 1) := by decide +kernel
theorem dL_areCourses_178 : decode cL_areCourses 178 = .ok (.istore 5, 2) := by decide +kernel
theorem dL_areCourses_180 : decode cL_areCourses 180 = .ok (.iinc 7 1, 3) := by decide +kernel
theorem dL_areCourses_183 : decode cL_areCourses 183 = .ok (.goto (-54), 3) := by decide +kernel
theorem dL_areCourses_186 : decode cL_areCourses 186 = .ok (.iinc 6 1, 3) := by decide +kernel
theorem dL_areCourses_189 : decode cL_areCourses 189 = .ok (.goto (-146), 3) := by decide +kernel
theorem dL_areCourses_192 : decode cL_areCourses 192 = .ok (.iload 5, 2) := by decide +kernel
theorem dL_areCourses_194 : decode cL_areCourses 194 = .ok (.ireturn, 1) := by decide +kernel
theorem dL_areStudents_0 : decode cL_areStudents 0 = .ok (.iconst 1, 1) := by decide +kernel
theorem dL_areStudents_1 : decode cL_areStudents 1 = .ok (.istore 4, 2) := by decide +kernel
theorem dL_areStudents_3 : decode cL_areStudents 3 = .ok (.iconst 0, 1) := by decide +kernel
theorem dL_areStudents_4 : decode cL_areStudents 4 = .ok (.istore 5, 2) := by decide +kernel
theorem dL_areStudents_6 : decode cL_areStudents 6 = .ok (.iconst 0, 1) := by decide +kernel
theorem dL_areStudents_7 : decode cL_areStudents 7 = .ok (.istore 6, 2) := by decide +kernel
theorem dL_areStudents_9 : decode cL_areStudents 9 = .ok (.iload 6, 2) := by decide +kernel
theorem dL_areStudents_11 : decode cL_areStudents 11 = .ok (.aload_n 3, 1) := by decide +kernel
theorem dL_areStudents_12 : decode cL_areStudents 12 = .ok (.iconst 1, 1) := by decide +kernel
theorem dL_areStudents_13 : decode cL_areStudents 13 = .ok (.iaload, 1) := by decide +kernel
theorem dL_areStudents_14 : decode cL_areStudents 14 = .ok (.if_icmp .ge 34, 3) := by decide +kernel
theorem dL_areStudents_17 : decode cL_areStudents 17 = .ok (.iload 5, 2) := by decide +kernel
theorem dL_areStudents_19 : decode cL_areStudents 19 = .ok (.aload_n 2, 1) := by decide +kernel
theorem dL_areStudents_20 : decode cL_areStudents 20 = .ok (.bipush 8, 2) := by decide +kernel
theorem dL_areStudents_22 : decode cL_areStudents 22 = .ok (.iload 6, 2) := by decide +kernel
theorem dL_areStudents_24 : decode cL_areStudents 24 = .ok (.imul, 1) := by decide +kernel
theorem dL_areStudents_25 : decode cL_areStudents 25 = .ok (.iconst 5, 1) := by decide +kernel
theorem dL_areStudents_26 : decode cL_areStudents 26 = .ok (.iadd, 1) := by decide +kernel
theorem dL_areStudents_27 : decode cL_areStudents 27 = .ok (.iaload, 1) := by decide +kernel
theorem dL_areStudents_28 : decode cL_areStudents 28 = .ok (.ifCond .lt 10, 3) := by decide +kernel
theorem dL_areStudents_31 : decode cL_areStudents 31 = .ok (.iconst 1, 1) := by decide +kernel
theorem dL_areStudents_32 : decode cL_areStudents 32 = .ok (.iload 6, 2) := by decide +kernel
theorem dL_areStudents_34 : decode cL_areStudents 34 = .ok (.ishl, 1) := by decide +kernel
theorem dL_areStudents_35 : decode cL_areStudents 35 = .ok (.goto 4, 3) := by decide +kernel
theorem dL_areStudents_38 : decode cL_areStudents 38 = .ok (.iconst 0, 1) := by decide +kernel
theorem dL_areStudents_39 : decode cL_areStudents 39 = .ok (.ior, 1) := by decide +kernel
theorem dL_areStudents_40 : decode cL_areStudents 40 = .ok (.istore 5, 2) := by decide +kernel
theorem dL_areStudents_42 : decode cL_areStudents 42 = .ok (.iinc 6 1, 3) := by decide +kernel
theorem dL_areStudents_45 : decode cL_areStudents 45 = .ok (.goto (-36), 3) := by decide +kernel
theorem dL_areStudents_48 : decode cL_areStudents 48 = .ok (.iconst 0, 1) := by decide +kernel
theorem dL_areStudents_49 : decode cL_areStudents 49 = .ok (.istore 6, 2) := by decide +kernel
theorem dL_areStudents_51 : decode cL_areStudents 51 = .ok (.iload 6, 2) := by decide +kernel
theorem dL_areStudents_53 : decode cL_areStudents 53 = .ok (.aload_n 3, 1) := by decide +kernel
theorem dL_areStudents_54 : decode cL_areStudents 54 = .ok (.iconst 1, 1) := by decide +kernel
theorem dL_areStudents_55 : decode cL_areStudents 55 = .ok (.iaload, 1) := by decide +kernel
theorem dL_areStudents_56 : decode cL_areStudents 56 = .ok (.if_icmp .ge 189, 3) := by decide +kernel
theorem dL_areStudents_59 : decode cL_areStudents 59 = .ok (.iload 4, 2) := by decide +kernel
theorem dL_areStudents_61 : decode cL_areStudents 61 = .ok (.ifCond .eq 184, 3) := by decide +kernel
theorem dL_areStudents_64 : decode cL_areStudents 64 = .ok (.aload_n 2, 1) := by decide +kernel
theorem dL_areStudents_65 : decode cL_areStudents 65 = .ok (.bipush 8, 2) := by decide +kernel
theorem dL_areStudents_67 : decode cL_areStudents 67 = .ok (.iload 6, 2) := by decide +kernel
theorem dL_areStudents_69 : decode cL_areStudents 69 = .ok (.imul, 1) := by decide +kernel
theorem dL_areStudents_70 : decode cL_areStudents 70 = .ok (.iconst 4, 1) := by decide +kernel
theorem dL_areStudents_71 : decode cL_areStudents 71 = .ok (.iadd, 1) := by decide +kernel
theorem dL_areStudents_72 : decode cL_areStudents 72 = .ok (.iaload, 1) := by decide +kernel
theorem dL_areStudents_73 : decode cL_areStudents 73 = .ok (.istore 7, 2) := by decide +kernel
theorem dL_areStudents_75 : decode cL_areStudents 75 = .ok (.aload_n 0, 1) := by decide +kernel
theorem dL_areStudents_76 : decode cL_areStudents 76 = .ok (.iload 6, 2) := by decide +kernel
theorem dL_areStudents_78 : decode cL_areStudents 78 = .ok (.invokevirtual 192, 3) := by decide +kernel
theorem dL_areStudents_81 : decode cL_areStudents 81 = .ok (.aload_n 1, 1) := by decide +kernel
theorem dL_areStudents_82 : decode cL_areStudents 82 = .ok (.aload_n 2, 1) := by decide +kernel
theorem dL_areStudents_83 : decode cL_areStudents 83 = .ok (.bipush 8, 2) := by decide +kernel
theorem dL_areStudents_85 : decode cL_areStudents 85 = .ok (.iload 6, 2) := by decide +kernel
theorem dL_areStudents_87 : decode cL_areStudents 87 = .ok (.imul, 1) := by decide +kernel
theorem dL_areStudents_88 : decode cL_areStudents 88 = .ok (.iconst 3, 1) := by decide +kernel
theorem dL_areStudents_89 : decode cL_areStudents 89 = .ok (.iadd, 1) := by decide +kernel
theorem dL_areStudents_90 : decode cL_areStudents 90 = .ok (.iaload, 1) := by decide +kernel
theorem dL_areStudents_91 : decode cL_areStudents 91 = .ok (.invokestatic 19, 3) := by decide +kernel
theorem dL_areStudents_94 : decode cL_areStudents 94 = .ok (.if_icmp .ne 87, 3) := by decide +kernel
theorem dL_areStudents_97 : decode cL_areStudents 97 = .ok (.aload_n 0, 1) := by decide +kernel
theorem dL_areStudents_98 : decode cL_areStudents 98 = .ok (.iload 6, 2) := by decide +kernel
theorem dL_areStudents_100 : decode cL_areStudents 100 = .ok (.invokevirtual 195, 3) := by decide +kernel
theorem dL_areStudents_103 : decode cL_areStudents 103 = .ok (.iload 7, 2) := by decide +kernel
theorem dL_areStudents_105 : decode cL_areStudents 105 = .ok (.i2l, 1) := by decide +kernel
theorem dL_areStudents_106 : decode cL_areStudents 106 = .ok (.invokestatic 53, 3) := by decide +kernel
theorem dL_areStudents_109 : decode cL_areStudents 109 = .ok (.if_icmp .ne 72, 3) := by decide +kernel
theorem dL_areStudents_112 : decode cL_areStudents 112 = .ok (.aload_n 0, 1) := by decide +kernel
theorem dL_areStudents_113 : decode cL_areStudents 113 = .ok (.iload 6, 2) := by decide +kernel
theorem dL_areStudents_115 : decode cL_areStudents 115 = .ok (.invokevirtual 197, 3) := by decide +kernel
theorem dL_areStudents_118 : decode cL_areStudents 118 = .ok (.aload_n 2, 1) := by decide +kernel
theorem dL_areStudents_119 : decode cL_areStudents 119 = .ok (.bipush 8, 2) := by decide +kernel
theorem dL_areStudents_121 : decode cL_areStudents 121 = .ok (.iload 6, 2) := by decide +kernel
theorem dL_areStudents_123 : decode cL_areStudents 123 = .ok (.imul, 1) := by decide +kernel
theorem dL_areStudents_124 : decode cL_areStudents 124 = .ok (.iconst 5, 1) := by decide +kernel
theorem dL_areStudents_125 : decode cL_areStudents 125 = .ok (.iadd, 1) := by decide +kernel
theorem dL_areStudents_126 : decode cL_areStudents 126 = .ok (.iaload, 1) := by decide +kernel
theorem dL_areStudents_127 : decode cL_areStudents 127 = .ok (.if_icmp .ne 54, 3) := by decide +kernel
theorem dL_areStudents_130 : decode cL_areStudents 130 = .ok (.aload_n 0, 1) := by decide +kernel
theorem dL_areStudents_131 : decode cL_areStudents 131 = .ok (.iload 6, 2) := by decide +kernel
theorem dL_areStudents_133 : decode cL_areStudents 133 = .ok (.invokevirtual 200, 3) := by decide +kernel
theorem dL_areStudents_136 : decode cL_areStudents 136 = .ok (.aload_n 2, 1) := by decide +kernel
theorem dL_areStudents_137 : decode cL_areStudents 137 = .ok (.bipush 8, 2) := by decide +kernel
theorem dL_areStudents_139 : decode cL_areStudents 139 = .ok (.iload 6, 2) := by decide +kernel
theorem dL_areStudents_141 : decode cL_areStudents 141 = .ok (.imul, 1) := by decide +kernel
theorem dL_areStudents_142 : decode cL_areStudents 142 = .ok (.bipush 6, 2) := by decide +kernel
theorem dL_areStudents_144 : decode cL_areStudents 144 = .ok (.iadd, 1) := by decide +kernel
theorem dL_areStudents_145 : decode cL_areStudents 145 = .ok (.iaload, 1) := by decide +kernel
theorem dL_areStudents_146 : decode cL_areStudents 146 = .ok (.if_icmp .ne 35, 3) := by decide +kernel
theorem dL_areStudents_149 : decode cL_areStudents 149 = .ok (.iload 5, 2) := by decide +kernel
theorem dL_areStudents_151 : decode cL_areStudents 151 = .ok (.iload 6, 2) := by decide +kernel
theorem dL_areStudents_153 : decode cL_areStudents 153 = .ok (.invokestatic 15, 3) := by decide +kernel
theorem dL_areStudents_156 : decode cL_areStudents 156 = .ok (.ifCond .eq 21, 3) := by decide +kernel
theorem dL_areStudents_159 : decode cL_areStudents 159 = .ok (.aload_n 0, 1) := by decide +kernel
theorem dL_areStudents_160 : decode cL_areStudents 160 = .ok (.iload 6, 2) := by decide +kernel
theorem dL_areStudents_162 : decode cL_areStudents 162 = .ok (.invokevirtual 203, 3) := by decide +kernel
theorem dL_areStudents_165 : decode cL_areStudents 165 = .ok (.aload_n 1, 1) := by decide +kernel
theorem dL_areStudents_166 : decode cL_areStudents 166 = .ok (.aload_n 2, 1) := by decide +kernel
theorem dL_areStudents_167 : decode cL_areStudents 167 = .ok (.iload 6, 2) := by decide +kernel
theorem dL_areStudents_169 : decode cL_areStudents 169 = .ok (.iload 5, 2) := by decide +kernel
theorem dL_areStudents_171 : decode cL_areStudents 171 = .ok (.invokestatic 75, 3) := by decide +kernel
theorem dL_areStudents_174 : decode cL_areStudents 174 = .ok (.if_icmp .ne 7, 3) := by decide +kernel
theorem dL_areStudents_177 : decode cL_areStudents 177 = .ok (.iconst 1, 1) := by decide +kernel
theorem dL_areStudents_178 : decode cL_areStudents 178 = .ok (.goto 4, 3) := by decide +kernel
theorem dL_areStudents_181 : decode cL_areStudents 181 = .ok (.iconst 0, 1) := by decide +kernel
theorem dL_areStudents_182 : decode cL_areStudents 182 = .ok (.istore 4, 2) := by decide +kernel
theorem dL_areStudents_184 : decode cL_areStudents 184 = .ok (.iconst 0, 1) := by decide +kernel
theorem dL_areStudents_185 : decode cL_areStudents 185 = .ok (.istore 8, 2) := by decide +kernel
theorem dL_areStudents_187 : decode cL_areStudents 187 = .ok (.iload 8, 2) := by decide +kernel
theorem dL_areStudents_189 : decode cL_areStudents 189 = .ok (.iload 7, 2) := by decide +kernel
theorem dL_areStudents_191 : decode cL_areStudents 191 = .ok (.i2l, 1) := by decide +kernel
theorem dL_areStudents_192 : decode cL_areStudents 192 = .ok (.invokestatic 53, 3) := by decide +kernel
theorem dL_areStudents_195 : decode cL_areStudents 195 = .ok (.if_icmp .ge 44, 3) := by decide +kernel
theorem dL_areStudents_198 : decode cL_areStudents 198 = .ok (.iload 4, 2) := by decide +kernel
theorem dL_areStudents_200 : decode cL_areStudents 200 = .ok (.ifCond .eq 39, 3) := by decide +kernel
theorem dL_areStudents_203 : decode cL_areStudents 203 = .ok (.aload_n 0, 1) := by decide +kernel
theorem dL_areStudents_204 : decode cL_areStudents 204 = .ok (.iload 6, 2) := by decide +kernel
theorem dL_areStudents_206 : decode cL_areStudents 206 = .ok (.iload 8, 2) := by decide +kernel
theorem dL_areStudents_208 : decode cL_areStudents 208 = .ok (.invokevirtual 206, 3) := by decide +kernel
theorem dL_areStudents_211 : decode cL_areStudents 211 = .ok (.iload 7, 2) := by decide +kernel
theorem dL_areStudents_213 : decode cL_areStudents 213 = .ok (.iconst 4, 1) := by decide +kernel
theorem dL_areStudents_214 : decode cL_areStudents 214 = .ok (.iload 8, 2) := by decide +kernel
theorem dL_areStudents_216 : decode cL_areStudents 216 = .ok (.imul, 1) := by decide +kernel
theorem dL_areStudents_217 : decode cL_areStudents 217 = .ok (.ishr, 1) := by decide +kernel
theorem dL_areStudents_218 : decode cL_areStudents 218 = .ok (.bipush 15, 2) := by decide +kernel
theorem dL_areStudents_220 : decode cL_areStudents 220 = .ok (.iand, 1) := by decide +kernel
theorem dL_areStudents_221 : decode cL_areStudents 221 = .ok (.iconst 1, 1) := by decide +kernel
theorem dL_areStudents_222 : decode cL_areStudents 222 = .ok (.isub, 1) := by decide +kernel
theorem dL_areStudents_223 : decode cL_areStudents 223 = .ok (.if_icmp .ne 7, 3) := by decide +kernel
theorem dL_areStudents_226 : decode cL_areStudents 226 = .ok (.iconst 1, 1) := by decide +kernel
theorem dL_areStudents_227 : decode cL_areStudents 227 = .ok (.goto 4, 3) := by decide +kernel
theorem dL_areStudents_230 : decode cL_areStudents 230 = .ok (.iconst 0, 1) := by decide +kernel
theorem dL_areStudents_231 : decode cL_areStudents 231 = .ok (.istore 4, 2) := by decide +kernel
theorem dL_areStudents_233 : decode cL_areStudents 233 = .ok (.iinc 8 1, 3) := by decide +kernel
theorem dL_areStudents_236 : decode cL_areStudents 236 = .ok (.goto (-49), 3) := by decide +kernel
theorem dL_areStudents_239 : decode cL_areStudents 239 = .ok (.iinc 6 1, 3) := by decide +kernel
theorem dL_areStudents_242 : decode cL_areStudents 242 = .ok (.goto (-191), 3) := by decide +kernel
theorem dL_areStudents_245 : decode cL_areStudents 245 = .ok (.iload 4, 2) := by decide +kernel
theorem dL_areStudents_247 : decode cL_areStudents 247 = .ok (.ireturn, 1) := by decide +kernel
theorem dL_areOf_0 : decode cL_areOf 0 = .ok (.iconst 1, 1) := by decide +kernel
theorem dL_areOf_1 : decode cL_areOf 1 = .ok (.istore 6, 2) := by decide +kernel
theorem dL_areOf_3 : decode cL_areOf 3 = .ok (.iconst 0, 1) := by decide +kernel
theorem dL_areOf_4 : decode cL_areOf 4 = .ok (.istore 7, 2) := by decide +kernel
theorem dL_areOf_6 : decode cL_areOf 6 = .ok (.iload 7, 2) := by decide +kernel
theorem dL_areOf_8 : decode cL_areOf 8 = .ok (.aload_n 3, 1) := by decide +kernel
theorem dL_areOf_9 : decode cL_areOf 9 = .ok (.iconst 0, 1) := by decide +kernel
theorem dL_areOf_10 : decode cL_areOf 10 = .ok (.iaload, 1) := by decide +kernel
theorem dL_areOf_11 : decode cL_areOf 11 = .ok (.if_icmp .ge 230, 3) := by decide +kernel
theorem dL_areOf_14 : decode cL_areOf 14 = .ok (.iload 6, 2) := by decide +kernel
theorem dL_areOf_16 : decode cL_areOf 16 = .ok (.ifCond .eq 225, 3) := by decide +kernel
theorem dL_areOf_19 : decode cL_areOf 19 = .ok (.iconst 0, 1) := by decide +kernel
theorem dL_areOf_20 : decode cL_areOf 20 = .ok (.istore 8, 2) := by decide +kernel
theorem dL_areOf_22 : decode cL_areOf 22 = .ok (.iconst 0, 1) := by decide +kernel
theorem dL_areOf_23 : decode cL_areOf 23 = .ok (.istore 9, 2) := by decide +kernel
theorem dL_areOf_25 : decode cL_areOf 25 = .ok (.iload 9, 2) := by decide +kernel
theorem dL_areOf_27 : decode cL_areOf 27 = .ok (.iconst 3, 1) := by decide +kernel
theorem dL_areOf_28 : decode cL_areOf 28 = .ok (.if_icmp .ge 48, 3) := by decide +kernel
theorem dL_areOf_31 : decode cL_areOf 31 = .ok (.aload_n 1, 1) := by decide +kernel
theorem dL_areOf_32 : decode cL_areOf 32 = .ok (.bipush 8, 2) := by decide +kernel
theorem dL_areOf_34 : decode cL_areOf 34 = .ok (.iload 7, 2) := by decide +kernel
theorem dL_areOf_36 : decode cL_areOf 36 = .ok (.imul, 1) := by decide +kernel
theorem dL_areOf_37 : decode cL_areOf 37 = .ok (.iconst 5, 1) := by decide +kernel
theorem dL_areOf_38 : decode cL_areOf 38 = .ok (.iadd, 1) := by decide +kernel
theorem dL_areOf_39 : decode cL_areOf 39 = .ok (.aload_n 3, 1) := by decide +kernel
theorem dL_areOf_40 : decode cL_areOf 40 = .ok (.iconst 2, 1) := by decide +kernel
theorem dL_areOf_41 : decode cL_areOf 41 = .ok (.iaload, 1) := by decide +kernel
theorem dL_areOf_42 : decode cL_areOf 42 = .ok (.iconst 3, 1) := by decide +kernel
theorem dL_areOf_43 : decode cL_areOf 43 = .ok (.iadd, 1) := by decide +kernel
theorem dL_areOf_44 : decode cL_areOf 44 = .ok (.iload 9, 2) := by decide +kernel
theorem dL_areOf_46 : decode cL_areOf 46 = .ok (.isub, 1) := by decide +kernel
theorem dL_areOf_47 : decode cL_areOf 47 = .ok (.iconst 3, 1) := by decide +kernel
theorem dL_areOf_48 : decode cL_areOf 48 = .ok (.irem, 1) := by decide +kernel
theorem dL_areOf_49 : decode cL_areOf 49 = .ok (.iadd, 1) := by decide +kernel
theorem dL_areOf_50 : decode cL_areOf 50 = .ok (.iaload, 1) := by decide +kernel
theorem dL_areOf_51 : decode cL_areOf 51 = .ok (.iload 4, 2) := by decide +kernel
theorem dL_areOf_53 : decode cL_areOf 53 = .ok (.invokestatic 15, 3) := by decide +kernel
theorem dL_areOf_56 : decode cL_areOf 56 = .ok (.ifCond .eq 10, 3) := by decide +kernel
theorem dL_areOf_59 : decode cL_areOf 59 = .ok (.iconst 3, 1) := by decide +kernel
theorem dL_areOf_60 : decode cL_areOf 60 = .ok (.iload 9, 2) := by decide +kernel
theorem dL_areOf_62 : decode cL_areOf 62 = .ok (.isub, 1) := by decide +kernel
theorem dL_areOf_63 : decode cL_areOf 63 = .ok (.goto 5, 3) := by decide +kernel
theorem dL_areOf_66 : decode cL_areOf 66 = .ok (.iload 8, 2) := by decide +kernel
theorem dL_areOf_68 : decode cL_areOf 68 = .ok (.istore 8, 2) := by decide +kernel
theorem dL_areOf_70 : decode cL_areOf 70 = .ok (.iinc 9 1, 3) := by decide +kernel
theorem dL_areOf_73 : decode cL_areOf 73 = .ok (.goto (-48), 3) := by decide +kernel
theorem dL_areOf_76 : decode cL_areOf 76 = .ok (.aload_n 0, 1) := by decide +kernel
theorem dL_areOf_77 : decode cL_areOf 77 = .ok (.iload 4, 2) := by decide +kernel
theorem dL_areOf_79 : decode cL_areOf 79 = .ok (.iload 7, 2) := by decide +kernel
theorem dL_areOf_81 : decode cL_areOf 81 = .ok (.invokevirtual 209, 3) := by decide +kernel
theorem dL_areOf_84 : decode cL_areOf 84 = .ok (.aload_n 2, 1) := by decide +kernel
theorem dL_areOf_85 : decode cL_areOf 85 = .ok (.bipush 8, 2) := by decide +kernel
theorem dL_areOf_87 : decode cL_areOf 87 = .ok (.iload 4, 2) := by decide +kernel
theorem dL_areOf_89 : decode cL_areOf 89 = .ok (.imul, 1) := by decide +kernel
theorem dL_areOf_90 : decode cL_areOf 90 = .ok (.iconst 3, 1) := by decide +kernel
theorem dL_areOf_91 : decode cL_areOf 91 = .ok (.iadd, 1) := by decide +kernel
theorem dL_areOf_92 : decode cL_areOf 92 = .ok (.iaload, 1) := by decide +kernel
theorem dL_areOf_93 : decode cL_areOf 93 = .ok (.iload 7, 2) := by decide +kernel
theorem dL_areOf_95 : decode cL_areOf 95 = .ok (.invokestatic 15, 3) := by decide +kernel
theorem dL_areOf_98 : decode cL_areOf 98 = .ok (.if_icmp .ne 134, 3) := by decide +kernel
theorem dL_areOf_101 : decode cL_areOf 101 = .ok (.aload_n 0, 1) := by decide +kernel
theorem dL_areOf_102 : decode cL_areOf 102 = .ok (.iload 4, 2) := by decide +kernel
theorem dL_areOf_104 : decode cL_areOf 104 = .ok (.iload 7, 2) := by decide +kernel
theorem dL_areOf_106 : decode cL_areOf 106 = .ok (.invokevirtual 212, 3) := by decide +kernel
theorem dL_areOf_109 : decode cL_areOf 109 = .ok (.aload_n 2, 1) := by decide +kernel
theorem dL_areOf_110 : decode cL_areOf 110 = .ok (.bipush 8, 2) := by decide +kernel
theorem dL_areOf_112 : decode cL_areOf 112 = .ok (.iload 4, 2) := by decide +kernel
theorem dL_areOf_114 : decode cL_areOf 114 = .ok (.imul, 1) := by decide +kernel
theorem dL_areOf_115 : decode cL_areOf 115 = .ok (.iconst 2, 1) := by decide +kernel
theorem dL_areOf_116 : decode cL_areOf 116 = .ok (.iadd, 1) := by decide +kernel
theorem dL_areOf_117 : decode cL_areOf 117 = .ok (.iaload, 1) := by decide +kernel
theorem dL_areOf_118 : decode cL_areOf 118 = .ok (.iload 7, 2) := by decide +kernel
theorem dL_areOf_120 : decode cL_areOf 120 = .ok (.invokestatic 15, 3) := by decide +kernel
theorem dL_areOf_123 : decode cL_areOf 123 = .ok (.if_icmp .ne 109, 3) := by decide +kernel
theorem dL_areOf_126 : decode cL_areOf 126 = .ok (.aload_n 0, 1) := by decide +kernel
theorem dL_areOf_127 : decode cL_areOf 127 = .ok (.iload 4, 2) := by decide +kernel
theorem dL_areOf_129 : decode cL_areOf 129 = .ok (.iload 7, 2) := by decide +kernel
theorem dL_areOf_131 : decode cL_areOf 131 = .ok (.invokevirtual 215, 3) := by decide +kernel
theorem dL_areOf_134 : decode cL_areOf 134 = .ok (.aload_n 1, 1) := by decide +kernel
theorem dL_areOf_135 : decode cL_areOf 135 = .ok (.bipush 8, 2) := by decide +kernel
theorem dL_areOf_137 : decode cL_areOf 137 = .ok (.iload 7, 2) := by decide +kernel
theorem dL_areOf_139 : decode cL_areOf 139 = .ok (.imul, 1) := by decide +kernel
theorem dL_areOf_140 : decode cL_areOf 140 = .ok (.iconst 4, 1) := by decide +kernel
theorem dL_areOf_141 : decode cL_areOf 141 = .ok (.iadd, 1) := by decide +kernel
theorem dL_areOf_142 : decode cL_areOf 142 = .ok (.iaload, 1) := by decide +kernel
theorem dL_areOf_143 : decode cL_areOf 143 = .ok (.aload_n 2, 1) := by decide +kernel
theorem dL_areOf_144 : decode cL_areOf 144 = .ok (.bipush 8, 2) := by decide +kernel
theorem dL_areOf_146 : decode cL_areOf 146 = .ok (.iload 4, 2) := by decide +kernel
theorem dL_areOf_148 : decode cL_areOf 148 = .ok (.imul, 1) := by decide +kernel
theorem dL_areOf_149 : decode cL_areOf 149 = .ok (.iconst 2, 1) := by decide +kernel
theorem dL_areOf_150 : decode cL_areOf 150 = .ok (.iadd, 1) := by decide +kernel
theorem dL_areOf_151 : decode cL_areOf 151 = .ok (.iaload, 1) := by decide +kernel
theorem dL_areOf_152 : decode cL_areOf 152 = .ok (.iconst (-1), 1) := by decide +kernel
theorem dL_areOf_153 : decode cL_areOf 153 = .ok (.ixor, 1) := by decide +kernel
theorem dL_areOf_154 : decode cL_areOf 154 = .ok (.iand, 1) := by decide +kernel
theorem dL_areOf_155 : decode cL_areOf 155 = .ok (.invokestatic 29, 3) := by decide +kernel
theorem dL_areOf_158 : decode cL_areOf 158 = .ok (.if_icmp .ne 74, 3) := by decide +kernel
theorem dL_areOf_161 : decode cL_areOf 161 = .ok (.aload_n 0, 1) := by decide +kernel
theorem dL_areOf_162 : decode cL_areOf 162 = .ok (.iload 4, 2) := by decide +kernel
theorem dL_areOf_164 : decode cL_areOf 164 = .ok (.iload 7, 2) := by decide +kernel
theorem dL_areOf_166 : decode cL_areOf 166 = .ok (.invokevirtual 218, 3) := by decide +kernel
theorem dL_areOf_169 : decode cL_areOf 169 = .ok (.aload_n 1, 1) := by decide +kernel
theorem dL_areOf_170 : decode cL_areOf 170 = .ok (.aload_n 2, 1) := by decide +kernel
theorem dL_areOf_171 : decode cL_areOf 171 = .ok (.iload 4, 2) := by decide +kernel
theorem dL_areOf_173 : decode cL_areOf 173 = .ok (.iload 7, 2) := by decide +kernel
theorem dL_areOf_175 : decode cL_areOf 175 = .ok (.aload_n 2, 1) := by decide +kernel
theorem dL_areOf_176 : decode cL_areOf 176 = .ok (.bipush 8, 2) := by decide +kernel
theorem dL_areOf_178 : decode cL_areOf 178 = .ok (.iload 4, 2) := by decide +kernel
theorem dL_areOf_180 : decode cL_areOf 180 = .ok (.imul, 1) := by decide +kernel
theorem dL_areOf_181 : decode cL_areOf 181 = .ok (.iconst 3, 1) := by decide +kernel
theorem dL_areOf_182 : decode cL_areOf 182 = .ok (.iadd, 1) := by decide +kernel
theorem dL_areOf_183 : decode cL_areOf 183 = .ok (.iaload, 1) := by decide +kernel
theorem dL_areOf_184 : decode cL_areOf 184 = .ok (.invokestatic 37, 3) := by decide +kernel
theorem dL_areOf_187 : decode cL_areOf 187 = .ok (.if_icmp .ne 45, 3) := by decide +kernel
theorem dL_areOf_190 : decode cL_areOf 190 = .ok (.aload_n 0, 1) := by decide +kernel
theorem dL_areOf_191 : decode cL_areOf 191 = .ok (.iload 4, 2) := by decide +kernel
theorem dL_areOf_193 : decode cL_areOf 193 = .ok (.iload 7, 2) := by decide +kernel
theorem dL_areOf_195 : decode cL_areOf 195 = .ok (.invokevirtual 220, 3) := by decide +kernel
theorem dL_areOf_198 : decode cL_areOf 198 = .ok (.iload 8, 2) := by decide +kernel
theorem dL_areOf_200 : decode cL_areOf 200 = .ok (.if_icmp .ne 32, 3) := by decide +kernel
theorem dL_areOf_203 : decode cL_areOf 203 = .ok (.aload_n 0, 1) := by decide +kernel
theorem dL_areOf_204 : decode cL_areOf 204 = .ok (.iload 5, 2) := by decide +kernel
theorem dL_areOf_206 : decode cL_areOf 206 = .ok (.iload 7, 2) := by decide +kernel
theorem dL_areOf_208 : decode cL_areOf 208 = .ok (.invokevirtual 223, 3) := by decide +kernel
theorem dL_areOf_211 : decode cL_areOf 211 = .ok (.aload_n 1, 1) := by decide +kernel
theorem dL_areOf_212 : decode cL_areOf 212 = .ok (.bipush 8, 2) := by decide +kernel
theorem dL_areOf_214 : decode cL_areOf 214 = .ok (.iload 5, 2) := by decide +kernel
theorem dL_areOf_216 : decode cL_areOf 216 = .ok (.imul, 1) := by decide +kernel
theorem dL_areOf_217 : decode cL_areOf 217 = .ok (.iconst 4, 1) := by decide +kernel
theorem dL_areOf_218 : decode cL_areOf 218 = .ok (.iadd, 1) := by decide +kernel
theorem dL_areOf_219 : decode cL_areOf 219 = .ok (.iaload, 1) := by decide +kernel
theorem dL_areOf_220 : decode cL_areOf 220 = .ok (.iload 7, 2) := by decide +kernel
theorem dL_areOf_222 : decode cL_areOf 222 = .ok (.invokestatic 15, 3) := by decide +kernel
theorem dL_areOf_225 : decode cL_areOf 225 = .ok (.if_icmp .ne 7, 3) := by decide +kernel
theorem dL_areOf_228 : decode cL_areOf 228 = .ok (.iconst 1, 1) := by decide +kernel
theorem dL_areOf_229 : decode cL_areOf 229 = .ok (.goto 4, 3) := by decide +kernel
theorem dL_areOf_232 : decode cL_areOf 232 = .ok (.iconst 0, 1) := by decide +kernel
theorem dL_areOf_233 : decode cL_areOf 233 = .ok (.istore 6, 2) := by decide +kernel
theorem dL_areOf_235 : decode cL_areOf 235 = .ok (.iinc 7 1, 3) := by decide +kernel
theorem dL_areOf_238 : decode cL_areOf 238 = .ok (.goto (-232), 3) := by decide +kernel
theorem dL_areOf_241 : decode cL_areOf 241 = .ok (.iload 6, 2) := by decide +kernel
theorem dL_areOf_243 : decode cL_areOf 243 = .ok (.ireturn, 1) := by decide +kernel
theorem dL_adds_0 : decode cL_adds 0 = .ok (.iload 5, 2) := by decide +kernel
theorem dL_adds_2 : decode cL_adds 2 = .ok (.ifCond .eq 128, 3) := by decide +kernel
theorem dL_adds_5 : decode cL_adds 5 = .ok (.aload_n 3, 1) := by decide +kernel
theorem dL_adds_6 : decode cL_adds 6 = .ok (.iconst 0, 1) := by decide +kernel
theorem dL_adds_7 : decode cL_adds 7 = .ok (.iaload, 1) := by decide +kernel
theorem dL_adds_8 : decode cL_adds 8 = .ok (.istore 6, 2) := by decide +kernel
theorem dL_adds_10 : decode cL_adds 10 = .ok (.aload_n 1, 1) := by decide +kernel
theorem dL_adds_11 : decode cL_adds 11 = .ok (.bipush 8, 2) := by decide +kernel
theorem dL_adds_13 : decode cL_adds 13 = .ok (.iload 6, 2) := by decide +kernel
theorem dL_adds_15 : decode cL_adds 15 = .ok (.imul, 1) := by decide +kernel
theorem dL_adds_16 : decode cL_adds 16 = .ok (.iload 4, 2) := by decide +kernel
theorem dL_adds_18 : decode cL_adds 18 = .ok (.iconst 4, 1) := by decide +kernel
theorem dL_adds_19 : decode cL_adds 19 = .ok (.irem, 1) := by decide +kernel
theorem dL_adds_20 : decode cL_adds 20 = .ok (.iastore, 1) := by decide +kernel
theorem dL_adds_21 : decode cL_adds 21 = .ok (.aload_n 1, 1) := by decide +kernel
theorem dL_adds_22 : decode cL_adds 22 = .ok (.bipush 8, 2) := by decide +kernel
theorem dL_adds_24 : decode cL_adds 24 = .ok (.iload 6, 2) := by decide +kernel
theorem dL_adds_26 : decode cL_adds 26 = .ok (.imul, 1) := by decide +kernel
theorem dL_adds_27 : decode cL_adds 27 = .ok (.iconst 1, 1) := by decide +kernel
theorem dL_adds_28 : decode cL_adds 28 = .ok (.iadd, 1) := by decide +kernel
theorem dL_adds_29 : decode cL_adds 29 = .ok (.iconst 1, 1) := by decide +kernel
theorem dL_adds_30 : decode cL_adds 30 = .ok (.iload 4, 2) := by decide +kernel
theorem dL_adds_32 : decode cL_adds 32 = .ok (.iconst 4, 1) := by decide +kernel
theorem dL_adds_33 : decode cL_adds 33 = .ok (.idiv, 1) := by decide +kernel
theorem dL_adds_34 : decode cL_adds 34 = .ok (.bipush 6, 2) := by decide +kernel
theorem dL_adds_36 : decode cL_adds 36 = .ok (.irem, 1) := by decide +kernel
theorem dL_adds_37 : decode cL_adds 37 = .ok (.iadd, 1) := by decide +kernel
theorem dL_adds_38 : decode cL_adds 38 = .ok (.iastore, 1) := by decide +kernel
theorem dL_adds_39 : decode cL_adds 39 = .ok (.aload_n 1, 1) := by decide +kernel
theorem dL_adds_40 : decode cL_adds 40 = .ok (.bipush 8, 2) := by decide +kernel
theorem dL_adds_42 : decode cL_adds 42 = .ok (.iload 6, 2) := by decide +kernel
theorem dL_adds_44 : decode cL_adds 44 = .ok (.imul, 1) := by decide +kernel
theorem dL_adds_45 : decode cL_adds 45 = .ok (.iconst 2, 1) := by decide +kernel
theorem dL_adds_46 : decode cL_adds 46 = .ok (.iadd, 1) := by decide +kernel
theorem dL_adds_47 : decode cL_adds 47 = .ok (.iload 4, 2) := by decide +kernel
theorem dL_adds_49 : decode cL_adds 49 = .ok (.bipush 24, 2) := by decide +kernel
theorem dL_adds_51 : decode cL_adds 51 = .ok (.idiv, 1) := by decide +kernel
theorem dL_adds_52 : decode cL_adds 52 = .ok (.iconst 3, 1) := by decide +kernel
theorem dL_adds_53 : decode cL_adds 53 = .ok (.irem, 1) := by decide +kernel
theorem dL_adds_54 : decode cL_adds 54 = .ok (.ifCond .ne 7, 3) := by decide +kernel
theorem dL_adds_57 : decode cL_adds 57 = .ok (.iconst 0, 1) := by decide +kernel
theorem dL_adds_58 : decode cL_adds 58 = .ok (.goto 24, 3) := by decide +kernel
theorem dL_adds_61 : decode cL_adds 61 = .ok (.iconst 1, 1) := by decide +kernel
theorem dL_adds_62 : decode cL_adds 62 = .ok (.iload 4, 2) := by decide +kernel
theorem dL_adds_64 : decode cL_adds 64 = .ok (.bipush 72, 2) := by decide +kernel
theorem dL_adds_66 : decode cL_adds 66 = .ok (.idiv, 1) := by decide +kernel
theorem dL_adds_67 : decode cL_adds 67 = .ok (.iconst 5, 1) := by decide +kernel
theorem dL_adds_68 : decode cL_adds 68 = .ok (.irem, 1) := by decide +kernel
theorem dL_adds_69 : decode cL_adds 69 = .ok (.ishl, 1) := by decide +kernel
theorem dL_adds_70 : decode cL_adds 70 = .ok (.iconst 1, 1) := by decide +kernel
theorem dL_adds_71 : decode cL_adds 71 = .ok (.iload 4, 2) := by decide +kernel
theorem dL_adds_73 : decode cL_adds 73 = .ok (.sipush 360, 3) := by decide +kernel
theorem dL_adds_76 : decode cL_adds 76 = .ok (.idiv, 1) := by decide +kernel
theorem dL_adds_77 : decode cL_adds 77 = .ok (.bipush 30, 2) := by decide +kernel
theorem dL_adds_79 : decode cL_adds 79 = .ok (.irem, 1) := by decide +kernel
theorem dL_adds_80 : decode cL_adds 80 = .ok (.ishl, 1) := by decide +kernel
theorem dL_adds_81 : decode cL_adds 81 = .ok (.ior, 1) := by decide +kernel
theorem dL_adds_82 : decode cL_adds 82 = .ok (.iastore, 1) := by decide +kernel
theorem dL_adds_83 : decode cL_adds 83 = .ok (.aload_n 3, 1) := by decide +kernel
theorem dL_adds_84 : decode cL_adds 84 = .ok (.iconst 0, 1) := by decide +kernel
theorem dL_adds_85 : decode cL_adds 85 = .ok (.dup2, 1) := by decide +kernel
theorem dL_adds_86 : decode cL_adds 86 = .ok (.iaload, 1) := by decide +kernel
theorem dL_adds_87 : decode cL_adds 87 = .ok (.iconst 1, 1) := by decide +kernel
theorem dL_adds_88 : decode cL_adds 88 = .ok (.iadd, 1) := by decide +kernel
theorem dL_adds_89 : decode cL_adds 89 = .ok (.iastore, 1) := by decide +kernel
theorem dL_adds_90 : decode cL_adds 90 = .ok (.aload_n 0, 1) := by decide +kernel
theorem dL_adds_91 : decode cL_adds 91 = .ok (.aload_n 1, 1) := by decide +kernel
theorem dL_adds_92 : decode cL_adds 92 = .ok (.bipush 8, 2) := by decide +kernel
theorem dL_adds_94 : decode cL_adds 94 = .ok (.iload 6, 2) := by decide +kernel
theorem dL_adds_96 : decode cL_adds 96 = .ok (.imul, 1) := by decide +kernel
theorem dL_adds_97 : decode cL_adds 97 = .ok (.iaload, 1) := by decide +kernel
theorem dL_adds_98 : decode cL_adds 98 = .ok (.aload_n 1, 1) := by decide +kernel
theorem dL_adds_99 : decode cL_adds 99 = .ok (.bipush 8, 2) := by decide +kernel
theorem dL_adds_101 : decode cL_adds 101 = .ok (.iload 6, 2) := by decide +kernel
theorem dL_adds_103 : decode cL_adds 103 = .ok (.imul, 1) := by decide +kernel
theorem dL_adds_104 : decode cL_adds 104 = .ok (.iconst 1, 1) := by decide +kernel
theorem dL_adds_105 : decode cL_adds 105 = .ok (.iadd, 1) := by decide +kernel
theorem dL_adds_106 : decode cL_adds 106 = .ok (.iaload, 1) := by decide +kernel
theorem dL_adds_107 : decode cL_adds 107 = .ok (.aload_n 1, 1) := by decide +kernel
theorem dL_adds_108 : decode cL_adds 108 = .ok (.bipush 8, 2) := by decide +kernel
theorem dL_adds_110 : decode cL_adds 110 = .ok (.iload 6, 2) := by decide +kernel
theorem dL_adds_112 : decode cL_adds 112 = .ok (.imul, 1) := by decide +kernel
theorem dL_adds_113 : decode cL_adds 113 = .ok (.iconst 2, 1) := by decide +kernel
theorem dL_adds_114 : decode cL_adds 114 = .ok (.iadd, 1) := by decide +kernel
theorem dL_adds_115 : decode cL_adds 115 = .ok (.iaload, 1) := by decide +kernel
theorem dL_adds_116 : decode cL_adds 116 = .ok (.invokevirtual 225, 3) := by decide +kernel
theorem dL_adds_119 : decode cL_adds 119 = .ok (.iload 6, 2) := by decide +kernel
theorem dL_adds_121 : decode cL_adds 121 = .ok (.if_icmp .ne 7, 3) := by decide +kernel
theorem dL_adds_124 : decode cL_adds 124 = .ok (.iconst 1, 1) := by decide +kernel
theorem dL_adds_125 : decode cL_adds 125 = .ok (.goto 4, 3) := by decide +kernel
theorem dL_adds_128 : decode cL_adds 128 = .ok (.iconst 0, 1) := by decide +kernel
theorem dL_adds_129 : decode cL_adds 129 = .ok (.ireturn, 1) := by decide +kernel
theorem dL_adds_130 : decode cL_adds 130 = .ok (.aload_n 3, 1) := by decide +kernel
theorem dL_adds_131 : decode cL_adds 131 = .ok (.iconst 1, 1) := by decide +kernel
theorem dL_adds_132 : decode cL_adds 132 = .ok (.iaload, 1) := by decide +kernel
theorem dL_adds_133 : decode cL_adds 133 = .ok (.istore 6, 2) := by decide +kernel
theorem dL_adds_135 : decode cL_adds 135 = .ok (.aload_n 2, 1) := by decide +kernel
theorem dL_adds_136 : decode cL_adds 136 = .ok (.bipush 8, 2) := by decide +kernel
theorem dL_adds_138 : decode cL_adds 138 = .ok (.iload 6, 2) := by decide +kernel
theorem dL_adds_140 : decode cL_adds 140 = .ok (.imul, 1) := by decide +kernel
theorem dL_adds_141 : decode cL_adds 141 = .ok (.iload 4, 2) := by decide +kernel
theorem dL_adds_143 : decode cL_adds 143 = .ok (.iconst 4, 1) := by decide +kernel
theorem dL_adds_144 : decode cL_adds 144 = .ok (.irem, 1) := by decide +kernel
theorem dL_adds_145 : decode cL_adds 145 = .ok (.iastore, 1) := by decide +kernel
theorem dL_adds_146 : decode cL_adds 146 = .ok (.aload_n 2, 1) := by decide +kernel
theorem dL_adds_147 : decode cL_adds 147 = .ok (.bipush 8, 2) := by decide +kernel
theorem dL_adds_149 : decode cL_adds 149 = .ok (.iload 6, 2) := by decide +kernel
theorem dL_adds_151 : decode cL_adds 151 = .ok (.imul, 1) := by decide +kernel
theorem dL_adds_152 : decode cL_adds 152 = .ok (.iconst 1, 1) := by decide +kernel
theorem dL_adds_153 : decode cL_adds 153 = .ok (.iadd, 1) := by decide +kernel
theorem dL_adds_154 : decode cL_adds 154 = .ok (.bipush 6, 2) := by decide +kernel
theorem dL_adds_156 : decode cL_adds 156 = .ok (.iload 4, 2) := by decide +kernel
theorem dL_adds_158 : decode cL_adds 158 = .ok (.iconst 4, 1) := by decide +kernel
theorem dL_adds_159 : decode cL_adds 159 = .ok (.idiv, 1) := by decide +kernel
theorem dL_adds_160 : decode cL_adds 160 = .ok (.bipush 20, 2) := by decide +kernel
theorem dL_adds_162 : decode cL_adds 162 = .ok (.irem, 1) := by decide +kernel
theorem dL_adds_163 : decode cL_adds 163 = .ok (.iadd, 1) := by decide +kernel
theorem dL_adds_164 : decode cL_adds 164 = .ok (.iastore, 1) := by decide +kernel
theorem dL_adds_165 : decode cL_adds 165 = .ok (.aload_n 2, 1) := by decide +kernel
theorem dL_adds_166 : decode cL_adds 166 = .ok (.bipush 8, 2) := by decide +kernel
theorem dL_adds_168 : decode cL_adds 168 = .ok (.iload 6, 2) := by decide +kernel
theorem dL_adds_170 : decode cL_adds 170 = .ok (.imul, 1) := by decide +kernel
theorem dL_adds_171 : decode cL_adds 171 = .ok (.iconst 5, 1) := by decide +kernel
theorem dL_adds_172 : decode cL_adds 172 = .ok (.iadd, 1) := by decide +kernel
theorem dL_adds_173 : decode cL_adds 173 = .ok (.iconst (-1), 1) := by decide +kernel
theorem dL_adds_174 : decode cL_adds 174 = .ok (.iastore, 1) := by decide +kernel
theorem dL_adds_175 : decode cL_adds 175 = .ok (.aload_n 2, 1) := by decide +kernel
theorem dL_adds_176 : decode cL_adds 176 = .ok (.bipush 8, 2) := by decide +kernel
theorem dL_adds_178 : decode cL_adds 178 = .ok (.iload 6, 2) := by decide +kernel
theorem dL_adds_180 : decode cL_adds 180 = .ok (.imul, 1) := by decide +kernel
theorem dL_adds_181 : decode cL_adds 181 = .ok (.bipush 6, 2) := by decide +kernel
theorem dL_adds_183 : decode cL_adds 183 = .ok (.iadd, 1) := by decide +kernel
theorem dL_adds_184 : decode cL_adds 184 = .ok (.iconst (-1), 1) := by decide +kernel
theorem dL_adds_185 : decode cL_adds 185 = .ok (.iastore, 1) := by decide +kernel
theorem dL_adds_186 : decode cL_adds 186 = .ok (.aload_n 3, 1) := by decide +kernel
theorem dL_adds_187 : decode cL_adds 187 = .ok (.iconst 1, 1) := by decide +kernel
theorem dL_adds_188 : decode cL_adds 188 = .ok (.dup2, 1) := by decide +kernel
theorem dL_adds_189 : decode cL_adds 189 = .ok (.iaload, 1) := by decide +kernel
theorem dL_adds_190 : decode cL_adds 190 = .ok (.iconst 1, 1) := by decide +kernel
theorem dL_adds_191 : decode cL_adds 191 = .ok (.iadd, 1) := by decide +kernel
theorem dL_adds_192 : decode cL_adds 192 = .ok (.iastore, 1) := by decide +kernel
theorem dL_adds_193 : decode cL_adds 193 = .ok (.aload_n 0, 1) := by decide +kernel
theorem dL_adds_194 : decode cL_adds 194 = .ok (.aload_n 2, 1) := by decide +kernel
theorem dL_adds_195 : decode cL_adds 195 = .ok (.bipush 8, 2) := by decide +kernel
theorem dL_adds_197 : decode cL_adds 197 = .ok (.iload 6, 2) := by decide +kernel
theorem dL_adds_199 : decode cL_adds 199 = .ok (.imul, 1) := by decide +kernel
theorem dL_adds_200 : decode cL_adds 200 = .ok (.iaload, 1) := by decide +kernel
theorem dL_adds_201 : decode cL_adds 201 = .ok (.aload_n 2, 1) := by decide +kernel
theorem dL_adds_202 : decode cL_adds 202 = .ok (.bipush 8, 2) := by decide +kernel
theorem dL_adds_204 : decode cL_adds 204 = .ok (.iload 6, 2) := by decide +kernel
theorem dL_adds_206 : decode cL_adds 206 = .ok (.imul, 1) := by decide +kernel
theorem dL_adds_207 : decode cL_adds 207 = .ok (.iconst 1, 1) := by decide +kernel
theorem dL_adds_208 : decode cL_adds 208 = .ok (.iadd, 1) := by decide +kernel
theorem dL_adds_209 : decode cL_adds 209 = .ok (.iaload, 1) := by decide +kernel
theorem dL_adds_210 : decode cL_adds 210 = .ok (.invokevirtual 228, 3) := by decide +kernel
theorem dL_adds_213 : decode cL_adds 213 = .ok (.iload 6, 2) := by decide +kernel
theorem dL_adds_215 : decode cL_adds 215 = .ok (.if_icmp .ne 7, 3) := by decide +kernel
theorem dL_adds_218 : decode cL_adds 218 = .ok (.iconst 1, 1) := by decide +kernel
theorem dL_adds_219 : decode cL_adds 219 = .ok (.goto 4, 3) := by decide +kernel
theorem dL_adds_222 : decode cL_adds 222 = .ok (.iconst 0, 1) := by decide +kernel
theorem dL_adds_223 : decode cL_adds 223 = .ok (.ireturn, 1) := by decide +kernel
theorem dL_isOf_0 : decode cL_isOf 0 = .ok (.iload_n 3, 1) := by decide +kernel
theorem dL_isOf_1 : decode cL_isOf 1 = .ok (.bipush 6, 2) := by decide +kernel
theorem dL_isOf_3 : decode cL_isOf 3 = .ok (.if_icmp .eq 15, 3) := by decide +kernel
theorem dL_isOf_6 : decode cL_isOf 6 = .ok (.iload_n 3, 1) := by decide +kernel
theorem dL_isOf_7 : decode cL_isOf 7 = .ok (.bipush 7, 2) := by decide +kernel
theorem dL_isOf_9 : decode cL_isOf 9 = .ok (.if_icmp .eq 9, 3) := by decide +kernel
theorem dL_isOf_12 : decode cL_isOf 12 = .ok (.iload_n 3, 1) := by decide +kernel
theorem dL_isOf_13 : decode cL_isOf 13 = .ok (.bipush 12, 2) := by decide +kernel
theorem dL_isOf_15 : decode cL_isOf 15 = .ok (.if_icmp .ne 20, 3) := by decide +kernel
theorem dL_isOf_18 : decode cL_isOf 18 = .ok (.aload_n 1, 1) := by decide +kernel
theorem dL_isOf_19 : decode cL_isOf 19 = .ok (.bipush 8, 2) := by decide +kernel
theorem dL_isOf_21 : decode cL_isOf 21 = .ok (.iload 4, 2) := by decide +kernel
theorem dL_isOf_23 : decode cL_isOf 23 = .ok (.imul, 1) := by decide +kernel
theorem dL_isOf_24 : decode cL_isOf 24 = .ok (.iconst 3, 1) := by decide +kernel
theorem dL_isOf_25 : decode cL_isOf 25 = .ok (.iadd, 1) := by decide +kernel
theorem dL_isOf_26 : decode cL_isOf 26 = .ok (.iaload, 1) := by decide +kernel
theorem dL_isOf_27 : decode cL_isOf 27 = .ok (.iload 5, 2) := by decide +kernel
theorem dL_isOf_29 : decode cL_isOf 29 = .ok (.invokestatic 15, 3) := by decide +kernel
theorem dL_isOf_32 : decode cL_isOf 32 = .ok (.goto 50, 3) := by decide +kernel
theorem dL_isOf_35 : decode cL_isOf 35 = .ok (.iload_n 3, 1) := by decide +kernel
theorem dL_isOf_36 : decode cL_isOf 36 = .ok (.bipush 8, 2) := by decide +kernel
theorem dL_isOf_38 : decode cL_isOf 38 = .ok (.if_icmp .ne 17, 3) := by decide +kernel
theorem dL_isOf_41 : decode cL_isOf 41 = .ok (.aload_n 0, 1) := by decide +kernel
theorem dL_isOf_42 : decode cL_isOf 42 = .ok (.iload 5, 2) := by decide +kernel
theorem dL_isOf_44 : decode cL_isOf 44 = .ok (.invokestatic 26, 3) := by decide +kernel
theorem dL_isOf_47 : decode cL_isOf 47 = .ok (.iload 4, 2) := by decide +kernel
theorem dL_isOf_49 : decode cL_isOf 49 = .ok (.invokestatic 15, 3) := by decide +kernel
theorem dL_isOf_52 : decode cL_isOf 52 = .ok (.goto 30, 3) := by decide +kernel
theorem dL_isOf_55 : decode cL_isOf 55 = .ok (.iload_n 3, 1) := by decide +kernel
theorem dL_isOf_56 : decode cL_isOf 56 = .ok (.bipush 9, 2) := by decide +kernel
theorem dL_isOf_58 : decode cL_isOf 58 = .ok (.if_icmp .ne 23, 3) := by decide +kernel
theorem dL_isOf_61 : decode cL_isOf 61 = .ok (.aload_n 2, 1) := by decide +kernel
theorem dL_isOf_62 : decode cL_isOf 62 = .ok (.iload 5, 2) := by decide +kernel
theorem dL_isOf_64 : decode cL_isOf 64 = .ok (.laload, 1) := by decide +kernel
theorem dL_isOf_65 : decode cL_isOf 65 = .ok (.iload 4, 2) := by decide +kernel
theorem dL_isOf_67 : decode cL_isOf 67 = .ok (.invokestatic 9, 3) := by decide +kernel
theorem dL_isOf_70 : decode cL_isOf 70 = .ok (.ifCond .lt 7, 3) := by decide +kernel
theorem dL_isOf_73 : decode cL_isOf 73 = .ok (.iconst 1, 1) := by decide +kernel
theorem dL_isOf_74 : decode cL_isOf 74 = .ok (.goto 8, 3) := by decide +kernel
theorem dL_isOf_77 : decode cL_isOf 77 = .ok (.iconst 0, 1) := by decide +kernel
theorem dL_isOf_78 : decode cL_isOf 78 = .ok (.goto 4, 3) := by decide +kernel
theorem dL_isOf_81 : decode cL_isOf 81 = .ok (.iconst 1, 1) := by decide +kernel
theorem dL_isOf_82 : decode cL_isOf 82 = .ok (.ireturn, 1) := by decide +kernel
theorem dL_law_0 : decode cL_law 0 = .ok (.new 80, 3) := by decide +kernel
theorem dL_law_3 : decode cL_law 3 = .ok (.dup, 1) := by decide +kernel
theorem dL_law_4 : decode cL_law 4 = .ok (.invokespecial 231, 3) := by decide +kernel
theorem dL_law_7 : decode cL_law 7 = .ok (.astore_n 1, 1) := by decide +kernel
theorem dL_law_8 : decode cL_law 8 = .ok (.bipush 64, 2) := by decide +kernel
theorem dL_law_10 : decode cL_law 10 = .ok (.newarray .int, 2) := by decide +kernel
theorem dL_law_12 : decode cL_law 12 = .ok (.astore_n 2, 1) := by decide +kernel
theorem dL_law_13 : decode cL_law 13 = .ok (.bipush 64, 2) := by decide +kernel
theorem dL_law_15 : decode cL_law 15 = .ok (.newarray .int, 2) := by decide +kernel
theorem dL_law_17 : decode cL_law 17 = .ok (.astore_n 3, 1) := by decide +kernel
theorem dL_law_18 : decode cL_law 18 = .ok (.bipush 8, 2) := by decide +kernel
theorem dL_law_20 : decode cL_law 20 = .ok (.newarray .long, 2) := by decide +kernel
theorem dL_law_22 : decode cL_law 22 = .ok (.astore 4, 2) := by decide +kernel
theorem dL_law_24 : decode cL_law 24 = .ok (.iconst 3, 1) := by decide +kernel
theorem dL_law_25 : decode cL_law 25 = .ok (.newarray .int, 2) := by decide +kernel
theorem dL_law_27 : decode cL_law 27 = .ok (.astore 5, 2) := by decide +kernel
theorem dL_law_29 : decode cL_law 29 = .ok (.aload_n 1, 1) := by decide +kernel
theorem dL_law_30 : decode cL_law 30 = .ok (.aload_n 2, 1) := by decide +kernel
theorem dL_law_31 : decode cL_law 31 = .ok (.aload_n 3, 1) := by decide +kernel
theorem dL_law_32 : decode cL_law 32 = .ok (.aload 4, 2) := by decide +kernel
theorem dL_law_34 : decode cL_law 34 = .ok (.aload 5, 2) := by decide +kernel
theorem dL_law_36 : decode cL_law 36 = .ok (.invokestatic 232, 3) := by decide +kernel
theorem dL_law_39 : decode cL_law 39 = .ok (.istore 6, 2) := by decide +kernel
theorem dL_law_41 : decode cL_law 41 = .ok (.iconst 0, 1) := by decide +kernel
theorem dL_law_42 : decode cL_law 42 = .ok (.istore 7, 2) := by decide +kernel
theorem dL_law_44 : decode cL_law 44 = .ok (.iload 7, 2) := by decide +kernel
theorem dL_law_46 : decode cL_law 46 = .ok (.bipush 100, 2) := by decide +kernel
theorem dL_law_48 : decode cL_law 48 = .ok (.if_icmp .ge 508, 3) := by decide +kernel
theorem dL_law_51 : decode cL_law 51 = .ok (.iload 6, 2) := by decide +kernel
theorem dL_law_53 : decode cL_law 53 = .ok (.ifCond .eq 503, 3) := by decide +kernel
theorem dL_law_56 : decode cL_law 56 = .ok (.iload 7, 2) := by decide +kernel
theorem dL_law_58 : decode cL_law 58 = .ok (.aload_n 0, 1) := by decide +kernel
theorem dL_law_59 : decode cL_law 59 = .ok (.arraylength, 1) := by decide +kernel
theorem dL_law_60 : decode cL_law 60 = .ok (.if_icmp .ge 13, 3) := by decide +kernel
theorem dL_law_63 : decode cL_law 63 = .ok (.aload_n 0, 1) := by decide +kernel
theorem dL_law_64 : decode cL_law 64 = .ok (.iload 7, 2) := by decide +kernel
theorem dL_law_66 : decode cL_law 66 = .ok (.iaload, 1) := by decide +kernel
theorem dL_law_67 : decode cL_law 67 = .ok (.ldc 74, 2) := by decide +kernel
theorem dL_law_69 : decode cL_law 69 = .ok (.iand, 1) := by decide +kernel
theorem dL_law_70 : decode cL_law 70 = .ok (.goto 23, 3) := by decide +kernel
theorem dL_law_73 : decode cL_law 73 = .ok (.ldc 236, 2) := by decide +kernel
theorem dL_law_75 : decode cL_law 75 = .ok (.iload 7, 2) := by decide +kernel
theorem dL_law_77 : decode cL_law 77 = .ok (.imul, 1) := by decide +kernel
theorem dL_law_78 : decode cL_law 78 = .ok (.iload 7, 2) := by decide +kernel
theorem dL_law_80 : decode cL_law 80 = .ok (.imul, 1) := by decide +kernel
theorem dL_law_81 : decode cL_law 81 = .ok (.ldc 237, 2) := by decide +kernel
theorem dL_law_83 : decode cL_law 83 = .ok (.iload 7, 2) := by decide +kernel
theorem dL_law_85 : decode cL_law 85 = .ok (.imul, 1) := by decide +kernel
theorem dL_law_86 : decode cL_law 86 = .ok (.iadd, 1) := by decide +kernel
theorem dL_law_87 : decode cL_law 87 = .ok (.bipush 17, 2) := by decide +kernel
theorem dL_law_89 : decode cL_law 89 = .ok (.iadd, 1) := by decide +kernel
theorem dL_law_90 : decode cL_law 90 = .ok (.ldc 74, 2) := by decide +kernel
theorem dL_law_92 : decode cL_law 92 = .ok (.iand, 1) := by decide +kernel
theorem dL_law_93 : decode cL_law 93 = .ok (.istore 8, 2) := by decide +kernel
theorem dL_law_95 : decode cL_law 95 = .ok (.iload 7, 2) := by decide +kernel
theorem dL_law_97 : decode cL_law 97 = .ok (.bipush 10, 2) := by decide +kernel
theorem dL_law_99 : decode cL_law 99 = .ok (.if_icmp .lt 42, 3) := by decide +kernel
theorem dL_law_102 : decode cL_law 102 = .ok (.iload 8, 2) := by decide +kernel
theorem dL_law_104 : decode cL_law 104 = .ok (.bipush 41, 2) := by decide +kernel
theorem dL_law_106 : decode cL_law 106 = .ok (.irem, 1) := by decide +kernel
theorem dL_law_107 : decode cL_law 107 = .ok (.ifCond .ne 89, 3) := by decide +kernel
theorem dL_law_110 : decode cL_law 110 = .ok (.iload 8, 2) := by decide +kernel
theorem dL_law_112 : decode cL_law 112 = .ok (.bipush 41, 2) := by decide +kernel
theorem dL_law_114 : decode cL_law 114 = .ok (.idiv, 1) := by decide +kernel
theorem dL_law_115 : decode cL_law 115 = .ok (.iconst 2, 1) := by decide +kernel
theorem dL_law_116 : decode cL_law 116 = .ok (.irem, 1) := by decide +kernel
theorem dL_law_117 : decode cL_law 117 = .ok (.ifCond .ne 15, 3) := by decide +kernel
theorem dL_law_120 : decode cL_law 120 = .ok (.aload 5, 2) := by decide +kernel
theorem dL_law_122 : decode cL_law 122 = .ok (.iconst 0, 1) := by decide +kernel
theorem dL_law_123 : decode cL_law 123 = .ok (.iaload, 1) := by decide +kernel
theorem dL_law_124 : decode cL_law 124 = .ok (.bipush 8, 2) := by decide +kernel
theorem dL_law_126 : decode cL_law 126 = .ok (.if_icmp .ge 70, 3) := by decide +kernel
theorem dL_law_129 : decode cL_law 129 = .ok (.goto 12, 3) := by decide +kernel
theorem dL_law_132 : decode cL_law 132 = .ok (.aload 5, 2) := by decide +kernel
theorem dL_law_134 : decode cL_law 134 = .ok (.iconst 1, 1) := by decide +kernel
theorem dL_law_135 : decode cL_law 135 = .ok (.iaload, 1) := by decide +kernel
theorem dL_law_136 : decode cL_law 136 = .ok (.bipush 8, 2) := by decide +kernel
theorem dL_law_138 : decode cL_law 138 = .ok (.if_icmp .ge 58, 3) := by decide +kernel
theorem dL_law_141 : decode cL_law 141 = .ok (.aload_n 1, 1) := by decide +kernel
theorem dL_law_142 : decode cL_law 142 = .ok (.aload_n 2, 1) := by decide +kernel
theorem dL_law_143 : decode cL_law 143 = .ok (.aload_n 3, 1) := by decide +kernel
theorem dL_law_144 : decode cL_law 144 = .ok (.aload 5, 2) := by decide +kernel
theorem dL_law_146 : decode cL_law 146 = .ok (.iload 8, 2) := by decide +kernel
theorem dL_law_148 : decode cL_law 148 = .ok (.bipush 82, 2) := by decide +kernel
theorem dL_law_150 : decode cL_law 150 = .ok (.idiv, 1) := by decide +kernel
theorem dL_law_151 : decode cL_law 151 = .ok (.iload 7, 2) := by decide +kernel
theorem dL_law_153 : decode cL_law 153 = .ok (.bipush 10, 2) := by decide +kernel
theorem dL_law_155 : decode cL_law 155 = .ok (.if_icmp .ge 18, 3) := by decide +kernel
theorem dL_law_158 : decode cL_law 158 = .ok (.iload 7, 2) := by decide +kernel
theorem dL_law_160 : decode cL_law 160 = .ok (.iconst 2, 1) := by decide +kernel
theorem dL_law_161 : decode cL_law 161 = .ok (.irem, 1) := by decide +kernel
theorem dL_law_162 : decode cL_law 162 = .ok (.ifCond .ne 7, 3) := by decide +kernel
theorem dL_law_165 : decode cL_law 165 = .ok (.iconst 1, 1) := by decide +kernel
theorem dL_law_166 : decode cL_law 166 = .ok (.goto 22, 3) := by decide +kernel
theorem dL_law_169 : decode cL_law 169 = .ok (.iconst 0, 1) := by decide +kernel
theorem dL_law_170 : decode cL_law 170 = .ok (.goto 18, 3) := by decide +kernel
theorem dL_law_173 : decode cL_law 173 = .ok (.iload 8, 2) := by decide +kernel
theorem dL_law_175 : decode cL_law 175 = .ok (.bipush 41, 2) := by decide +kernel
theorem dL_law_177 : decode cL_law 177 = .ok (.idiv, 1) := by decide +kernel
theorem dL_law_178 : decode cL_law 178 = .ok (.iconst 2, 1) := by decide +kernel
theorem dL_law_179 : decode cL_law 179 = .ok (.irem, 1) := by decide +kernel
theorem dL_law_180 : decode cL_law 180 = .ok (.ifCond .ne 7, 3) := by decide +kernel
theorem dL_law_183 : decode cL_law 183 = .ok (.iconst 1, 1) := by decide +kernel
theorem dL_law_184 : decode cL_law 184 = .ok (.goto 4, 3) := by decide +kernel
theorem dL_law_187 : decode cL_law 187 = .ok (.iconst 0, 1) := by decide +kernel
theorem dL_law_188 : decode cL_law 188 = .ok (.invokestatic 238, 3) := by decide +kernel
theorem dL_law_191 : decode cL_law 191 = .ok (.istore 6, 2) := by decide +kernel
theorem dL_law_193 : decode cL_law 193 = .ok (.goto 283, 3) := by decide +kernel
theorem dL_law_196 : decode cL_law 196 = .ok (.iload 8, 2) := by decide +kernel
theorem dL_law_198 : decode cL_law 198 = .ok (.bipush 41, 2) := by decide +kernel
theorem dL_law_200 : decode cL_law 200 = .ok (.irem, 1) := by decide +kernel
theorem dL_law_201 : decode cL_law 201 = .ok (.bipush 6, 2) := by decide +kernel
theorem dL_law_203 : decode cL_law 203 = .ok (.if_icmp .ge 7, 3) := by decide +kernel
theorem dL_law_206 : decode cL_law 206 = .ok (.iconst 3, 1) := by decide +kernel
theorem dL_law_207 : decode cL_law 207 = .ok (.goto 55, 3) := by decide +kernel
theorem dL_law_210 : decode cL_law 210 = .ok (.iload 8, 2) := by decide +kernel
theorem dL_law_212 : decode cL_law 212 = .ok (.bipush 41, 2) := by decide +kernel
theorem dL_law_214 : decode cL_law 214 = .ok (.irem, 1) := by decide +kernel
theorem dL_law_215 : decode cL_law 215 = .ok (.bipush 12, 2) := by decide +kernel
theorem dL_law_217 : decode cL_law 217 = .ok (.if_icmp .ge 7, 3) := by decide +kernel
theorem dL_law_220 : decode cL_law 220 = .ok (.iconst 5, 1) := by decide +kernel
theorem dL_law_221 : decode cL_law 221 = .ok (.goto 41, 3) := by decide +kernel
theorem dL_law_224 : decode cL_law 224 = .ok (.iload 8, 2) := by decide +kernel
theorem dL_law_226 : decode cL_law 226 = .ok (.bipush 41, 2) := by decide +kernel
theorem dL_law_228 : decode cL_law 228 = .ok (.irem, 1) := by decide +kernel
theorem dL_law_229 : decode cL_law 229 = .ok (.bipush 15, 2) := by decide +kernel
theorem dL_law_231 : decode cL_law 231 = .ok (.if_icmp .ge 8, 3) := by decide +kernel
theorem dL_law_234 : decode cL_law 234 = .ok (.bipush 12, 2) := by decide +kernel
theorem dL_law_236 : decode cL_law 236 = .ok (.goto 26, 3) := by decide +kernel
theorem dL_law_239 : decode cL_law 239 = .ok (.iload 8, 2) := by decide +kernel
theorem dL_law_241 : decode cL_law 241 = .ok (.bipush 41, 2) := by decide +kernel
theorem dL_law_243 : decode cL_law 243 = .ok (.irem, 1) := by decide +kernel
theorem dL_law_244 : decode cL_law 244 = .ok (.bipush 37, 2) := by decide +kernel
theorem dL_law_246 : decode cL_law 246 = .ok (.if_icmp .le 8, 3) := by decide +kernel
theorem dL_law_249 : decode cL_law 249 = .ok (.bipush 14, 2) := by decide +kernel
theorem dL_law_251 : decode cL_law 251 = .ok (.goto 11, 3) := by decide +kernel
theorem dL_law_254 : decode cL_law 254 = .ok (.iload 8, 2) := by decide +kernel
theorem dL_law_256 : decode cL_law 256 = .ok (.bipush 41, 2) := by decide +kernel
theorem dL_law_258 : decode cL_law 258 = .ok (.irem, 1) := by decide +kernel
theorem dL_law_259 : decode cL_law 259 = .ok (.bipush 15, 2) := by decide +kernel
theorem dL_law_261 : decode cL_law 261 = .ok (.irem, 1) := by decide +kernel
theorem dL_law_262 : decode cL_law 262 = .ok (.istore 9, 2) := by decide +kernel
theorem dL_law_264 : decode cL_law 264 = .ok (.iload 8, 2) := by decide +kernel
theorem dL_law_266 : decode cL_law 266 = .ok (.bipush 41, 2) := by decide +kernel
theorem dL_law_268 : decode cL_law 268 = .ok (.idiv, 1) := by decide +kernel
theorem dL_law_269 : decode cL_law 269 = .ok (.aload 5, 2) := by decide +kernel
theorem dL_law_271 : decode cL_law 271 = .ok (.iconst 1, 1) := by decide +kernel
theorem dL_law_272 : decode cL_law 272 = .ok (.iaload, 1) := by decide +kernel
theorem dL_law_273 : decode cL_law 273 = .ok (.irem, 1) := by decide +kernel
theorem dL_law_274 : decode cL_law 274 = .ok (.istore 10, 2) := by decide +kernel
theorem dL_law_276 : decode cL_law 276 = .ok (.iload 8, 2) := by decide +kernel
theorem dL_law_278 : decode cL_law 278 = .ok (.sipush 328, 3) := by decide +kernel
theorem dL_law_281 : decode cL_law 281 = .ok (.idiv, 1) := by decide +kernel
theorem dL_law_282 : decode cL_law 282 = .ok (.aload 5, 2) := by decide +kernel
theorem dL_law_284 : decode cL_law 284 = .ok (.iconst 0, 1) := by decide +kernel
theorem dL_law_285 : decode cL_law 285 = .ok (.iaload, 1) := by decide +kernel
theorem dL_law_286 : decode cL_law 286 = .ok (.irem, 1) := by decide +kernel
theorem dL_law_287 : decode cL_law 287 = .ok (.istore 11, 2) := by decide +kernel
theorem dL_law_289 : decode cL_law 289 = .ok (.iload 8, 2) := by decide +kernel
theorem dL_law_291 : decode cL_law 291 = .ok (.sipush 2624, 3) := by decide +kernel
theorem dL_law_294 : decode cL_law 294 = .ok (.idiv, 1) := by decide +kernel
theorem dL_law_295 : decode cL_law 295 = .ok (.aload 5, 2) := by decide +kernel
theorem dL_law_297 : decode cL_law 297 = .ok (.iconst 0, 1) := by decide +kernel
theorem dL_law_298 : decode cL_law 298 = .ok (.iaload, 1) := by decide +kernel
theorem dL_law_299 : decode cL_law 299 = .ok (.irem, 1) := by decide +kernel
theorem dL_law_300 : decode cL_law 300 = .ok (.istore 12, 2) := by decide +kernel
theorem dL_law_302 : decode cL_law 302 = .ok (.iload 9, 2) := by decide +kernel
theorem dL_law_304 : decode cL_law 304 = .ok (.iconst 2, 1) := by decide +kernel
theorem dL_law_305 : decode cL_law 305 = .ok (.if_icmp .ge 31, 3) := by decide +kernel
theorem dL_law_308 : decode cL_law 308 = .ok (.iload 12, 2) := by decide +kernel
theorem dL_law_310 : decode cL_law 310 = .ok (.istore 10, 2) := by decide +kernel
theorem dL_law_312 : decode cL_law 312 = .ok (.iload 9, 2) := by decide +kernel
theorem dL_law_314 : decode cL_law 314 = .ok (.ifCond .ne 15, 3) := by decide +kernel
theorem dL_law_317 : decode cL_law 317 = .ok (.iload 8, 2) := by decide +kernel
theorem dL_law_319 : decode cL_law 319 = .ok (.sipush 328, 3) := by decide +kernel
theorem dL_law_322 : decode cL_law 322 = .ok (.idiv, 1) := by decide +kernel
theorem dL_law_323 : decode cL_law 323 = .ok (.bipush 17, 2) := by decide +kernel
theorem dL_law_325 : decode cL_law 325 = .ok (.irem, 1) := by decide +kernel
theorem dL_law_326 : decode cL_law 326 = .ok (.goto 5, 3) := by decide +kernel
theorem dL_law_329 : decode cL_law 329 = .ok (.iload 11, 2) := by decide +kernel
theorem dL_law_331 : decode cL_law 331 = .ok (.istore 11, 2) := by decide +kernel
theorem dL_law_333 : decode cL_law 333 = .ok (.goto 91, 3) := by decide +kernel
theorem dL_law_336 : decode cL_law 336 = .ok (.iload 9, 2) := by decide +kernel
theorem dL_law_338 : decode cL_law 338 = .ok (.bipush 10, 2) := by decide +kernel
theorem dL_law_340 : decode cL_law 340 = .ok (.if_icmp .ne 18, 3) := by decide +kernel
theorem dL_law_343 : decode cL_law 343 = .ok (.iconst 1, 1) := by decide +kernel
theorem dL_law_344 : decode cL_law 344 = .ok (.iload 8, 2) := by decide +kernel
theorem dL_law_346 : decode cL_law 346 = .ok (.bipush 41, 2) := by decide +kernel
theorem dL_law_348 : decode cL_law 348 = .ok (.idiv, 1) := by decide +kernel
theorem dL_law_349 : decode cL_law 349 = .ok (.bipush 7, 2) := by decide +kernel
theorem dL_law_351 : decode cL_law 351 = .ok (.irem, 1) := by decide +kernel
theorem dL_law_352 : decode cL_law 352 = .ok (.iadd, 1) := by decide +kernel
theorem dL_law_353 : decode cL_law 353 = .ok (.istore 10, 2) := by decide +kernel
theorem dL_law_355 : decode cL_law 355 = .ok (.goto 69, 3) := by decide +kernel
theorem dL_law_358 : decode cL_law 358 = .ok (.iload 9, 2) := by decide +kernel
theorem dL_law_360 : decode cL_law 360 = .ok (.bipush 11, 2) := by decide +kernel
theorem dL_law_362 : decode cL_law 362 = .ok (.if_icmp .ne 10, 3) := by decide +kernel
theorem dL_law_365 : decode cL_law 365 = .ok (.iload 8, 2) := by decide +kernel
theorem dL_law_367 : decode cL_law 367 = .ok (.istore 10, 2) := by decide +kernel
theorem dL_law_369 : decode cL_law 369 = .ok (.goto 55, 3) := by decide +kernel
theorem dL_law_372 : decode cL_law 372 = .ok (.iconst 0, 1) := by decide +kernel
theorem dL_law_373 : decode cL_law 373 = .ok (.istore 13, 2) := by decide +kernel
theorem dL_law_375 : decode cL_law 375 = .ok (.iload 13, 2) := by decide +kernel
theorem dL_law_377 : decode cL_law 377 = .ok (.aload 5, 2) := by decide +kernel
theorem dL_law_379 : decode cL_law 379 = .ok (.iconst 0, 1) := by decide +kernel
theorem dL_law_380 : decode cL_law 380 = .ok (.iaload, 1) := by decide +kernel
theorem dL_law_381 : decode cL_law 381 = .ok (.if_icmp .ge 43, 3) := by decide +kernel
theorem dL_law_384 : decode cL_law 384 = .ok (.iload 8, 2) := by decide +kernel
theorem dL_law_386 : decode cL_law 386 = .ok (.iconst 5, 1) := by decide +kernel
theorem dL_law_387 : decode cL_law 387 = .ok (.irem, 1) := by decide +kernel
theorem dL_law_388 : decode cL_law 388 = .ok (.ifCond .le 36, 3) := by decide +kernel
theorem dL_law_391 : decode cL_law 391 = .ok (.aload_n 2, 1) := by decide +kernel
theorem dL_law_392 : decode cL_law 392 = .ok (.aload_n 3, 1) := by decide +kernel
theorem dL_law_393 : decode cL_law 393 = .ok (.aload 4, 2) := by decide +kernel
theorem dL_law_395 : decode cL_law 395 = .ok (.iload 9, 2) := by decide +kernel
theorem dL_law_397 : decode cL_law 397 = .ok (.iload 10, 2) := by decide +kernel
theorem dL_law_399 : decode cL_law 399 = .ok (.iload 11, 2) := by decide +kernel
theorem dL_law_401 : decode cL_law 401 = .ok (.invokestatic 242, 3) := by decide +kernel
theorem dL_law_404 : decode cL_law 404 = .ok (.ifCond .ne 20, 3) := by decide +kernel
theorem dL_law_407 : decode cL_law 407 = .ok (.iload 11, 2) := by decide +kernel
theorem dL_law_409 : decode cL_law 409 = .ok (.iconst 1, 1) := by decide +kernel
theorem dL_law_410 : decode cL_law 410 = .ok (.iadd, 1) := by decide +kernel
theorem dL_law_411 : decode cL_law 411 = .ok (.aload 5, 2) := by decide +kernel
theorem dL_law_413 : decode cL_law 413 = .ok (.iconst 0, 1) := by decide +kernel
theorem dL_law_414 : decode cL_law 414 = .ok (.iaload, 1) := by decide +kernel
theorem dL_law_415 : decode cL_law 415 = .ok (.irem, 1) := by decide +kernel
theorem dL_law_416 : decode cL_law 416 = .ok (.istore 11, 2) := by decide +kernel
theorem dL_law_418 : decode cL_law 418 = .ok (.iinc 13 1, 3) := by decide +kernel
theorem dL_law_421 : decode cL_law 421 = .ok (.goto (-46), 3) := by decide +kernel
theorem dL_law_424 : decode cL_law 424 = .ok (.aload_n 2, 1) := by decide +kernel
theorem dL_law_425 : decode cL_law 425 = .ok (.aload_n 3, 1) := by decide +kernel
theorem dL_law_426 : decode cL_law 426 = .ok (.aload 4, 2) := by decide +kernel
theorem dL_law_428 : decode cL_law 428 = .ok (.aload 5, 2) := by decide +kernel
theorem dL_law_430 : decode cL_law 430 = .ok (.iload 9, 2) := by decide +kernel
theorem dL_law_432 : decode cL_law 432 = .ok (.iload 10, 2) := by decide +kernel
theorem dL_law_434 : decode cL_law 434 = .ok (.iload 11, 2) := by decide +kernel
theorem dL_law_436 : decode cL_law 436 = .ok (.iload 12, 2) := by decide +kernel
theorem dL_law_438 : decode cL_law 438 = .ok (.invokestatic 246, 3) := by decide +kernel
theorem dL_law_441 : decode cL_law 441 = .ok (.istore 13, 2) := by decide +kernel
theorem dL_law_443 : decode cL_law 443 = .ok (.aload_n 2, 1) := by decide +kernel
theorem dL_law_444 : decode cL_law 444 = .ok (.aload_n 3, 1) := by decide +kernel
theorem dL_law_445 : decode cL_law 445 = .ok (.aload 4, 2) := by decide +kernel
theorem dL_law_447 : decode cL_law 447 = .ok (.aload 5, 2) := by decide +kernel
theorem dL_law_449 : decode cL_law 449 = .ok (.invokestatic 64, 3) := by decide +kernel
theorem dL_law_452 : decode cL_law 452 = .ok (.aload_n 1, 1) := by decide +kernel
theorem dL_law_453 : decode cL_law 453 = .ok (.iload 9, 2) := by decide +kernel
theorem dL_law_455 : decode cL_law 455 = .ok (.iload 10, 2) := by decide +kernel
theorem dL_law_457 : decode cL_law 457 = .ok (.iload 11, 2) := by decide +kernel
theorem dL_law_459 : decode cL_law 459 = .ok (.iload 12, 2) := by decide +kernel
theorem dL_law_461 : decode cL_law 461 = .ok (.invokestatic 250, 3) := by decide +kernel
theorem dL_law_464 : decode cL_law 464 = .ok (.iload 13, 2) := by decide +kernel
theorem dL_law_466 : decode cL_law 466 = .ok (.if_icmp .ne 7, 3) := by decide +kernel
theorem dL_law_469 : decode cL_law 469 = .ok (.iconst 1, 1) := by decide +kernel
theorem dL_law_470 : decode cL_law 470 = .ok (.goto 4, 3) := by decide +kernel
theorem dL_law_473 : decode cL_law 473 = .ok (.iconst 0, 1) := by decide +kernel
theorem dL_law_474 : decode cL_law 474 = .ok (.istore 6, 2) := by decide +kernel
theorem dL_law_476 : decode cL_law 476 = .ok (.iload 6, 2) := by decide +kernel
theorem dL_law_478 : decode cL_law 478 = .ok (.ifCond .eq 69, 3) := by decide +kernel
theorem dL_law_481 : decode cL_law 481 = .ok (.aload_n 1, 1) := by decide +kernel
theorem dL_law_482 : decode cL_law 482 = .ok (.aload_n 2, 1) := by decide +kernel
theorem dL_law_483 : decode cL_law 483 = .ok (.aload_n 3, 1) := by decide +kernel
theorem dL_law_484 : decode cL_law 484 = .ok (.aload 4, 2) := by decide +kernel
theorem dL_law_486 : decode cL_law 486 = .ok (.aload 5, 2) := by decide +kernel
theorem dL_law_488 : decode cL_law 488 = .ok (.invokestatic 232, 3) := by decide +kernel
theorem dL_law_491 : decode cL_law 491 = .ok (.ifCond .eq 56, 3) := by decide +kernel
theorem dL_law_494 : decode cL_law 494 = .ok (.aload_n 1, 1) := by decide +kernel
theorem dL_law_495 : decode cL_law 495 = .ok (.aload_n 2, 1) := by decide +kernel
theorem dL_law_496 : decode cL_law 496 = .ok (.aload_n 3, 1) := by decide +kernel
theorem dL_law_497 : decode cL_law 497 = .ok (.aload 5, 2) := by decide +kernel
theorem dL_law_499 : decode cL_law 499 = .ok (.invokestatic 254, 3) := by decide +kernel
theorem dL_law_502 : decode cL_law 502 = .ok (.ifCond .eq 45, 3) := by decide +kernel
theorem dL_law_505 : decode cL_law 505 = .ok (.aload 5, 2) := by decide +kernel
theorem dL_law_507 : decode cL_law 507 = .ok (.iconst 1, 1) := by decide +kernel
theorem dL_law_508 : decode cL_law 508 = .ok (.iaload, 1) := by decide +kernel
theorem dL_law_509 : decode cL_law 509 = .ok (.ifCond .eq 34, 3) := by decide +kernel
theorem dL_law_512 : decode cL_law 512 = .ok (.aload_n 1, 1) := by decide +kernel
theorem dL_law_513 : decode cL_law 513 = .ok (.aload_n 2, 1) := by decide +kernel
theorem dL_law_514 : decode cL_law 514 = .ok (.aload_n 3, 1) := by decide +kernel
theorem dL_law_515 : decode cL_law 515 = .ok (.aload 5, 2) := by decide +kernel
theorem dL_law_517 : decode cL_law 517 = .ok (.iload 8, 2) := by decide +kernel
theorem dL_law_519 : decode cL_law 519 = .ok (.bipush 7, 2) := by decide +kernel
theorem dL_law_521 : decode cL_law 521 = .ok (.idiv, 1) := by decide +kernel
theorem dL_law_522 : decode cL_law 522 = .ok (.aload 5, 2) := by decide +kernel
theorem dL_law_524 : decode cL_law 524 = .ok (.iconst 1, 1) := by decide +kernel
theorem dL_law_525 : decode cL_law 525 = .ok (.iaload, 1) := by decide +kernel
theorem dL_law_526 : decode cL_law 526 = .ok (.irem, 1) := by decide +kernel
theorem dL_law_527 : decode cL_law 527 = .ok (.iload 8, 2) := by decide +kernel
theorem dL_law_529 : decode cL_law 529 = .ok (.bipush 11, 2) := by decide +kernel
theorem dL_law_531 : decode cL_law 531 = .ok (.idiv, 1) := by decide +kernel
theorem dL_law_532 : decode cL_law 532 = .ok (.aload 5, 2) := by decide +kernel
theorem dL_law_534 : decode cL_law 534 = .ok (.iconst 0, 1) := by decide +kernel
theorem dL_law_535 : decode cL_law 535 = .ok (.iaload, 1) := by decide +kernel
theorem dL_law_536 : decode cL_law 536 = .ok (.irem, 1) := by decide +kernel
theorem dL_law_537 : decode cL_law 537 = .ok (.invokestatic 258, 3) := by decide +kernel
theorem dL_law_540 : decode cL_law 540 = .ok (.ifCond .eq 7, 3) := by decide +kernel
theorem dL_law_543 : decode cL_law 543 = .ok (.iconst 1, 1) := by decide +kernel
theorem dL_law_544 : decode cL_law 544 = .ok (.goto 4, 3) := by decide +kernel
theorem dL_law_547 : decode cL_law 547 = .ok (.iconst 0, 1) := by decide +kernel
theorem dL_law_548 : decode cL_law 548 = .ok (.istore 6, 2) := by decide +kernel
theorem dL_law_550 : decode cL_law 550 = .ok (.iinc 7 1, 3) := by decide +kernel
theorem dL_law_553 : decode cL_law 553 = .ok (.goto (-509), 3) := by decide +kernel
theorem dL_law_556 : decode cL_law 556 = .ok (.iload 6, 2) := by decide +kernel
theorem dL_law_558 : decode cL_law 558 = .ok (.ireturn, 1) := by decide +kernel
