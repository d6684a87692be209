theorem dX4_init_0 : decode cX4_init 0 = .ok (.aload_n 0, 1) := by decide +kernel
theorem dX4_init_1 : decode cX4_init 1 = .ok (.invokespecial 1, 3) := by decide +kernel
theorem dX4_init_4 : decode cX4_init 4 = .ok (.aload_n 0, 1) := by decide +kernel
theorem dX4_init_5 : decode cX4_init 5 = .ok (.bipush 20, 2) := by decide +kernel
theorem dX4_init_7 : decode cX4_init 7 = .ok (.newarray .int, 2) := by decide +kernel
theorem dX4_init_9 : decode cX4_init 9 = .ok (.putfield 7, 3) := by decide +kernel
theorem dX4_init_12 : decode cX4_init 12 = .ok (.aload_n 0, 1) := by decide +kernel
theorem dX4_init_13 : decode cX4_init 13 = .ok (.bipush 20, 2) := by decide +kernel
theorem dX4_init_15 : decode cX4_init 15 = .ok (.newarray .int, 2) := by decide +kernel
theorem dX4_init_17 : decode cX4_init 17 = .ok (.putfield 13, 3) := by decide +kernel
theorem dX4_init_20 : decode cX4_init 20 = .ok (.aload_n 0, 1) := by decide +kernel
theorem dX4_init_21 : decode cX4_init 21 = .ok (.bipush 20, 2) := by decide +kernel
theorem dX4_init_23 : decode cX4_init 23 = .ok (.newarray .int, 2) := by decide +kernel
theorem dX4_init_25 : decode cX4_init 25 = .ok (.putfield 16, 3) := by decide +kernel
theorem dX4_init_28 : decode cX4_init 28 = .ok (.aload_n 0, 1) := by decide +kernel
theorem dX4_init_29 : decode cX4_init 29 = .ok (.bipush 20, 2) := by decide +kernel
theorem dX4_init_31 : decode cX4_init 31 = .ok (.newarray .int, 2) := by decide +kernel
theorem dX4_init_33 : decode cX4_init 33 = .ok (.putfield 19, 3) := by decide +kernel
theorem dX4_init_36 : decode cX4_init 36 = .ok (.aload_n 0, 1) := by decide +kernel
theorem dX4_init_37 : decode cX4_init 37 = .ok (.bipush 16, 2) := by decide +kernel
theorem dX4_init_39 : decode cX4_init 39 = .ok (.newarray .int, 2) := by decide +kernel
theorem dX4_init_41 : decode cX4_init 41 = .ok (.putfield 22, 3) := by decide +kernel
theorem dX4_init_44 : decode cX4_init 44 = .ok (.aload_n 0, 1) := by decide +kernel
theorem dX4_init_45 : decode cX4_init 45 = .ok (.bipush 16, 2) := by decide +kernel
theorem dX4_init_47 : decode cX4_init 47 = .ok (.newarray .int, 2) := by decide +kernel
theorem dX4_init_49 : decode cX4_init 49 = .ok (.putfield 25, 3) := by decide +kernel
theorem dX4_init_52 : decode cX4_init 52 = .ok (.aload_n 0, 1) := by decide +kernel
theorem dX4_init_53 : decode cX4_init 53 = .ok (.bipush 16, 2) := by decide +kernel
theorem dX4_init_55 : decode cX4_init 55 = .ok (.newarray .int, 2) := by decide +kernel
theorem dX4_init_57 : decode cX4_init 57 = .ok (.putfield 28, 3) := by decide +kernel
theorem dX4_init_60 : decode cX4_init 60 = .ok (.aload_n 0, 1) := by decide +kernel
theorem dX4_init_61 : decode cX4_init 61 = .ok (.bipush 16, 2) := by decide +kernel
theorem dX4_init_63 : decode cX4_init 63 = .ok (.newarray .int, 2) := by decide +kernel
theorem dX4_init_65 : decode cX4_init 65 = .ok (.putfield 31, 3) := by decide +kernel
theorem dX4_init_68 : decode cX4_init 68 = .ok (.aload_n 0, 1) := by decide +kernel
theorem dX4_init_69 : decode cX4_init 69 = .ok (.bipush 16, 2) := by decide +kernel
theorem dX4_init_71 : decode cX4_init 71 = .ok (.newarray .int, 2) := by decide +kernel
theorem dX4_init_73 : decode cX4_init 73 = .ok (.putfield 34, 3) := by decide +kernel
theorem dX4_init_76 : decode cX4_init 76 = .ok (.aload_n 0, 1) := by decide +kernel
theorem dX4_init_77 : decode cX4_init 77 = .ok (.bipush 96, 2) := by decide +kernel
theorem dX4_init_79 : decode cX4_init 79 = .ok (.newarray .int, 2) := by decide +kernel
theorem dX4_init_81 : decode cX4_init 81 = .ok (.putfield 37, 3) := by decide +kernel
theorem dX4_init_84 : decode cX4_init 84 = .ok (.aload_n 0, 1) := by decide +kernel
theorem dX4_init_85 : decode cX4_init 85 = .ok (.bipush 16, 2) := by decide +kernel
theorem dX4_init_87 : decode cX4_init 87 = .ok (.newarray .int, 2) := by decide +kernel
theorem dX4_init_89 : decode cX4_init 89 = .ok (.putfield 40, 3) := by decide +kernel
theorem dX4_init_92 : decode cX4_init 92 = .ok (.aload_n 0, 1) := by decide +kernel
theorem dX4_init_93 : decode cX4_init 93 = .ok (.bipush 16, 2) := by decide +kernel
theorem dX4_init_95 : decode cX4_init 95 = .ok (.newarray .int, 2) := by decide +kernel
theorem dX4_init_97 : decode cX4_init 97 = .ok (.putfield 43, 3) := by decide +kernel
theorem dX4_init_100 : decode cX4_init 100 = .ok (.aload_n 0, 1) := by decide +kernel
theorem dX4_init_101 : decode cX4_init 101 = .ok (.bipush 20, 2) := by decide +kernel
theorem dX4_init_103 : decode cX4_init 103 = .ok (.newarray .int, 2) := by decide +kernel
theorem dX4_init_105 : decode cX4_init 105 = .ok (.putfield 46, 3) := by decide +kernel
theorem dX4_init_108 : decode cX4_init 108 = .ok (.aload_n 0, 1) := by decide +kernel
theorem dX4_init_109 : decode cX4_init 109 = .ok (.sipush 320, 3) := by decide +kernel
theorem dX4_init_112 : decode cX4_init 112 = .ok (.newarray .int, 2) := by decide +kernel
theorem dX4_init_114 : decode cX4_init 114 = .ok (.putfield 49, 3) := by decide +kernel
theorem dX4_init_117 : decode cX4_init 117 = .ok (.aload_n 0, 1) := by decide +kernel
theorem dX4_init_118 : decode cX4_init 118 = .ok (.sipush 320, 3) := by decide +kernel
theorem dX4_init_121 : decode cX4_init 121 = .ok (.newarray .int, 2) := by decide +kernel
theorem dX4_init_123 : decode cX4_init 123 = .ok (.putfield 52, 3) := by decide +kernel
theorem dX4_init_126 : decode cX4_init 126 = .ok (.aload_n 0, 1) := by decide +kernel
theorem dX4_init_127 : decode cX4_init 127 = .ok (.bipush 20, 2) := by decide +kernel
theorem dX4_init_129 : decode cX4_init 129 = .ok (.newarray .int, 2) := by decide +kernel
theorem dX4_init_131 : decode cX4_init 131 = .ok (.putfield 55, 3) := by decide +kernel
theorem dX4_init_134 : decode cX4_init 134 = .ok (.aload_n 0, 1) := by decide +kernel
theorem dX4_init_135 : decode cX4_init 135 = .ok (.bipush 16, 2) := by decide +kernel
theorem dX4_init_137 : decode cX4_init 137 = .ok (.newarray .int, 2) := by decide +kernel
theorem dX4_init_139 : decode cX4_init 139 = .ok (.putfield 58, 3) := by decide +kernel
theorem dX4_init_142 : decode cX4_init 142 = .ok (.aload_n 0, 1) := by decide +kernel
theorem dX4_init_143 : decode cX4_init 143 = .ok (.bipush 16, 2) := by decide +kernel
theorem dX4_init_145 : decode cX4_init 145 = .ok (.newarray .int, 2) := by decide +kernel
theorem dX4_init_147 : decode cX4_init 147 = .ok (.putfield 61, 3) := by decide +kernel
theorem dX4_init_150 : decode cX4_init 150 = .ok (.aload_n 0, 1) := by decide +kernel
theorem dX4_init_151 : decode cX4_init 151 = .ok (.iconst 0, 1) := by decide +kernel
theorem dX4_init_152 : decode cX4_init 152 = .ok (.putfield 64, 3) := by decide +kernel
theorem dX4_init_155 : decode cX4_init 155 = .ok (.return_, 1) := by decide +kernel
theorem dX4_thrown_0 : decode cX4_thrown 0 = .ok (.aload_n 0, 1) := by decide +kernel
theorem dX4_thrown_1 : decode cX4_thrown 1 = .ok (.getfield 68, 3) := by decide +kernel
theorem dX4_thrown_4 : decode cX4_thrown 4 = .ok (.ireturn, 1) := by decide +kernel
theorem dX4_has_0 : decode cX4_has 0 = .ok (.iload_n 0, 1) := by decide +kernel
theorem dX4_has_1 : decode cX4_has 1 = .ok (.iload_n 1, 1) := by decide +kernel
theorem dX4_has_2 : decode cX4_has 2 = .ok (.ishr, 1) := by decide +kernel
theorem dX4_has_3 : decode cX4_has 3 = .ok (.iconst 1, 1) := by decide +kernel
theorem dX4_has_4 : decode cX4_has 4 = .ok (.iand, 1) := by decide +kernel
theorem dX4_has_5 : decode cX4_has 5 = .ok (.iconst 1, 1) := by decide +kernel
theorem dX4_has_6 : decode cX4_has 6 = .ok (.if_icmp .ne 7, 3) := by decide +kernel
theorem dX4_has_9 : decode cX4_has 9 = .ok (.iconst 1, 1) := by decide +kernel
theorem dX4_has_10 : decode cX4_has 10 = .ok (.goto 4, 3) := by decide +kernel
theorem dX4_has_13 : decode cX4_has 13 = .ok (.iconst 0, 1) := by decide +kernel
theorem dX4_has_14 : decode cX4_has 14 = .ok (.ireturn, 1) := by decide +kernel
theorem dX4_size_0 : decode cX4_size 0 = .ok (.iconst 0, 1) := by decide +kernel
theorem dX4_size_1 : decode cX4_size 1 = .ok (.istore_n 1, 1) := by decide +kernel
theorem dX4_size_2 : decode cX4_size 2 = .ok (.iconst 0, 1) := by decide +kernel
theorem dX4_size_3 : decode cX4_size 3 = .ok (.istore_n 2, 1) := by decide +kernel
theorem dX4_size_4 : decode cX4_size 4 = .ok (.iload_n 2, 1) := by decide +kernel
theorem dX4_size_5 : decode cX4_size 5 = .ok (.bipush 30, 2) := by decide +kernel
theorem dX4_size_7 : decode cX4_size 7 = .ok (.if_icmp .ge 17, 3) := by decide +kernel
theorem dX4_size_10 : decode cX4_size 10 = .ok (.iload_n 1, 1) := by decide +kernel
theorem dX4_size_11 : decode cX4_size 11 = .ok (.iload_n 0, 1) := by decide +kernel
theorem dX4_size_12 : decode cX4_size 12 = .ok (.iload_n 2, 1) := by decide +kernel
theorem dX4_size_13 : decode cX4_size 13 = .ok (.ishr, 1) := by decide +kernel
theorem dX4_size_14 : decode cX4_size 14 = .ok (.iconst 1, 1) := by decide +kernel
theorem dX4_size_15 : decode cX4_size 15 = .ok (.iand, 1) := by decide +kernel
theorem dX4_size_16 : decode cX4_size 16 = .ok (.iadd, 1) := by decide +kernel
theorem dX4_size_17 : decode cX4_size 17 = .ok (.istore_n 1, 1) := by decide +kernel
theorem dX4_size_18 : decode cX4_size 18 = .ok (.iinc 2 1, 3) := by decide +kernel
theorem dX4_size_21 : decode cX4_size 21 = .ok (.goto (-17), 3) := by decide +kernel
theorem dX4_size_24 : decode cX4_size 24 = .ok (.iload_n 1, 1) := by decide +kernel
theorem dX4_size_25 : decode cX4_size 25 = .ok (.ireturn, 1) := by decide +kernel
theorem dX4_isCourse_0 : decode cX4_isCourse 0 = .ok (.iload_n 1, 1) := by decide +kernel
theorem dX4_isCourse_1 : decode cX4_isCourse 1 = .ok (.ifCond .lt 15, 3) := by decide +kernel
theorem dX4_isCourse_4 : decode cX4_isCourse 4 = .ok (.iload_n 1, 1) := by decide +kernel
theorem dX4_isCourse_5 : decode cX4_isCourse 5 = .ok (.aload_n 0, 1) := by decide +kernel
theorem dX4_isCourse_6 : decode cX4_isCourse 6 = .ok (.getfield 71, 3) := by decide +kernel
theorem dX4_isCourse_9 : decode cX4_isCourse 9 = .ok (.if_icmp .ge 7, 3) := by decide +kernel
theorem dX4_isCourse_12 : decode cX4_isCourse 12 = .ok (.iconst 1, 1) := by decide +kernel
theorem dX4_isCourse_13 : decode cX4_isCourse 13 = .ok (.goto 4, 3) := by decide +kernel
theorem dX4_isCourse_16 : decode cX4_isCourse 16 = .ok (.iconst 0, 1) := by decide +kernel
theorem dX4_isCourse_17 : decode cX4_isCourse 17 = .ok (.ireturn, 1) := by decide +kernel
theorem dX4_isStudent_0 : decode cX4_isStudent 0 = .ok (.iload_n 1, 1) := by decide +kernel
theorem dX4_isStudent_1 : decode cX4_isStudent 1 = .ok (.ifCond .lt 15, 3) := by decide +kernel
theorem dX4_isStudent_4 : decode cX4_isStudent 4 = .ok (.iload_n 1, 1) := by decide +kernel
theorem dX4_isStudent_5 : decode cX4_isStudent 5 = .ok (.aload_n 0, 1) := by decide +kernel
theorem dX4_isStudent_6 : decode cX4_isStudent 6 = .ok (.getfield 74, 3) := by decide +kernel
theorem dX4_isStudent_9 : decode cX4_isStudent 9 = .ok (.if_icmp .ge 7, 3) := by decide +kernel
theorem dX4_isStudent_12 : decode cX4_isStudent 12 = .ok (.iconst 1, 1) := by decide +kernel
theorem dX4_isStudent_13 : decode cX4_isStudent 13 = .ok (.goto 4, 3) := by decide +kernel
theorem dX4_isStudent_16 : decode cX4_isStudent 16 = .ok (.iconst 0, 1) := by decide +kernel
theorem dX4_isStudent_17 : decode cX4_isStudent 17 = .ok (.ireturn, 1) := by decide +kernel
theorem dX4_areBoth_0 : decode cX4_areBoth 0 = .ok (.aload_n 0, 1) := by decide +kernel
theorem dX4_areBoth_1 : decode cX4_areBoth 1 = .ok (.aload_n 0, 1) := by decide +kernel
theorem dX4_areBoth_2 : decode cX4_areBoth 2 = .ok (.iload_n 1, 1) := by decide +kernel
theorem dX4_areBoth_3 : decode cX4_areBoth 3 = .ok (.invokevirtual 77, 3) := by decide +kernel
theorem dX4_areBoth_6 : decode cX4_areBoth 6 = .ok (.ifCond .eq 15, 3) := by decide +kernel
theorem dX4_areBoth_9 : decode cX4_areBoth 9 = .ok (.aload_n 0, 1) := by decide +kernel
theorem dX4_areBoth_10 : decode cX4_areBoth 10 = .ok (.iload_n 2, 1) := by decide +kernel
theorem dX4_areBoth_11 : decode cX4_areBoth 11 = .ok (.invokevirtual 81, 3) := by decide +kernel
theorem dX4_areBoth_14 : decode cX4_areBoth 14 = .ok (.ifCond .eq 7, 3) := by decide +kernel
theorem dX4_areBoth_17 : decode cX4_areBoth 17 = .ok (.iconst 0, 1) := by decide +kernel
theorem dX4_areBoth_18 : decode cX4_areBoth 18 = .ok (.goto 4, 3) := by decide +kernel
theorem dX4_areBoth_21 : decode cX4_areBoth 21 = .ok (.iconst 1, 1) := by decide +kernel
theorem dX4_areBoth_22 : decode cX4_areBoth 22 = .ok (.putfield 68, 3) := by decide +kernel
theorem dX4_areBoth_25 : decode cX4_areBoth 25 = .ok (.aload_n 0, 1) := by decide +kernel
theorem dX4_areBoth_26 : decode cX4_areBoth 26 = .ok (.getfield 68, 3) := by decide +kernel
theorem dX4_areBoth_29 : decode cX4_areBoth 29 = .ok (.ifCond .ne 7, 3) := by decide +kernel
theorem dX4_areBoth_32 : decode cX4_areBoth 32 = .ok (.iconst 1, 1) := by decide +kernel
theorem dX4_areBoth_33 : decode cX4_areBoth 33 = .ok (.goto 4, 3) := by decide +kernel
theorem dX4_areBoth_36 : decode cX4_areBoth 36 = .ok (.iconst 0, 1) := by decide +kernel
theorem dX4_areBoth_37 : decode cX4_areBoth 37 = .ok (.ireturn, 1) := by decide +kernel
theorem dX4_requiredBy_0 : decode cX4_requiredBy 0 = .ok (.aload_n 0, 1) := by decide +kernel
theorem dX4_requiredBy_1 : decode cX4_requiredBy 1 = .ok (.getfield 19, 3) := by decide +kernel
theorem dX4_requiredBy_4 : decode cX4_requiredBy 4 = .ok (.iload_n 1, 1) := by decide +kernel
theorem dX4_requiredBy_5 : decode cX4_requiredBy 5 = .ok (.iaload, 1) := by decide +kernel
theorem dX4_requiredBy_6 : decode cX4_requiredBy 6 = .ok (.istore_n 2, 1) := by decide +kernel
theorem dX4_requiredBy_7 : decode cX4_requiredBy 7 = .ok (.iconst 0, 1) := by decide +kernel
theorem dX4_requiredBy_8 : decode cX4_requiredBy 8 = .ok (.istore_n 3, 1) := by decide +kernel
theorem dX4_requiredBy_9 : decode cX4_requiredBy 9 = .ok (.iload_n 3, 1) := by decide +kernel
theorem dX4_requiredBy_10 : decode cX4_requiredBy 10 = .ok (.bipush 20, 2) := by decide +kernel
theorem dX4_requiredBy_12 : decode cX4_requiredBy 12 = .ok (.if_icmp .ge 50, 3) := by decide +kernel
theorem dX4_requiredBy_15 : decode cX4_requiredBy 15 = .ok (.iconst 0, 1) := by decide +kernel
theorem dX4_requiredBy_16 : decode cX4_requiredBy 16 = .ok (.istore 4, 2) := by decide +kernel
theorem dX4_requiredBy_18 : decode cX4_requiredBy 18 = .ok (.iload 4, 2) := by decide +kernel
theorem dX4_requiredBy_20 : decode cX4_requiredBy 20 = .ok (.aload_n 0, 1) := by decide +kernel
theorem dX4_requiredBy_21 : decode cX4_requiredBy 21 = .ok (.getfield 71, 3) := by decide +kernel
theorem dX4_requiredBy_24 : decode cX4_requiredBy 24 = .ok (.if_icmp .ge 32, 3) := by decide +kernel
theorem dX4_requiredBy_27 : decode cX4_requiredBy 27 = .ok (.iload_n 2, 1) := by decide +kernel
theorem dX4_requiredBy_28 : decode cX4_requiredBy 28 = .ok (.iload_n 2, 1) := by decide +kernel
theorem dX4_requiredBy_29 : decode cX4_requiredBy 29 = .ok (.iload 4, 2) := by decide +kernel
theorem dX4_requiredBy_31 : decode cX4_requiredBy 31 = .ok (.invokestatic 84, 3) := by decide +kernel
theorem dX4_requiredBy_34 : decode cX4_requiredBy 34 = .ok (.ifCond .eq 13, 3) := by decide +kernel
theorem dX4_requiredBy_37 : decode cX4_requiredBy 37 = .ok (.aload_n 0, 1) := by decide +kernel
theorem dX4_requiredBy_38 : decode cX4_requiredBy 38 = .ok (.getfield 19, 3) := by decide +kernel
theorem dX4_requiredBy_41 : decode cX4_requiredBy 41 = .ok (.iload 4, 2) := by decide +kernel
theorem dX4_requiredBy_43 : decode cX4_requiredBy 43 = .ok (.iaload, 1) := by decide +kernel
theorem dX4_requiredBy_44 : decode cX4_requiredBy 44 = .ok (.goto 4, 3) := by decide +kernel
theorem dX4_requiredBy_47 : decode cX4_requiredBy 47 = .ok (.iconst 0, 1) := by decide +kernel
theorem dX4_requiredBy_48 : decode cX4_requiredBy 48 = .ok (.ior, 1) := by decide +kernel
theorem dX4_requiredBy_49 : decode cX4_requiredBy 49 = .ok (.istore_n 2, 1) := by decide +kernel
theorem dX4_requiredBy_50 : decode cX4_requiredBy 50 = .ok (.iinc 4 1, 3) := by decide +kernel
theorem dX4_requiredBy_53 : decode cX4_requiredBy 53 = .ok (.goto (-35), 3) := by decide +kernel
theorem dX4_requiredBy_56 : decode cX4_requiredBy 56 = .ok (.iinc 3 1, 3) := by decide +kernel
theorem dX4_requiredBy_59 : decode cX4_requiredBy 59 = .ok (.goto (-50), 3) := by decide +kernel
theorem dX4_requiredBy_62 : decode cX4_requiredBy 62 = .ok (.iload_n 2, 1) := by decide +kernel
theorem dX4_requiredBy_63 : decode cX4_requiredBy 63 = .ok (.ireturn, 1) := by decide +kernel
theorem dX4_worthOf_0 : decode cX4_worthOf 0 = .ok (.iconst 0, 1) := by decide +kernel
theorem dX4_worthOf_1 : decode cX4_worthOf 1 = .ok (.istore_n 2, 1) := by decide +kernel
theorem dX4_worthOf_2 : decode cX4_worthOf 2 = .ok (.iconst 0, 1) := by decide +kernel
theorem dX4_worthOf_3 : decode cX4_worthOf 3 = .ok (.istore_n 3, 1) := by decide +kernel
theorem dX4_worthOf_4 : decode cX4_worthOf 4 = .ok (.iload_n 3, 1) := by decide +kernel
theorem dX4_worthOf_5 : decode cX4_worthOf 5 = .ok (.aload_n 0, 1) := by decide +kernel
theorem dX4_worthOf_6 : decode cX4_worthOf 6 = .ok (.getfield 71, 3) := by decide +kernel
theorem dX4_worthOf_9 : decode cX4_worthOf 9 = .ok (.if_icmp .ge 30, 3) := by decide +kernel
theorem dX4_worthOf_12 : decode cX4_worthOf 12 = .ok (.iload_n 2, 1) := by decide +kernel
theorem dX4_worthOf_13 : decode cX4_worthOf 13 = .ok (.iload_n 1, 1) := by decide +kernel
theorem dX4_worthOf_14 : decode cX4_worthOf 14 = .ok (.iload_n 3, 1) := by decide +kernel
theorem dX4_worthOf_15 : decode cX4_worthOf 15 = .ok (.invokestatic 84, 3) := by decide +kernel
theorem dX4_worthOf_18 : decode cX4_worthOf 18 = .ok (.ifCond .eq 12, 3) := by decide +kernel
theorem dX4_worthOf_21 : decode cX4_worthOf 21 = .ok (.aload_n 0, 1) := by decide +kernel
theorem dX4_worthOf_22 : decode cX4_worthOf 22 = .ok (.getfield 13, 3) := by decide +kernel
theorem dX4_worthOf_25 : decode cX4_worthOf 25 = .ok (.iload_n 3, 1) := by decide +kernel
theorem dX4_worthOf_26 : decode cX4_worthOf 26 = .ok (.iaload, 1) := by decide +kernel
theorem dX4_worthOf_27 : decode cX4_worthOf 27 = .ok (.goto 4, 3) := by decide +kernel
theorem dX4_worthOf_30 : decode cX4_worthOf 30 = .ok (.iconst 0, 1) := by decide +kernel
theorem dX4_worthOf_31 : decode cX4_worthOf 31 = .ok (.iadd, 1) := by decide +kernel
theorem dX4_worthOf_32 : decode cX4_worthOf 32 = .ok (.istore_n 2, 1) := by decide +kernel
theorem dX4_worthOf_33 : decode cX4_worthOf 33 = .ok (.iinc 3 1, 3) := by decide +kernel
theorem dX4_worthOf_36 : decode cX4_worthOf 36 = .ok (.goto (-32), 3) := by decide +kernel
theorem dX4_worthOf_39 : decode cX4_worthOf 39 = .ok (.iload_n 2, 1) := by decide +kernel
theorem dX4_worthOf_40 : decode cX4_worthOf 40 = .ok (.ireturn, 1) := by decide +kernel
theorem dX4_obstacleWith_0 : decode cX4_obstacleWith 0 = .ok (.aload_n 0, 1) := by decide +kernel
theorem dX4_obstacleWith_1 : decode cX4_obstacleWith 1 = .ok (.getfield 28, 3) := by decide +kernel
theorem dX4_obstacleWith_4 : decode cX4_obstacleWith 4 = .ok (.iload_n 1, 1) := by decide +kernel
theorem dX4_obstacleWith_5 : decode cX4_obstacleWith 5 = .ok (.iaload, 1) := by decide +kernel
theorem dX4_obstacleWith_6 : decode cX4_obstacleWith 6 = .ok (.iload_n 2, 1) := by decide +kernel
theorem dX4_obstacleWith_7 : decode cX4_obstacleWith 7 = .ok (.invokestatic 84, 3) := by decide +kernel
theorem dX4_obstacleWith_10 : decode cX4_obstacleWith 10 = .ok (.ifCond .eq 5, 3) := by decide +kernel
theorem dX4_obstacleWith_13 : decode cX4_obstacleWith 13 = .ok (.iconst 1, 1) := by decide +kernel
theorem dX4_obstacleWith_14 : decode cX4_obstacleWith 14 = .ok (.ireturn, 1) := by decide +kernel
theorem dX4_obstacleWith_15 : decode cX4_obstacleWith 15 = .ok (.iload_n 3, 1) := by decide +kernel
theorem dX4_obstacleWith_16 : decode cX4_obstacleWith 16 = .ok (.iload_n 2, 1) := by decide +kernel
theorem dX4_obstacleWith_17 : decode cX4_obstacleWith 17 = .ok (.invokestatic 84, 3) := by decide +kernel
theorem dX4_obstacleWith_20 : decode cX4_obstacleWith 20 = .ok (.ifCond .eq 5, 3) := by decide +kernel
theorem dX4_obstacleWith_23 : decode cX4_obstacleWith 23 = .ok (.iconst 2, 1) := by decide +kernel
theorem dX4_obstacleWith_24 : decode cX4_obstacleWith 24 = .ok (.ireturn, 1) := by decide +kernel
theorem dX4_obstacleWith_25 : decode cX4_obstacleWith 25 = .ok (.aload_n 0, 1) := by decide +kernel
theorem dX4_obstacleWith_26 : decode cX4_obstacleWith 26 = .ok (.iload_n 2, 1) := by decide +kernel
theorem dX4_obstacleWith_27 : decode cX4_obstacleWith 27 = .ok (.invokevirtual 88, 3) := by decide +kernel
theorem dX4_obstacleWith_30 : decode cX4_obstacleWith 30 = .ok (.aload_n 0, 1) := by decide +kernel
theorem dX4_obstacleWith_31 : decode cX4_obstacleWith 31 = .ok (.getfield 28, 3) := by decide +kernel
theorem dX4_obstacleWith_34 : decode cX4_obstacleWith 34 = .ok (.iload_n 1, 1) := by decide +kernel
theorem dX4_obstacleWith_35 : decode cX4_obstacleWith 35 = .ok (.iaload, 1) := by decide +kernel
theorem dX4_obstacleWith_36 : decode cX4_obstacleWith 36 = .ok (.iconst (-1), 1) := by decide +kernel
theorem dX4_obstacleWith_37 : decode cX4_obstacleWith 37 = .ok (.ixor, 1) := by decide +kernel
theorem dX4_obstacleWith_38 : decode cX4_obstacleWith 38 = .ok (.iand, 1) := by decide +kernel
theorem dX4_obstacleWith_39 : decode cX4_obstacleWith 39 = .ok (.ifCond .eq 5, 3) := by decide +kernel
theorem dX4_obstacleWith_42 : decode cX4_obstacleWith 42 = .ok (.iconst 3, 1) := by decide +kernel
theorem dX4_obstacleWith_43 : decode cX4_obstacleWith 43 = .ok (.ireturn, 1) := by decide +kernel
theorem dX4_obstacleWith_44 : decode cX4_obstacleWith 44 = .ok (.aload_n 0, 1) := by decide +kernel
theorem dX4_obstacleWith_45 : decode cX4_obstacleWith 45 = .ok (.iload_n 3, 1) := by decide +kernel
theorem dX4_obstacleWith_46 : decode cX4_obstacleWith 46 = .ok (.invokevirtual 92, 3) := by decide +kernel
theorem dX4_obstacleWith_49 : decode cX4_obstacleWith 49 = .ok (.aload_n 0, 1) := by decide +kernel
theorem dX4_obstacleWith_50 : decode cX4_obstacleWith 50 = .ok (.getfield 13, 3) := by decide +kernel
theorem dX4_obstacleWith_53 : decode cX4_obstacleWith 53 = .ok (.iload_n 2, 1) := by decide +kernel
theorem dX4_obstacleWith_54 : decode cX4_obstacleWith 54 = .ok (.iaload, 1) := by decide +kernel
theorem dX4_obstacleWith_55 : decode cX4_obstacleWith 55 = .ok (.iadd, 1) := by decide +kernel
theorem dX4_obstacleWith_56 : decode cX4_obstacleWith 56 = .ok (.aload_n 0, 1) := by decide +kernel
theorem dX4_obstacleWith_57 : decode cX4_obstacleWith 57 = .ok (.getfield 25, 3) := by decide +kernel
theorem dX4_obstacleWith_60 : decode cX4_obstacleWith 60 = .ok (.iload_n 1, 1) := by decide +kernel
theorem dX4_obstacleWith_61 : decode cX4_obstacleWith 61 = .ok (.iaload, 1) := by decide +kernel
theorem dX4_obstacleWith_62 : decode cX4_obstacleWith 62 = .ok (.if_icmp .le 5, 3) := by decide +kernel
theorem dX4_obstacleWith_65 : decode cX4_obstacleWith 65 = .ok (.iconst 4, 1) := by decide +kernel
theorem dX4_obstacleWith_66 : decode cX4_obstacleWith 66 = .ok (.ireturn, 1) := by decide +kernel
theorem dX4_obstacleWith_67 : decode cX4_obstacleWith 67 = .ok (.iconst 0, 1) := by decide +kernel
theorem dX4_obstacleWith_68 : decode cX4_obstacleWith 68 = .ok (.istore 4, 2) := by decide +kernel
theorem dX4_obstacleWith_70 : decode cX4_obstacleWith 70 = .ok (.iload 4, 2) := by decide +kernel
theorem dX4_obstacleWith_72 : decode cX4_obstacleWith 72 = .ok (.aload_n 0, 1) := by decide +kernel
theorem dX4_obstacleWith_73 : decode cX4_obstacleWith 73 = .ok (.getfield 71, 3) := by decide +kernel
theorem dX4_obstacleWith_76 : decode cX4_obstacleWith 76 = .ok (.if_icmp .ge 37, 3) := by decide +kernel
theorem dX4_obstacleWith_79 : decode cX4_obstacleWith 79 = .ok (.iload_n 3, 1) := by decide +kernel
theorem dX4_obstacleWith_80 : decode cX4_obstacleWith 80 = .ok (.iload 4, 2) := by decide +kernel
theorem dX4_obstacleWith_82 : decode cX4_obstacleWith 82 = .ok (.invokestatic 84, 3) := by decide +kernel
theorem dX4_obstacleWith_85 : decode cX4_obstacleWith 85 = .ok (.ifCond .eq 22, 3) := by decide +kernel
theorem dX4_obstacleWith_88 : decode cX4_obstacleWith 88 = .ok (.aload_n 0, 1) := by decide +kernel
theorem dX4_obstacleWith_89 : decode cX4_obstacleWith 89 = .ok (.getfield 16, 3) := by decide +kernel
theorem dX4_obstacleWith_92 : decode cX4_obstacleWith 92 = .ok (.iload 4, 2) := by decide +kernel
theorem dX4_obstacleWith_94 : decode cX4_obstacleWith 94 = .ok (.iaload, 1) := by decide +kernel
theorem dX4_obstacleWith_95 : decode cX4_obstacleWith 95 = .ok (.aload_n 0, 1) := by decide +kernel
theorem dX4_obstacleWith_96 : decode cX4_obstacleWith 96 = .ok (.getfield 16, 3) := by decide +kernel
theorem dX4_obstacleWith_99 : decode cX4_obstacleWith 99 = .ok (.iload_n 2, 1) := by decide +kernel
theorem dX4_obstacleWith_100 : decode cX4_obstacleWith 100 = .ok (.iaload, 1) := by decide +kernel
theorem dX4_obstacleWith_101 : decode cX4_obstacleWith 101 = .ok (.iand, 1) := by decide +kernel
theorem dX4_obstacleWith_102 : decode cX4_obstacleWith 102 = .ok (.ifCond .eq 5, 3) := by decide +kernel
theorem dX4_obstacleWith_105 : decode cX4_obstacleWith 105 = .ok (.iconst 5, 1) := by decide +kernel
theorem dX4_obstacleWith_106 : decode cX4_obstacleWith 106 = .ok (.ireturn, 1) := by decide +kernel
theorem dX4_obstacleWith_107 : decode cX4_obstacleWith 107 = .ok (.iinc 4 1, 3) := by decide +kernel
theorem dX4_obstacleWith_110 : decode cX4_obstacleWith 110 = .ok (.goto (-40), 3) := by decide +kernel
theorem dX4_obstacleWith_113 : decode cX4_obstacleWith 113 = .ok (.iconst 0, 1) := by decide +kernel
theorem dX4_obstacleWith_114 : decode cX4_obstacleWith 114 = .ok (.ireturn, 1) := by decide +kernel
theorem dX4_inCourse_0 : decode cX4_inCourse 0 = .ok (.iconst 0, 1) := by decide +kernel
theorem dX4_inCourse_1 : decode cX4_inCourse 1 = .ok (.istore_n 2, 1) := by decide +kernel
theorem dX4_inCourse_2 : decode cX4_inCourse 2 = .ok (.iconst 0, 1) := by decide +kernel
theorem dX4_inCourse_3 : decode cX4_inCourse 3 = .ok (.istore_n 3, 1) := by decide +kernel
theorem dX4_inCourse_4 : decode cX4_inCourse 4 = .ok (.iload_n 3, 1) := by decide +kernel
theorem dX4_inCourse_5 : decode cX4_inCourse 5 = .ok (.aload_n 0, 1) := by decide +kernel
theorem dX4_inCourse_6 : decode cX4_inCourse 6 = .ok (.getfield 74, 3) := by decide +kernel
theorem dX4_inCourse_9 : decode cX4_inCourse 9 = .ok (.if_icmp .ge 30, 3) := by decide +kernel
theorem dX4_inCourse_12 : decode cX4_inCourse 12 = .ok (.iload_n 2, 1) := by decide +kernel
theorem dX4_inCourse_13 : decode cX4_inCourse 13 = .ok (.aload_n 0, 1) := by decide +kernel
theorem dX4_inCourse_14 : decode cX4_inCourse 14 = .ok (.getfield 31, 3) := by decide +kernel
theorem dX4_inCourse_17 : decode cX4_inCourse 17 = .ok (.iload_n 3, 1) := by decide +kernel
theorem dX4_inCourse_18 : decode cX4_inCourse 18 = .ok (.iaload, 1) := by decide +kernel
theorem dX4_inCourse_19 : decode cX4_inCourse 19 = .ok (.iload_n 1, 1) := by decide +kernel
theorem dX4_inCourse_20 : decode cX4_inCourse 20 = .ok (.invokestatic 84, 3) := by decide +kernel
theorem dX4_inCourse_23 : decode cX4_inCourse 23 = .ok (.ifCond .eq 7, 3) := by decide +kernel
theorem dX4_inCourse_26 : decode cX4_inCourse 26 = .ok (.iconst 1, 1) := by decide +kernel
theorem dX4_inCourse_27 : decode cX4_inCourse 27 = .ok (.goto 4, 3) := by decide +kernel
theorem dX4_inCourse_30 : decode cX4_inCourse 30 = .ok (.iconst 0, 1) := by decide +kernel
theorem dX4_inCourse_31 : decode cX4_inCourse 31 = .ok (.iadd, 1) := by decide +kernel
theorem dX4_inCourse_32 : decode cX4_inCourse 32 = .ok (.istore_n 2, 1) := by decide +kernel
theorem dX4_inCourse_33 : decode cX4_inCourse 33 = .ok (.iinc 3 1, 3) := by decide +kernel
theorem dX4_inCourse_36 : decode cX4_inCourse 36 = .ok (.goto (-32), 3) := by decide +kernel
theorem dX4_inCourse_39 : decode cX4_inCourse 39 = .ok (.iload_n 2, 1) := by decide +kernel
theorem dX4_inCourse_40 : decode cX4_inCourse 40 = .ok (.ireturn, 1) := by decide +kernel
theorem dX4_hasOffer_0 : decode cX4_hasOffer 0 = .ok (.aload_n 0, 1) := by decide +kernel
theorem dX4_hasOffer_1 : decode cX4_hasOffer 1 = .ok (.getfield 52, 3) := by decide +kernel
theorem dX4_hasOffer_4 : decode cX4_hasOffer 4 = .ok (.bipush 16, 2) := by decide +kernel
theorem dX4_hasOffer_6 : decode cX4_hasOffer 6 = .ok (.iload_n 2, 1) := by decide +kernel
theorem dX4_hasOffer_7 : decode cX4_hasOffer 7 = .ok (.imul, 1) := by decide +kernel
theorem dX4_hasOffer_8 : decode cX4_hasOffer 8 = .ok (.iload_n 1, 1) := by decide +kernel
theorem dX4_hasOffer_9 : decode cX4_hasOffer 9 = .ok (.iadd, 1) := by decide +kernel
theorem dX4_hasOffer_10 : decode cX4_hasOffer 10 = .ok (.iaload, 1) := by decide +kernel
theorem dX4_hasOffer_11 : decode cX4_hasOffer 11 = .ok (.ifCond .lt 7, 3) := by decide +kernel
theorem dX4_hasOffer_14 : decode cX4_hasOffer 14 = .ok (.iconst 1, 1) := by decide +kernel
theorem dX4_hasOffer_15 : decode cX4_hasOffer 15 = .ok (.goto 4, 3) := by decide +kernel
theorem dX4_hasOffer_18 : decode cX4_hasOffer 18 = .ok (.iconst 0, 1) := by decide +kernel
theorem dX4_hasOffer_19 : decode cX4_hasOffer 19 = .ok (.ireturn, 1) := by decide +kernel
theorem dX4_free_0 : decode cX4_free 0 = .ok (.aload_n 0, 1) := by decide +kernel
theorem dX4_free_1 : decode cX4_free 1 = .ok (.getfield 7, 3) := by decide +kernel
theorem dX4_free_4 : decode cX4_free 4 = .ok (.iload_n 1, 1) := by decide +kernel
theorem dX4_free_5 : decode cX4_free 5 = .ok (.iaload, 1) := by decide +kernel
theorem dX4_free_6 : decode cX4_free 6 = .ok (.aload_n 0, 1) := by decide +kernel
theorem dX4_free_7 : decode cX4_free 7 = .ok (.iload_n 1, 1) := by decide +kernel
theorem dX4_free_8 : decode cX4_free 8 = .ok (.invokevirtual 95, 3) := by decide +kernel
theorem dX4_free_11 : decode cX4_free 11 = .ok (.isub, 1) := by decide +kernel
theorem dX4_free_12 : decode cX4_free 12 = .ok (.istore_n 2, 1) := by decide +kernel
theorem dX4_free_13 : decode cX4_free 13 = .ok (.iconst 0, 1) := by decide +kernel
theorem dX4_free_14 : decode cX4_free 14 = .ok (.istore_n 3, 1) := by decide +kernel
theorem dX4_free_15 : decode cX4_free 15 = .ok (.iload_n 3, 1) := by decide +kernel
theorem dX4_free_16 : decode cX4_free 16 = .ok (.aload_n 0, 1) := by decide +kernel
theorem dX4_free_17 : decode cX4_free 17 = .ok (.getfield 74, 3) := by decide +kernel
theorem dX4_free_20 : decode cX4_free 20 = .ok (.if_icmp .ge 26, 3) := by decide +kernel
theorem dX4_free_23 : decode cX4_free 23 = .ok (.iload_n 2, 1) := by decide +kernel
theorem dX4_free_24 : decode cX4_free 24 = .ok (.aload_n 0, 1) := by decide +kernel
theorem dX4_free_25 : decode cX4_free 25 = .ok (.iload_n 3, 1) := by decide +kernel
theorem dX4_free_26 : decode cX4_free 26 = .ok (.iload_n 1, 1) := by decide +kernel
theorem dX4_free_27 : decode cX4_free 27 = .ok (.invokevirtual 98, 3) := by decide +kernel
theorem dX4_free_30 : decode cX4_free 30 = .ok (.ifCond .eq 7, 3) := by decide +kernel
theorem dX4_free_33 : decode cX4_free 33 = .ok (.iconst 1, 1) := by decide +kernel
theorem dX4_free_34 : decode cX4_free 34 = .ok (.goto 4, 3) := by decide +kernel
theorem dX4_free_37 : decode cX4_free 37 = .ok (.iconst 0, 1) := by decide +kernel
theorem dX4_free_38 : decode cX4_free 38 = .ok (.isub, 1) := by decide +kernel
theorem dX4_free_39 : decode cX4_free 39 = .ok (.istore_n 2, 1) := by decide +kernel
theorem dX4_free_40 : decode cX4_free 40 = .ok (.iinc 3 1, 3) := by decide +kernel
theorem dX4_free_43 : decode cX4_free 43 = .ok (.goto (-28), 3) := by decide +kernel
theorem dX4_free_46 : decode cX4_free 46 = .ok (.iload_n 2, 1) := by decide +kernel
theorem dX4_free_47 : decode cX4_free 47 = .ok (.ireturn, 1) := by decide +kernel
theorem dX4_waitPlace_0 : decode cX4_waitPlace 0 = .ok (.iconst 0, 1) := by decide +kernel
theorem dX4_waitPlace_1 : decode cX4_waitPlace 1 = .ok (.istore_n 3, 1) := by decide +kernel
theorem dX4_waitPlace_2 : decode cX4_waitPlace 2 = .ok (.iload_n 3, 1) := by decide +kernel
theorem dX4_waitPlace_3 : decode cX4_waitPlace 3 = .ok (.aload_n 0, 1) := by decide +kernel
theorem dX4_waitPlace_4 : decode cX4_waitPlace 4 = .ok (.getfield 46, 3) := by decide +kernel
theorem dX4_waitPlace_7 : decode cX4_waitPlace 7 = .ok (.iload_n 2, 1) := by decide +kernel
theorem dX4_waitPlace_8 : decode cX4_waitPlace 8 = .ok (.iaload, 1) := by decide +kernel
theorem dX4_waitPlace_9 : decode cX4_waitPlace 9 = .ok (.if_icmp .ge 26, 3) := by decide +kernel
theorem dX4_waitPlace_12 : decode cX4_waitPlace 12 = .ok (.aload_n 0, 1) := by decide +kernel
theorem dX4_waitPlace_13 : decode cX4_waitPlace 13 = .ok (.getfield 49, 3) := by decide +kernel
theorem dX4_waitPlace_16 : decode cX4_waitPlace 16 = .ok (.bipush 16, 2) := by decide +kernel
theorem dX4_waitPlace_18 : decode cX4_waitPlace 18 = .ok (.iload_n 2, 1) := by decide +kernel
theorem dX4_waitPlace_19 : decode cX4_waitPlace 19 = .ok (.imul, 1) := by decide +kernel
theorem dX4_waitPlace_20 : decode cX4_waitPlace 20 = .ok (.iload_n 3, 1) := by decide +kernel
theorem dX4_waitPlace_21 : decode cX4_waitPlace 21 = .ok (.iadd, 1) := by decide +kernel
theorem dX4_waitPlace_22 : decode cX4_waitPlace 22 = .ok (.iaload, 1) := by decide +kernel
theorem dX4_waitPlace_23 : decode cX4_waitPlace 23 = .ok (.iload_n 1, 1) := by decide +kernel
theorem dX4_waitPlace_24 : decode cX4_waitPlace 24 = .ok (.if_icmp .ne 5, 3) := by decide +kernel
theorem dX4_waitPlace_27 : decode cX4_waitPlace 27 = .ok (.iload_n 3, 1) := by decide +kernel
theorem dX4_waitPlace_28 : decode cX4_waitPlace 28 = .ok (.ireturn, 1) := by decide +kernel
theorem dX4_waitPlace_29 : decode cX4_waitPlace 29 = .ok (.iinc 3 1, 3) := by decide +kernel
theorem dX4_waitPlace_32 : decode cX4_waitPlace 32 = .ok (.goto (-30), 3) := by decide +kernel
theorem dX4_waitPlace_35 : decode cX4_waitPlace 35 = .ok (.iconst (-1), 1) := by decide +kernel
theorem dX4_waitPlace_36 : decode cX4_waitPlace 36 = .ok (.ireturn, 1) := by decide +kernel
theorem dX4_wishPlace_0 : decode cX4_wishPlace 0 = .ok (.iconst 0, 1) := by decide +kernel
theorem dX4_wishPlace_1 : decode cX4_wishPlace 1 = .ok (.istore_n 3, 1) := by decide +kernel
theorem dX4_wishPlace_2 : decode cX4_wishPlace 2 = .ok (.iload_n 3, 1) := by decide +kernel
theorem dX4_wishPlace_3 : decode cX4_wishPlace 3 = .ok (.aload_n 0, 1) := by decide +kernel
theorem dX4_wishPlace_4 : decode cX4_wishPlace 4 = .ok (.getfield 34, 3) := by decide +kernel
theorem dX4_wishPlace_7 : decode cX4_wishPlace 7 = .ok (.iload_n 1, 1) := by decide +kernel
theorem dX4_wishPlace_8 : decode cX4_wishPlace 8 = .ok (.iaload, 1) := by decide +kernel
theorem dX4_wishPlace_9 : decode cX4_wishPlace 9 = .ok (.if_icmp .ge 26, 3) := by decide +kernel
theorem dX4_wishPlace_12 : decode cX4_wishPlace 12 = .ok (.aload_n 0, 1) := by decide +kernel
theorem dX4_wishPlace_13 : decode cX4_wishPlace 13 = .ok (.getfield 37, 3) := by decide +kernel
theorem dX4_wishPlace_16 : decode cX4_wishPlace 16 = .ok (.bipush 6, 2) := by decide +kernel
theorem dX4_wishPlace_18 : decode cX4_wishPlace 18 = .ok (.iload_n 1, 1) := by decide +kernel
theorem dX4_wishPlace_19 : decode cX4_wishPlace 19 = .ok (.imul, 1) := by decide +kernel
theorem dX4_wishPlace_20 : decode cX4_wishPlace 20 = .ok (.iload_n 3, 1) := by decide +kernel
theorem dX4_wishPlace_21 : decode cX4_wishPlace 21 = .ok (.iadd, 1) := by decide +kernel
theorem dX4_wishPlace_22 : decode cX4_wishPlace 22 = .ok (.iaload, 1) := by decide +kernel
theorem dX4_wishPlace_23 : decode cX4_wishPlace 23 = .ok (.iload_n 2, 1) := by decide +kernel
theorem dX4_wishPlace_24 : decode cX4_wishPlace 24 = .ok (.if_icmp .ne 5, 3) := by decide +kernel
theorem dX4_wishPlace_27 : decode cX4_wishPlace 27 = .ok (.iload_n 3, 1) := by decide +kernel
theorem dX4_wishPlace_28 : decode cX4_wishPlace 28 = .ok (.ireturn, 1) := by decide +kernel
theorem dX4_wishPlace_29 : decode cX4_wishPlace 29 = .ok (.iinc 3 1, 3) := by decide +kernel
theorem dX4_wishPlace_32 : decode cX4_wishPlace 32 = .ok (.goto (-30), 3) := by decide +kernel
theorem dX4_wishPlace_35 : decode cX4_wishPlace 35 = .ok (.iconst (-1), 1) := by decide +kernel
theorem dX4_wishPlace_36 : decode cX4_wishPlace 36 = .ok (.ireturn, 1) := by decide +kernel
theorem dX4_leavesList_0 : decode cX4_leavesList 0 = .ok (.aload_n 0, 1) := by decide +kernel
theorem dX4_leavesList_1 : decode cX4_leavesList 1 = .ok (.iload_n 1, 1) := by decide +kernel
theorem dX4_leavesList_2 : decode cX4_leavesList 2 = .ok (.iload_n 2, 1) := by decide +kernel
theorem dX4_leavesList_3 : decode cX4_leavesList 3 = .ok (.invokevirtual 101, 3) := by decide +kernel
theorem dX4_leavesList_6 : decode cX4_leavesList 6 = .ok (.istore_n 3, 1) := by decide +kernel
theorem dX4_leavesList_7 : decode cX4_leavesList 7 = .ok (.iload_n 3, 1) := by decide +kernel
theorem dX4_leavesList_8 : decode cX4_leavesList 8 = .ok (.ifCond .ge 4, 3) := by decide +kernel
theorem dX4_leavesList_11 : decode cX4_leavesList 11 = .ok (.return_, 1) := by decide +kernel
theorem dX4_leavesList_12 : decode cX4_leavesList 12 = .ok (.iload_n 3, 1) := by decide +kernel
theorem dX4_leavesList_13 : decode cX4_leavesList 13 = .ok (.istore 4, 2) := by decide +kernel
theorem dX4_leavesList_15 : decode cX4_leavesList 15 = .ok (.iload 4, 2) := by decide +kernel
theorem dX4_leavesList_17 : decode cX4_leavesList 17 = .ok (.iconst 1, 1) := by decide +kernel
theorem dX4_leavesList_18 : decode cX4_leavesList 18 = .ok (.iadd, 1) := by decide +kernel
theorem dX4_leavesList_19 : decode cX4_leavesList 19 = .ok (.aload_n 0, 1) := by decide +kernel
theorem dX4_leavesList_20 : decode cX4_leavesList 20 = .ok (.getfield 46, 3) := by decide +kernel
theorem dX4_leavesList_23 : decode cX4_leavesList 23 = .ok (.iload_n 2, 1) := by decide +kernel
theorem dX4_leavesList_24 : decode cX4_leavesList 24 = .ok (.iaload, 1) := by decide +kernel
theorem dX4_leavesList_25 : decode cX4_leavesList 25 = .ok (.if_icmp .ge 35, 3) := by decide +kernel
theorem dX4_leavesList_28 : decode cX4_leavesList 28 = .ok (.aload_n 0, 1) := by decide +kernel
theorem dX4_leavesList_29 : decode cX4_leavesList 29 = .ok (.getfield 49, 3) := by decide +kernel
theorem dX4_leavesList_32 : decode cX4_leavesList 32 = .ok (.bipush 16, 2) := by decide +kernel
theorem dX4_leavesList_34 : decode cX4_leavesList 34 = .ok (.iload_n 2, 1) := by decide +kernel
theorem dX4_leavesList_35 : decode cX4_leavesList 35 = .ok (.imul, 1) := by decide +kernel
theorem dX4_leavesList_36 : decode cX4_leavesList 36 = .ok (.iload 4, 2) := by decide +kernel
theorem dX4_leavesList_38 : decode cX4_leavesList 38 = .ok (.iadd, 1) := by decide +kernel
theorem dX4_leavesList_39 : decode cX4_leavesList 39 = .ok (.aload_n 0, 1) := by decide +kernel
theorem dX4_leavesList_40 : decode cX4_leavesList 40 = .ok (.getfield 49, 3) := by decide +kernel
theorem dX4_leavesList_43 : decode cX4_leavesList 43 = .ok (.bipush 16, 2) := by decide +kernel
theorem dX4_leavesList_45 : decode cX4_leavesList 45 = .ok (.iload_n 2, 1) := by decide +kernel
theorem dX4_leavesList_46 : decode cX4_leavesList 46 = .ok (.imul, 1) := by decide +kernel
theorem dX4_leavesList_47 : decode cX4_leavesList 47 = .ok (.iload 4, 2) := by decide +kernel
theorem dX4_leavesList_49 : decode cX4_leavesList 49 = .ok (.iadd, 1) := by decide +kernel
theorem dX4_leavesList_50 : decode cX4_leavesList 50 = .ok (.iconst 1, 1) := by decide +kernel
theorem dX4_leavesList_51 : decode cX4_leavesList 51 = .ok (.iadd, 1) := by decide +kernel
theorem dX4_leavesList_52 : decode cX4_leavesList 52 = .ok (.iaload, 1) := by decide +kernel
theorem dX4_leavesList_53 : decode cX4_leavesList 53 = .ok (.iastore, 1) := by decide +kernel
theorem dX4_leavesList_54 : decode cX4_leavesList 54 = .ok (.iinc 4 1, 3) := by decide +kernel
theorem dX4_leavesList_57 : decode cX4_leavesList 57 = .ok (.goto (-42), 3) := by decide +kernel
theorem dX4_leavesList_60 : decode cX4_leavesList 60 = .ok (.aload_n 0, 1) := by decide +kernel
theorem dX4_leavesList_61 : decode cX4_leavesList 61 = .ok (.getfield 46, 3) := by decide +kernel
theorem dX4_leavesList_64 : decode cX4_leavesList 64 = .ok (.iload_n 2, 1) := by decide +kernel
theorem dX4_leavesList_65 : decode cX4_leavesList 65 = .ok (.dup2, 1) := by decide +kernel
theorem dX4_leavesList_66 : decode cX4_leavesList 66 = .ok (.iaload, 1) := by decide +kernel
theorem dX4_leavesList_67 : decode cX4_leavesList 67 = .ok (.iconst 1, 1) := by decide +kernel
theorem dX4_leavesList_68 : decode cX4_leavesList 68 = .ok (.isub, 1) := by decide +kernel
theorem dX4_leavesList_69 : decode cX4_leavesList 69 = .ok (.iastore, 1) := by decide +kernel
theorem dX4_leavesList_70 : decode cX4_leavesList 70 = .ok (.aload_n 0, 1) := by decide +kernel
theorem dX4_leavesList_71 : decode cX4_leavesList 71 = .ok (.getfield 52, 3) := by decide +kernel
theorem dX4_leavesList_74 : decode cX4_leavesList 74 = .ok (.bipush 16, 2) := by decide +kernel
theorem dX4_leavesList_76 : decode cX4_leavesList 76 = .ok (.iload_n 2, 1) := by decide +kernel
theorem dX4_leavesList_77 : decode cX4_leavesList 77 = .ok (.imul, 1) := by decide +kernel
theorem dX4_leavesList_78 : decode cX4_leavesList 78 = .ok (.iload_n 1, 1) := by decide +kernel
theorem dX4_leavesList_79 : decode cX4_leavesList 79 = .ok (.iadd, 1) := by decide +kernel
theorem dX4_leavesList_80 : decode cX4_leavesList 80 = .ok (.iconst (-1), 1) := by decide +kernel
theorem dX4_leavesList_81 : decode cX4_leavesList 81 = .ok (.iastore, 1) := by decide +kernel
theorem dX4_leavesList_82 : decode cX4_leavesList 82 = .ok (.return_, 1) := by decide +kernel
theorem dX4_dropsWish_0 : decode cX4_dropsWish 0 = .ok (.aload_n 0, 1) := by decide +kernel
theorem dX4_dropsWish_1 : decode cX4_dropsWish 1 = .ok (.iload_n 1, 1) := by decide +kernel
theorem dX4_dropsWish_2 : decode cX4_dropsWish 2 = .ok (.iload_n 2, 1) := by decide +kernel
theorem dX4_dropsWish_3 : decode cX4_dropsWish 3 = .ok (.invokevirtual 105, 3) := by decide +kernel
theorem dX4_dropsWish_6 : decode cX4_dropsWish 6 = .ok (.istore_n 3, 1) := by decide +kernel
theorem dX4_dropsWish_7 : decode cX4_dropsWish 7 = .ok (.iload_n 3, 1) := by decide +kernel
theorem dX4_dropsWish_8 : decode cX4_dropsWish 8 = .ok (.ifCond .ge 4, 3) := by decide +kernel
theorem dX4_dropsWish_11 : decode cX4_dropsWish 11 = .ok (.return_, 1) := by decide +kernel
theorem dX4_dropsWish_12 : decode cX4_dropsWish 12 = .ok (.iload_n 3, 1) := by decide +kernel
theorem dX4_dropsWish_13 : decode cX4_dropsWish 13 = .ok (.istore 4, 2) := by decide +kernel
theorem dX4_dropsWish_15 : decode cX4_dropsWish 15 = .ok (.iload 4, 2) := by decide +kernel
theorem dX4_dropsWish_17 : decode cX4_dropsWish 17 = .ok (.iconst 1, 1) := by decide +kernel
theorem dX4_dropsWish_18 : decode cX4_dropsWish 18 = .ok (.iadd, 1) := by decide +kernel
theorem dX4_dropsWish_19 : decode cX4_dropsWish 19 = .ok (.aload_n 0, 1) := by decide +kernel
theorem dX4_dropsWish_20 : decode cX4_dropsWish 20 = .ok (.getfield 34, 3) := by decide +kernel
theorem dX4_dropsWish_23 : decode cX4_dropsWish 23 = .ok (.iload_n 1, 1) := by decide +kernel
theorem dX4_dropsWish_24 : decode cX4_dropsWish 24 = .ok (.iaload, 1) := by decide +kernel
theorem dX4_dropsWish_25 : decode cX4_dropsWish 25 = .ok (.if_icmp .ge 35, 3) := by decide +kernel
theorem dX4_dropsWish_28 : decode cX4_dropsWish 28 = .ok (.aload_n 0, 1) := by decide +kernel
theorem dX4_dropsWish_29 : decode cX4_dropsWish 29 = .ok (.getfield 37, 3) := by decide +kernel
theorem dX4_dropsWish_32 : decode cX4_dropsWish 32 = .ok (.bipush 6, 2) := by decide +kernel
theorem dX4_dropsWish_34 : decode cX4_dropsWish 34 = .ok (.iload_n 1, 1) := by decide +kernel
theorem dX4_dropsWish_35 : decode cX4_dropsWish 35 = .ok (.imul, 1) := by decide +kernel
theorem dX4_dropsWish_36 : decode cX4_dropsWish 36 = .ok (.iload 4, 2) := by decide +kernel
theorem dX4_dropsWish_38 : decode cX4_dropsWish 38 = .ok (.iadd, 1) := by decide +kernel
theorem dX4_dropsWish_39 : decode cX4_dropsWish 39 = .ok (.aload_n 0, 1) := by decide +kernel
theorem dX4_dropsWish_40 : decode cX4_dropsWish 40 = .ok (.getfield 37, 3) := by decide +kernel
theorem dX4_dropsWish_43 : decode cX4_dropsWish 43 = .ok (.bipush 6, 2) := by decide +kernel
theorem dX4_dropsWish_45 : decode cX4_dropsWish 45 = .ok (.iload_n 1, 1) := by decide +kernel
theorem dX4_dropsWish_46 : decode cX4_dropsWish 46 = .ok (.imul, 1) := by decide +kernel
theorem dX4_dropsWish_47 : decode cX4_dropsWish 47 = .ok (.iload 4, 2) := by decide +kernel
theorem dX4_dropsWish_49 : decode cX4_dropsWish 49 = .ok (.iadd, 1) := by decide +kernel
theorem dX4_dropsWish_50 : decode cX4_dropsWish 50 = .ok (.iconst 1, 1) := by decide +kernel
theorem dX4_dropsWish_51 : decode cX4_dropsWish 51 = .ok (.iadd, 1) := by decide +kernel
theorem dX4_dropsWish_52 : decode cX4_dropsWish 52 = .ok (.iaload, 1) := by decide +kernel
theorem dX4_dropsWish_53 : decode cX4_dropsWish 53 = .ok (.iastore, 1) := by decide +kernel
theorem dX4_dropsWish_54 : decode cX4_dropsWish 54 = .ok (.iinc 4 1, 3) := by decide +kernel
theorem dX4_dropsWish_57 : decode cX4_dropsWish 57 = .ok (.goto (-42), 3) := by decide +kernel
theorem dX4_dropsWish_60 : decode cX4_dropsWish 60 = .ok (.aload_n 0, 1) := by decide +kernel
theorem dX4_dropsWish_61 : decode cX4_dropsWish 61 = .ok (.getfield 34, 3) := by decide +kernel
theorem dX4_dropsWish_64 : decode cX4_dropsWish 64 = .ok (.iload_n 1, 1) := by decide +kernel
theorem dX4_dropsWish_65 : decode cX4_dropsWish 65 = .ok (.dup2, 1) := by decide +kernel
theorem dX4_dropsWish_66 : decode cX4_dropsWish 66 = .ok (.iaload, 1) := by decide +kernel
theorem dX4_dropsWish_67 : decode cX4_dropsWish 67 = .ok (.iconst 1, 1) := by decide +kernel
theorem dX4_dropsWish_68 : decode cX4_dropsWish 68 = .ok (.isub, 1) := by decide +kernel
theorem dX4_dropsWish_69 : decode cX4_dropsWish 69 = .ok (.iastore, 1) := by decide +kernel
theorem dX4_dropsWish_70 : decode cX4_dropsWish 70 = .ok (.return_, 1) := by decide +kernel
theorem dX4_enrols_0 : decode cX4_enrols 0 = .ok (.aload_n 0, 1) := by decide +kernel
theorem dX4_enrols_1 : decode cX4_enrols 1 = .ok (.getfield 31, 3) := by decide +kernel
theorem dX4_enrols_4 : decode cX4_enrols 4 = .ok (.iload_n 1, 1) := by decide +kernel
theorem dX4_enrols_5 : decode cX4_enrols 5 = .ok (.dup2, 1) := by decide +kernel
theorem dX4_enrols_6 : decode cX4_enrols 6 = .ok (.iaload, 1) := by decide +kernel
theorem dX4_enrols_7 : decode cX4_enrols 7 = .ok (.iconst 1, 1) := by decide +kernel
theorem dX4_enrols_8 : decode cX4_enrols 8 = .ok (.iload_n 2, 1) := by decide +kernel
theorem dX4_enrols_9 : decode cX4_enrols 9 = .ok (.ishl, 1) := by decide +kernel
theorem dX4_enrols_10 : decode cX4_enrols 10 = .ok (.ior, 1) := by decide +kernel
theorem dX4_enrols_11 : decode cX4_enrols 11 = .ok (.iastore, 1) := by decide +kernel
theorem dX4_enrols_12 : decode cX4_enrols 12 = .ok (.aload_n 0, 1) := by decide +kernel
theorem dX4_enrols_13 : decode cX4_enrols 13 = .ok (.iload_n 1, 1) := by decide +kernel
theorem dX4_enrols_14 : decode cX4_enrols 14 = .ok (.iload_n 2, 1) := by decide +kernel
theorem dX4_enrols_15 : decode cX4_enrols 15 = .ok (.invokevirtual 108, 3) := by decide +kernel
theorem dX4_enrols_18 : decode cX4_enrols 18 = .ok (.aload_n 0, 1) := by decide +kernel
theorem dX4_enrols_19 : decode cX4_enrols 19 = .ok (.iload_n 1, 1) := by decide +kernel
theorem dX4_enrols_20 : decode cX4_enrols 20 = .ok (.iload_n 2, 1) := by decide +kernel
theorem dX4_enrols_21 : decode cX4_enrols 21 = .ok (.invokevirtual 112, 3) := by decide +kernel
theorem dX4_enrols_24 : decode cX4_enrols 24 = .ok (.return_, 1) := by decide +kernel
theorem dX4_gives_0 : decode cX4_gives 0 = .ok (.aload_n 0, 1) := by decide +kernel
theorem dX4_gives_1 : decode cX4_gives 1 = .ok (.getfield 31, 3) := by decide +kernel
theorem dX4_gives_4 : decode cX4_gives 4 = .ok (.iload_n 1, 1) := by decide +kernel
theorem dX4_gives_5 : decode cX4_gives 5 = .ok (.dup2, 1) := by decide +kernel
theorem dX4_gives_6 : decode cX4_gives 6 = .ok (.iaload, 1) := by decide +kernel
theorem dX4_gives_7 : decode cX4_gives 7 = .ok (.iconst 1, 1) := by decide +kernel
theorem dX4_gives_8 : decode cX4_gives 8 = .ok (.iload_n 2, 1) := by decide +kernel
theorem dX4_gives_9 : decode cX4_gives 9 = .ok (.ishl, 1) := by decide +kernel
theorem dX4_gives_10 : decode cX4_gives 10 = .ok (.iconst (-1), 1) := by decide +kernel
theorem dX4_gives_11 : decode cX4_gives 11 = .ok (.ixor, 1) := by decide +kernel
theorem dX4_gives_12 : decode cX4_gives 12 = .ok (.iand, 1) := by decide +kernel
theorem dX4_gives_13 : decode cX4_gives 13 = .ok (.iastore, 1) := by decide +kernel
theorem dX4_gives_14 : decode cX4_gives 14 = .ok (.aload_n 0, 1) := by decide +kernel
theorem dX4_gives_15 : decode cX4_gives 15 = .ok (.getfield 40, 3) := by decide +kernel
theorem dX4_gives_18 : decode cX4_gives 18 = .ok (.iload_n 1, 1) := by decide +kernel
theorem dX4_gives_19 : decode cX4_gives 19 = .ok (.aload_n 0, 1) := by decide +kernel
theorem dX4_gives_20 : decode cX4_gives 20 = .ok (.getfield 40, 3) := by decide +kernel
theorem dX4_gives_23 : decode cX4_gives 23 = .ok (.iload_n 1, 1) := by decide +kernel
theorem dX4_gives_24 : decode cX4_gives 24 = .ok (.iaload, 1) := by decide +kernel
theorem dX4_gives_25 : decode cX4_gives 25 = .ok (.iload_n 2, 1) := by decide +kernel
theorem dX4_gives_26 : decode cX4_gives 26 = .ok (.if_icmp .ne 7, 3) := by decide +kernel
theorem dX4_gives_29 : decode cX4_gives 29 = .ok (.iconst (-1), 1) := by decide +kernel
theorem dX4_gives_30 : decode cX4_gives 30 = .ok (.goto 9, 3) := by decide +kernel
theorem dX4_gives_33 : decode cX4_gives 33 = .ok (.aload_n 0, 1) := by decide +kernel
theorem dX4_gives_34 : decode cX4_gives 34 = .ok (.getfield 40, 3) := by decide +kernel
theorem dX4_gives_37 : decode cX4_gives 37 = .ok (.iload_n 1, 1) := by decide +kernel
theorem dX4_gives_38 : decode cX4_gives 38 = .ok (.iaload, 1) := by decide +kernel
theorem dX4_gives_39 : decode cX4_gives 39 = .ok (.iastore, 1) := by decide +kernel
theorem dX4_gives_40 : decode cX4_gives 40 = .ok (.return_, 1) := by decide +kernel
theorem dX4_offers_0 : decode cX4_offers 0 = .ok (.iconst 0, 1) := by decide +kernel
theorem dX4_offers_1 : decode cX4_offers 1 = .ok (.istore_n 1, 1) := by decide +kernel
theorem dX4_offers_2 : decode cX4_offers 2 = .ok (.iload_n 1, 1) := by decide +kernel
theorem dX4_offers_3 : decode cX4_offers 3 = .ok (.aload_n 0, 1) := by decide +kernel
theorem dX4_offers_4 : decode cX4_offers 4 = .ok (.getfield 71, 3) := by decide +kernel
theorem dX4_offers_7 : decode cX4_offers 7 = .ok (.if_icmp .ge 86, 3) := by decide +kernel
theorem dX4_offers_10 : decode cX4_offers 10 = .ok (.iconst 0, 1) := by decide +kernel
theorem dX4_offers_11 : decode cX4_offers 11 = .ok (.istore_n 2, 1) := by decide +kernel
theorem dX4_offers_12 : decode cX4_offers 12 = .ok (.iload_n 2, 1) := by decide +kernel
theorem dX4_offers_13 : decode cX4_offers 13 = .ok (.aload_n 0, 1) := by decide +kernel
theorem dX4_offers_14 : decode cX4_offers 14 = .ok (.getfield 46, 3) := by decide +kernel
theorem dX4_offers_17 : decode cX4_offers 17 = .ok (.iload_n 1, 1) := by decide +kernel
theorem dX4_offers_18 : decode cX4_offers 18 = .ok (.iaload, 1) := by decide +kernel
theorem dX4_offers_19 : decode cX4_offers 19 = .ok (.if_icmp .ge 68, 3) := by decide +kernel
theorem dX4_offers_22 : decode cX4_offers 22 = .ok (.aload_n 0, 1) := by decide +kernel
theorem dX4_offers_23 : decode cX4_offers 23 = .ok (.getfield 49, 3) := by decide +kernel
theorem dX4_offers_26 : decode cX4_offers 26 = .ok (.bipush 16, 2) := by decide +kernel
theorem dX4_offers_28 : decode cX4_offers 28 = .ok (.iload_n 1, 1) := by decide +kernel
theorem dX4_offers_29 : decode cX4_offers 29 = .ok (.imul, 1) := by decide +kernel
theorem dX4_offers_30 : decode cX4_offers 30 = .ok (.iload_n 2, 1) := by decide +kernel
theorem dX4_offers_31 : decode cX4_offers 31 = .ok (.iadd, 1) := by decide +kernel
theorem dX4_offers_32 : decode cX4_offers 32 = .ok (.iaload, 1) := by decide +kernel
theorem dX4_offers_33 : decode cX4_offers 33 = .ok (.istore_n 3, 1) := by decide +kernel
theorem dX4_offers_34 : decode cX4_offers 34 = .ok (.aload_n 0, 1) := by decide +kernel
theorem dX4_offers_35 : decode cX4_offers 35 = .ok (.iload_n 3, 1) := by decide +kernel
theorem dX4_offers_36 : decode cX4_offers 36 = .ok (.iload_n 1, 1) := by decide +kernel
theorem dX4_offers_37 : decode cX4_offers 37 = .ok (.invokevirtual 98, 3) := by decide +kernel
theorem dX4_offers_40 : decode cX4_offers 40 = .ok (.ifCond .ne 41, 3) := by decide +kernel
theorem dX4_offers_43 : decode cX4_offers 43 = .ok (.aload_n 0, 1) := by decide +kernel
theorem dX4_offers_44 : decode cX4_offers 44 = .ok (.iload_n 1, 1) := by decide +kernel
theorem dX4_offers_45 : decode cX4_offers 45 = .ok (.invokevirtual 115, 3) := by decide +kernel
theorem dX4_offers_48 : decode cX4_offers 48 = .ok (.ifCond .le 33, 3) := by decide +kernel
theorem dX4_offers_51 : decode cX4_offers 51 = .ok (.aload_n 0, 1) := by decide +kernel
theorem dX4_offers_52 : decode cX4_offers 52 = .ok (.iload_n 3, 1) := by decide +kernel
theorem dX4_offers_53 : decode cX4_offers 53 = .ok (.iload_n 1, 1) := by decide +kernel
theorem dX4_offers_54 : decode cX4_offers 54 = .ok (.aload_n 0, 1) := by decide +kernel
theorem dX4_offers_55 : decode cX4_offers 55 = .ok (.getfield 31, 3) := by decide +kernel
theorem dX4_offers_58 : decode cX4_offers 58 = .ok (.iload_n 3, 1) := by decide +kernel
theorem dX4_offers_59 : decode cX4_offers 59 = .ok (.iaload, 1) := by decide +kernel
theorem dX4_offers_60 : decode cX4_offers 60 = .ok (.invokevirtual 118, 3) := by decide +kernel
theorem dX4_offers_63 : decode cX4_offers 63 = .ok (.ifCond .ne 18, 3) := by decide +kernel
theorem dX4_offers_66 : decode cX4_offers 66 = .ok (.aload_n 0, 1) := by decide +kernel
theorem dX4_offers_67 : decode cX4_offers 67 = .ok (.getfield 52, 3) := by decide +kernel
theorem dX4_offers_70 : decode cX4_offers 70 = .ok (.bipush 16, 2) := by decide +kernel
theorem dX4_offers_72 : decode cX4_offers 72 = .ok (.iload_n 1, 1) := by decide +kernel
theorem dX4_offers_73 : decode cX4_offers 73 = .ok (.imul, 1) := by decide +kernel
theorem dX4_offers_74 : decode cX4_offers 74 = .ok (.iload_n 3, 1) := by decide +kernel
theorem dX4_offers_75 : decode cX4_offers 75 = .ok (.iadd, 1) := by decide +kernel
theorem dX4_offers_76 : decode cX4_offers 76 = .ok (.aload_n 0, 1) := by decide +kernel
theorem dX4_offers_77 : decode cX4_offers 77 = .ok (.getfield 64, 3) := by decide +kernel
theorem dX4_offers_80 : decode cX4_offers 80 = .ok (.iastore, 1) := by decide +kernel
theorem dX4_offers_81 : decode cX4_offers 81 = .ok (.iinc 2 1, 3) := by decide +kernel
theorem dX4_offers_84 : decode cX4_offers 84 = .ok (.goto (-72), 3) := by decide +kernel
theorem dX4_offers_87 : decode cX4_offers 87 = .ok (.iinc 1 1, 3) := by decide +kernel
theorem dX4_offers_90 : decode cX4_offers 90 = .ok (.goto (-88), 3) := by decide +kernel
theorem dX4_offers_93 : decode cX4_offers 93 = .ok (.return_, 1) := by decide +kernel
theorem dX4_addCourse_0 : decode cX4_addCourse 0 = .ok (.iload_n 1, 1) := by decide +kernel
theorem dX4_addCourse_1 : decode cX4_addCourse 1 = .ok (.ifCond .lt 34, 3) := by decide +kernel
theorem dX4_addCourse_4 : decode cX4_addCourse 4 = .ok (.iload_n 1, 1) := by decide +kernel
theorem dX4_addCourse_5 : decode cX4_addCourse 5 = .ok (.bipush 16, 2) := by decide +kernel
theorem dX4_addCourse_7 : decode cX4_addCourse 7 = .ok (.if_icmp .gt 28, 3) := by decide +kernel
theorem dX4_addCourse_10 : decode cX4_addCourse 10 = .ok (.iload_n 2, 1) := by decide +kernel
theorem dX4_addCourse_11 : decode cX4_addCourse 11 = .ok (.iconst 1, 1) := by decide +kernel
theorem dX4_addCourse_12 : decode cX4_addCourse 12 = .ok (.if_icmp .lt 23, 3) := by decide +kernel
theorem dX4_addCourse_15 : decode cX4_addCourse 15 = .ok (.iload_n 2, 1) := by decide +kernel
theorem dX4_addCourse_16 : decode cX4_addCourse 16 = .ok (.bipush 12, 2) := by decide +kernel
theorem dX4_addCourse_18 : decode cX4_addCourse 18 = .ok (.if_icmp .gt 17, 3) := by decide +kernel
theorem dX4_addCourse_21 : decode cX4_addCourse 21 = .ok (.iload_n 3, 1) := by decide +kernel
theorem dX4_addCourse_22 : decode cX4_addCourse 22 = .ok (.ifCond .lt 13, 3) := by decide +kernel
theorem dX4_addCourse_25 : decode cX4_addCourse 25 = .ok (.iload_n 3, 1) := by decide +kernel
theorem dX4_addCourse_26 : decode cX4_addCourse 26 = .ok (.ldc 122, 2) := by decide +kernel
theorem dX4_addCourse_28 : decode cX4_addCourse 28 = .ok (.if_icmp .gt 7, 3) := by decide +kernel
theorem dX4_addCourse_31 : decode cX4_addCourse 31 = .ok (.iconst 1, 1) := by decide +kernel
theorem dX4_addCourse_32 : decode cX4_addCourse 32 = .ok (.goto 4, 3) := by decide +kernel
theorem dX4_addCourse_35 : decode cX4_addCourse 35 = .ok (.iconst 0, 1) := by decide +kernel
theorem dX4_addCourse_36 : decode cX4_addCourse 36 = .ok (.istore 4, 2) := by decide +kernel
theorem dX4_addCourse_38 : decode cX4_addCourse 38 = .ok (.aload_n 0, 1) := by decide +kernel
theorem dX4_addCourse_39 : decode cX4_addCourse 39 = .ok (.iload 4, 2) := by decide +kernel
theorem dX4_addCourse_41 : decode cX4_addCourse 41 = .ok (.ifCond .ne 7, 3) := by decide +kernel
theorem dX4_addCourse_44 : decode cX4_addCourse 44 = .ok (.iconst 1, 1) := by decide +kernel
theorem dX4_addCourse_45 : decode cX4_addCourse 45 = .ok (.goto 17, 3) := by decide +kernel
theorem dX4_addCourse_48 : decode cX4_addCourse 48 = .ok (.aload_n 0, 1) := by decide +kernel
theorem dX4_addCourse_49 : decode cX4_addCourse 49 = .ok (.getfield 71, 3) := by decide +kernel
theorem dX4_addCourse_52 : decode cX4_addCourse 52 = .ok (.bipush 20, 2) := by decide +kernel
theorem dX4_addCourse_54 : decode cX4_addCourse 54 = .ok (.if_icmp .ne 7, 3) := by decide +kernel
theorem dX4_addCourse_57 : decode cX4_addCourse 57 = .ok (.iconst 2, 1) := by decide +kernel
theorem dX4_addCourse_58 : decode cX4_addCourse 58 = .ok (.goto 4, 3) := by decide +kernel
theorem dX4_addCourse_61 : decode cX4_addCourse 61 = .ok (.iconst 0, 1) := by decide +kernel
theorem dX4_addCourse_62 : decode cX4_addCourse 62 = .ok (.putfield 68, 3) := by decide +kernel
theorem dX4_addCourse_65 : decode cX4_addCourse 65 = .ok (.aload_n 0, 1) := by decide +kernel
theorem dX4_addCourse_66 : decode cX4_addCourse 66 = .ok (.getfield 68, 3) := by decide +kernel
theorem dX4_addCourse_69 : decode cX4_addCourse 69 = .ok (.ifCond .le 5, 3) := by decide +kernel
theorem dX4_addCourse_72 : decode cX4_addCourse 72 = .ok (.iconst 0, 1) := by decide +kernel
theorem dX4_addCourse_73 : decode cX4_addCourse 73 = .ok (.ireturn, 1) := by decide +kernel
theorem dX4_addCourse_74 : decode cX4_addCourse 74 = .ok (.aload_n 0, 1) := by decide +kernel
theorem dX4_addCourse_75 : decode cX4_addCourse 75 = .ok (.getfield 71, 3) := by decide +kernel
theorem dX4_addCourse_78 : decode cX4_addCourse 78 = .ok (.istore 5, 2) := by decide +kernel
theorem dX4_addCourse_80 : decode cX4_addCourse 80 = .ok (.aload_n 0, 1) := by decide +kernel
theorem dX4_addCourse_81 : decode cX4_addCourse 81 = .ok (.getfield 7, 3) := by decide +kernel
theorem dX4_addCourse_84 : decode cX4_addCourse 84 = .ok (.iload 5, 2) := by decide +kernel
theorem dX4_addCourse_86 : decode cX4_addCourse 86 = .ok (.iload_n 1, 1) := by decide +kernel
theorem dX4_addCourse_87 : decode cX4_addCourse 87 = .ok (.iastore, 1) := by decide +kernel
theorem dX4_addCourse_88 : decode cX4_addCourse 88 = .ok (.aload_n 0, 1) := by decide +kernel
theorem dX4_addCourse_89 : decode cX4_addCourse 89 = .ok (.getfield 13, 3) := by decide +kernel
theorem dX4_addCourse_92 : decode cX4_addCourse 92 = .ok (.iload 5, 2) := by decide +kernel
theorem dX4_addCourse_94 : decode cX4_addCourse 94 = .ok (.iload_n 2, 1) := by decide +kernel
theorem dX4_addCourse_95 : decode cX4_addCourse 95 = .ok (.iastore, 1) := by decide +kernel
theorem dX4_addCourse_96 : decode cX4_addCourse 96 = .ok (.aload_n 0, 1) := by decide +kernel
theorem dX4_addCourse_97 : decode cX4_addCourse 97 = .ok (.getfield 16, 3) := by decide +kernel
theorem dX4_addCourse_100 : decode cX4_addCourse 100 = .ok (.iload 5, 2) := by decide +kernel
theorem dX4_addCourse_102 : decode cX4_addCourse 102 = .ok (.iload_n 3, 1) := by decide +kernel
theorem dX4_addCourse_103 : decode cX4_addCourse 103 = .ok (.iastore, 1) := by decide +kernel
theorem dX4_addCourse_104 : decode cX4_addCourse 104 = .ok (.aload_n 0, 1) := by decide +kernel
theorem dX4_addCourse_105 : decode cX4_addCourse 105 = .ok (.getfield 19, 3) := by decide +kernel
theorem dX4_addCourse_108 : decode cX4_addCourse 108 = .ok (.iload 5, 2) := by decide +kernel
theorem dX4_addCourse_110 : decode cX4_addCourse 110 = .ok (.iconst 0, 1) := by decide +kernel
theorem dX4_addCourse_111 : decode cX4_addCourse 111 = .ok (.iastore, 1) := by decide +kernel
theorem dX4_addCourse_112 : decode cX4_addCourse 112 = .ok (.aload_n 0, 1) := by decide +kernel
theorem dX4_addCourse_113 : decode cX4_addCourse 113 = .ok (.getfield 46, 3) := by decide +kernel
theorem dX4_addCourse_116 : decode cX4_addCourse 116 = .ok (.iload 5, 2) := by decide +kernel
theorem dX4_addCourse_118 : decode cX4_addCourse 118 = .ok (.iconst 0, 1) := by decide +kernel
theorem dX4_addCourse_119 : decode cX4_addCourse 119 = .ok (.iastore, 1) := by decide +kernel
theorem dX4_addCourse_120 : decode cX4_addCourse 120 = .ok (.iconst 0, 1) := by decide +kernel
theorem dX4_addCourse_121 : decode cX4_addCourse 121 = .ok (.istore 6, 2) := by decide +kernel
theorem dX4_addCourse_123 : decode cX4_addCourse 123 = .ok (.iload 6, 2) := by decide +kernel
theorem dX4_addCourse_125 : decode cX4_addCourse 125 = .ok (.bipush 16, 2) := by decide +kernel
theorem dX4_addCourse_127 : decode cX4_addCourse 127 = .ok (.if_icmp .ge 23, 3) := by decide +kernel
theorem dX4_addCourse_130 : decode cX4_addCourse 130 = .ok (.aload_n 0, 1) := by decide +kernel
theorem dX4_addCourse_131 : decode cX4_addCourse 131 = .ok (.getfield 52, 3) := by decide +kernel
theorem dX4_addCourse_134 : decode cX4_addCourse 134 = .ok (.bipush 16, 2) := by decide +kernel
theorem dX4_addCourse_136 : decode cX4_addCourse 136 = .ok (.iload 5, 2) := by decide +kernel
theorem dX4_addCourse_138 : decode cX4_addCourse 138 = .ok (.imul, 1) := by decide +kernel
theorem dX4_addCourse_139 : decode cX4_addCourse 139 = .ok (.iload 6, 2) := by decide +kernel
theorem dX4_addCourse_141 : decode cX4_addCourse 141 = .ok (.iadd, 1) := by decide +kernel
theorem dX4_addCourse_142 : decode cX4_addCourse 142 = .ok (.iconst (-1), 1) := by decide +kernel
theorem dX4_addCourse_143 : decode cX4_addCourse 143 = .ok (.iastore, 1) := by decide +kernel
theorem dX4_addCourse_144 : decode cX4_addCourse 144 = .ok (.iinc 6 1, 3) := by decide +kernel
theorem dX4_addCourse_147 : decode cX4_addCourse 147 = .ok (.goto (-24), 3) := by decide +kernel
theorem dX4_addCourse_150 : decode cX4_addCourse 150 = .ok (.aload_n 0, 1) := by decide +kernel
theorem dX4_addCourse_151 : decode cX4_addCourse 151 = .ok (.dup, 1) := by decide +kernel
theorem dX4_addCourse_152 : decode cX4_addCourse 152 = .ok (.getfield 71, 3) := by decide +kernel
theorem dX4_addCourse_155 : decode cX4_addCourse 155 = .ok (.iconst 1, 1) := by decide +kernel
theorem dX4_addCourse_156 : decode cX4_addCourse 156 = .ok (.iadd, 1) := by decide +kernel
theorem dX4_addCourse_157 : decode cX4_addCourse 157 = .ok (.putfield 71, 3) := by decide +kernel
theorem dX4_addCourse_160 : decode cX4_addCourse 160 = .ok (.iload 5, 2) := by decide +kernel
theorem dX4_addCourse_162 : decode cX4_addCourse 162 = .ok (.ireturn, 1) := by decide +kernel
theorem dX4_setSeats_0 : decode cX4_setSeats 0 = .ok (.aload_n 0, 1) := by decide +kernel
theorem dX4_setSeats_1 : decode cX4_setSeats 1 = .ok (.aload_n 0, 1) := by decide +kernel
theorem dX4_setSeats_2 : decode cX4_setSeats 2 = .ok (.iload_n 1, 1) := by decide +kernel
theorem dX4_setSeats_3 : decode cX4_setSeats 3 = .ok (.invokevirtual 81, 3) := by decide +kernel
theorem dX4_setSeats_6 : decode cX4_setSeats 6 = .ok (.ifCond .ne 7, 3) := by decide +kernel
theorem dX4_setSeats_9 : decode cX4_setSeats 9 = .ok (.iconst 1, 1) := by decide +kernel
theorem dX4_setSeats_10 : decode cX4_setSeats 10 = .ok (.goto 18, 3) := by decide +kernel
theorem dX4_setSeats_13 : decode cX4_setSeats 13 = .ok (.iload_n 2, 1) := by decide +kernel
theorem dX4_setSeats_14 : decode cX4_setSeats 14 = .ok (.ifCond .lt 9, 3) := by decide +kernel
theorem dX4_setSeats_17 : decode cX4_setSeats 17 = .ok (.iload_n 2, 1) := by decide +kernel
theorem dX4_setSeats_18 : decode cX4_setSeats 18 = .ok (.bipush 16, 2) := by decide +kernel
theorem dX4_setSeats_20 : decode cX4_setSeats 20 = .ok (.if_icmp .le 7, 3) := by decide +kernel
theorem dX4_setSeats_23 : decode cX4_setSeats 23 = .ok (.iconst 2, 1) := by decide +kernel
theorem dX4_setSeats_24 : decode cX4_setSeats 24 = .ok (.goto 4, 3) := by decide +kernel
theorem dX4_setSeats_27 : decode cX4_setSeats 27 = .ok (.iconst 0, 1) := by decide +kernel
theorem dX4_setSeats_28 : decode cX4_setSeats 28 = .ok (.putfield 68, 3) := by decide +kernel
theorem dX4_setSeats_31 : decode cX4_setSeats 31 = .ok (.aload_n 0, 1) := by decide +kernel
theorem dX4_setSeats_32 : decode cX4_setSeats 32 = .ok (.getfield 68, 3) := by decide +kernel
theorem dX4_setSeats_35 : decode cX4_setSeats 35 = .ok (.ifCond .ne 24, 3) := by decide +kernel
theorem dX4_setSeats_38 : decode cX4_setSeats 38 = .ok (.iload_n 2, 1) := by decide +kernel
theorem dX4_setSeats_39 : decode cX4_setSeats 39 = .ok (.aload_n 0, 1) := by decide +kernel
theorem dX4_setSeats_40 : decode cX4_setSeats 40 = .ok (.getfield 7, 3) := by decide +kernel
theorem dX4_setSeats_43 : decode cX4_setSeats 43 = .ok (.iload_n 1, 1) := by decide +kernel
theorem dX4_setSeats_44 : decode cX4_setSeats 44 = .ok (.iaload, 1) := by decide +kernel
theorem dX4_setSeats_45 : decode cX4_setSeats 45 = .ok (.aload_n 0, 1) := by decide +kernel
theorem dX4_setSeats_46 : decode cX4_setSeats 46 = .ok (.iload_n 1, 1) := by decide +kernel
theorem dX4_setSeats_47 : decode cX4_setSeats 47 = .ok (.invokevirtual 115, 3) := by decide +kernel
theorem dX4_setSeats_50 : decode cX4_setSeats 50 = .ok (.isub, 1) := by decide +kernel
theorem dX4_setSeats_51 : decode cX4_setSeats 51 = .ok (.if_icmp .ge 8, 3) := by decide +kernel
theorem dX4_setSeats_54 : decode cX4_setSeats 54 = .ok (.aload_n 0, 1) := by decide +kernel
theorem dX4_setSeats_55 : decode cX4_setSeats 55 = .ok (.iconst 3, 1) := by decide +kernel
theorem dX4_setSeats_56 : decode cX4_setSeats 56 = .ok (.putfield 68, 3) := by decide +kernel
theorem dX4_setSeats_59 : decode cX4_setSeats 59 = .ok (.aload_n 0, 1) := by decide +kernel
theorem dX4_setSeats_60 : decode cX4_setSeats 60 = .ok (.getfield 68, 3) := by decide +kernel
theorem dX4_setSeats_63 : decode cX4_setSeats 63 = .ok (.ifCond .le 5, 3) := by decide +kernel
theorem dX4_setSeats_66 : decode cX4_setSeats 66 = .ok (.iconst 0, 1) := by decide +kernel
theorem dX4_setSeats_67 : decode cX4_setSeats 67 = .ok (.ireturn, 1) := by decide +kernel
theorem dX4_setSeats_68 : decode cX4_setSeats 68 = .ok (.aload_n 0, 1) := by decide +kernel
theorem dX4_setSeats_69 : decode cX4_setSeats 69 = .ok (.getfield 7, 3) := by decide +kernel
theorem dX4_setSeats_72 : decode cX4_setSeats 72 = .ok (.iload_n 1, 1) := by decide +kernel
theorem dX4_setSeats_73 : decode cX4_setSeats 73 = .ok (.iaload, 1) := by decide +kernel
theorem dX4_setSeats_74 : decode cX4_setSeats 74 = .ok (.istore_n 3, 1) := by decide +kernel
theorem dX4_setSeats_75 : decode cX4_setSeats 75 = .ok (.aload_n 0, 1) := by decide +kernel
theorem dX4_setSeats_76 : decode cX4_setSeats 76 = .ok (.getfield 7, 3) := by decide +kernel
theorem dX4_setSeats_79 : decode cX4_setSeats 79 = .ok (.iload_n 1, 1) := by decide +kernel
theorem dX4_setSeats_80 : decode cX4_setSeats 80 = .ok (.iload_n 2, 1) := by decide +kernel
theorem dX4_setSeats_81 : decode cX4_setSeats 81 = .ok (.iastore, 1) := by decide +kernel
theorem dX4_setSeats_82 : decode cX4_setSeats 82 = .ok (.aload_n 0, 1) := by decide +kernel
theorem dX4_setSeats_83 : decode cX4_setSeats 83 = .ok (.invokevirtual 123, 3) := by decide +kernel
theorem dX4_setSeats_86 : decode cX4_setSeats 86 = .ok (.iload_n 3, 1) := by decide +kernel
theorem dX4_setSeats_87 : decode cX4_setSeats 87 = .ok (.ireturn, 1) := by decide +kernel
theorem dX4_addPrerequisite_0 : decode cX4_addPrerequisite 0 = .ok (.aload_n 0, 1) := by decide +kernel
theorem dX4_addPrerequisite_1 : decode cX4_addPrerequisite 1 = .ok (.aload_n 0, 1) := by decide +kernel
theorem dX4_addPrerequisite_2 : decode cX4_addPrerequisite 2 = .ok (.iload_n 1, 1) := by decide +kernel
theorem dX4_addPrerequisite_3 : decode cX4_addPrerequisite 3 = .ok (.invokevirtual 81, 3) := by decide +kernel
theorem dX4_addPrerequisite_6 : decode cX4_addPrerequisite 6 = .ok (.ifCond .eq 15, 3) := by decide +kernel
theorem dX4_addPrerequisite_9 : decode cX4_addPrerequisite 9 = .ok (.aload_n 0, 1) := by decide +kernel
theorem dX4_addPrerequisite_10 : decode cX4_addPrerequisite 10 = .ok (.iload_n 2, 1) := by decide +kernel
theorem dX4_addPrerequisite_11 : decode cX4_addPrerequisite 11 = .ok (.invokevirtual 81, 3) := by decide +kernel
theorem dX4_addPrerequisite_14 : decode cX4_addPrerequisite 14 = .ok (.ifCond .eq 7, 3) := by decide +kernel
theorem dX4_addPrerequisite_17 : decode cX4_addPrerequisite 17 = .ok (.iconst 0, 1) := by decide +kernel
theorem dX4_addPrerequisite_18 : decode cX4_addPrerequisite 18 = .ok (.goto 4, 3) := by decide +kernel
theorem dX4_addPrerequisite_21 : decode cX4_addPrerequisite 21 = .ok (.iconst 1, 1) := by decide +kernel
theorem dX4_addPrerequisite_22 : decode cX4_addPrerequisite 22 = .ok (.putfield 68, 3) := by decide +kernel
theorem dX4_addPrerequisite_25 : decode cX4_addPrerequisite 25 = .ok (.aload_n 0, 1) := by decide +kernel
theorem dX4_addPrerequisite_26 : decode cX4_addPrerequisite 26 = .ok (.getfield 68, 3) := by decide +kernel
theorem dX4_addPrerequisite_29 : decode cX4_addPrerequisite 29 = .ok (.ifCond .ne 38, 3) := by decide +kernel
theorem dX4_addPrerequisite_32 : decode cX4_addPrerequisite 32 = .ok (.iload_n 1, 1) := by decide +kernel
theorem dX4_addPrerequisite_33 : decode cX4_addPrerequisite 33 = .ok (.iload_n 2, 1) := by decide +kernel
theorem dX4_addPrerequisite_34 : decode cX4_addPrerequisite 34 = .ok (.if_icmp .eq 28, 3) := by decide +kernel
theorem dX4_addPrerequisite_37 : decode cX4_addPrerequisite 37 = .ok (.aload_n 0, 1) := by decide +kernel
theorem dX4_addPrerequisite_38 : decode cX4_addPrerequisite 38 = .ok (.getfield 19, 3) := by decide +kernel
theorem dX4_addPrerequisite_41 : decode cX4_addPrerequisite 41 = .ok (.iload_n 1, 1) := by decide +kernel
theorem dX4_addPrerequisite_42 : decode cX4_addPrerequisite 42 = .ok (.iaload, 1) := by decide +kernel
theorem dX4_addPrerequisite_43 : decode cX4_addPrerequisite 43 = .ok (.iload_n 2, 1) := by decide +kernel
theorem dX4_addPrerequisite_44 : decode cX4_addPrerequisite 44 = .ok (.invokestatic 84, 3) := by decide +kernel
theorem dX4_addPrerequisite_47 : decode cX4_addPrerequisite 47 = .ok (.ifCond .ne 15, 3) := by decide +kernel
theorem dX4_addPrerequisite_50 : decode cX4_addPrerequisite 50 = .ok (.aload_n 0, 1) := by decide +kernel
theorem dX4_addPrerequisite_51 : decode cX4_addPrerequisite 51 = .ok (.iload_n 2, 1) := by decide +kernel
theorem dX4_addPrerequisite_52 : decode cX4_addPrerequisite 52 = .ok (.invokevirtual 88, 3) := by decide +kernel
theorem dX4_addPrerequisite_55 : decode cX4_addPrerequisite 55 = .ok (.iload_n 1, 1) := by decide +kernel
theorem dX4_addPrerequisite_56 : decode cX4_addPrerequisite 56 = .ok (.invokestatic 84, 3) := by decide +kernel
theorem dX4_addPrerequisite_59 : decode cX4_addPrerequisite 59 = .ok (.ifCond .eq 8, 3) := by decide +kernel
theorem dX4_addPrerequisite_62 : decode cX4_addPrerequisite 62 = .ok (.aload_n 0, 1) := by decide +kernel
theorem dX4_addPrerequisite_63 : decode cX4_addPrerequisite 63 = .ok (.iconst 2, 1) := by decide +kernel
theorem dX4_addPrerequisite_64 : decode cX4_addPrerequisite 64 = .ok (.putfield 68, 3) := by decide +kernel
theorem dX4_addPrerequisite_67 : decode cX4_addPrerequisite 67 = .ok (.aload_n 0, 1) := by decide +kernel
theorem dX4_addPrerequisite_68 : decode cX4_addPrerequisite 68 = .ok (.getfield 68, 3) := by decide +kernel
theorem dX4_addPrerequisite_71 : decode cX4_addPrerequisite 71 = .ok (.ifCond .le 5, 3) := by decide +kernel
theorem dX4_addPrerequisite_74 : decode cX4_addPrerequisite 74 = .ok (.iconst 0, 1) := by decide +kernel
theorem dX4_addPrerequisite_75 : decode cX4_addPrerequisite 75 = .ok (.ireturn, 1) := by decide +kernel
theorem dX4_addPrerequisite_76 : decode cX4_addPrerequisite 76 = .ok (.aload_n 0, 1) := by decide +kernel
theorem dX4_addPrerequisite_77 : decode cX4_addPrerequisite 77 = .ok (.getfield 19, 3) := by decide +kernel
theorem dX4_addPrerequisite_80 : decode cX4_addPrerequisite 80 = .ok (.iload_n 1, 1) := by decide +kernel
theorem dX4_addPrerequisite_81 : decode cX4_addPrerequisite 81 = .ok (.dup2, 1) := by decide +kernel
theorem dX4_addPrerequisite_82 : decode cX4_addPrerequisite 82 = .ok (.iaload, 1) := by decide +kernel
theorem dX4_addPrerequisite_83 : decode cX4_addPrerequisite 83 = .ok (.iconst 1, 1) := by decide +kernel
theorem dX4_addPrerequisite_84 : decode cX4_addPrerequisite 84 = .ok (.iload_n 2, 1) := by decide +kernel
theorem dX4_addPrerequisite_85 : decode cX4_addPrerequisite 85 = .ok (.ishl, 1) := by decide +kernel
theorem dX4_addPrerequisite_86 : decode cX4_addPrerequisite 86 = .ok (.ior, 1) := by decide +kernel
theorem dX4_addPrerequisite_87 : decode cX4_addPrerequisite 87 = .ok (.iastore, 1) := by decide +kernel
theorem dX4_addPrerequisite_88 : decode cX4_addPrerequisite 88 = .ok (.aload_n 0, 1) := by decide +kernel
theorem dX4_addPrerequisite_89 : decode cX4_addPrerequisite 89 = .ok (.invokevirtual 123, 3) := by decide +kernel
theorem dX4_addPrerequisite_92 : decode cX4_addPrerequisite 92 = .ok (.aload_n 0, 1) := by decide +kernel
theorem dX4_addPrerequisite_93 : decode cX4_addPrerequisite 93 = .ok (.iload_n 1, 1) := by decide +kernel
theorem dX4_addPrerequisite_94 : decode cX4_addPrerequisite 94 = .ok (.invokevirtual 88, 3) := by decide +kernel
theorem dX4_addPrerequisite_97 : decode cX4_addPrerequisite 97 = .ok (.invokestatic 126, 3) := by decide +kernel
theorem dX4_addPrerequisite_100 : decode cX4_addPrerequisite 100 = .ok (.ireturn, 1) := by decide +kernel
theorem dX4_requires_0 : decode cX4_requires 0 = .ok (.aload_n 0, 1) := by decide +kernel
theorem dX4_requires_1 : decode cX4_requires 1 = .ok (.aload_n 0, 1) := by decide +kernel
theorem dX4_requires_2 : decode cX4_requires 2 = .ok (.iload_n 1, 1) := by decide +kernel
theorem dX4_requires_3 : decode cX4_requires 3 = .ok (.invokevirtual 81, 3) := by decide +kernel
theorem dX4_requires_6 : decode cX4_requires 6 = .ok (.ifCond .eq 15, 3) := by decide +kernel
theorem dX4_requires_9 : decode cX4_requires 9 = .ok (.aload_n 0, 1) := by decide +kernel
theorem dX4_requires_10 : decode cX4_requires 10 = .ok (.iload_n 2, 1) := by decide +kernel
theorem dX4_requires_11 : decode cX4_requires 11 = .ok (.invokevirtual 81, 3) := by decide +kernel
theorem dX4_requires_14 : decode cX4_requires 14 = .ok (.ifCond .eq 7, 3) := by decide +kernel
theorem dX4_requires_17 : decode cX4_requires 17 = .ok (.iconst 0, 1) := by decide +kernel
theorem dX4_requires_18 : decode cX4_requires 18 = .ok (.goto 4, 3) := by decide +kernel
theorem dX4_requires_21 : decode cX4_requires 21 = .ok (.iconst 1, 1) := by decide +kernel
theorem dX4_requires_22 : decode cX4_requires 22 = .ok (.putfield 68, 3) := by decide +kernel
theorem dX4_requires_25 : decode cX4_requires 25 = .ok (.aload_n 0, 1) := by decide +kernel
theorem dX4_requires_26 : decode cX4_requires 26 = .ok (.getfield 68, 3) := by decide +kernel
theorem dX4_requires_29 : decode cX4_requires 29 = .ok (.ifCond .ne 19, 3) := by decide +kernel
theorem dX4_requires_32 : decode cX4_requires 32 = .ok (.aload_n 0, 1) := by decide +kernel
theorem dX4_requires_33 : decode cX4_requires 33 = .ok (.iload_n 1, 1) := by decide +kernel
theorem dX4_requires_34 : decode cX4_requires 34 = .ok (.invokevirtual 88, 3) := by decide +kernel
theorem dX4_requires_37 : decode cX4_requires 37 = .ok (.iload_n 2, 1) := by decide +kernel
theorem dX4_requires_38 : decode cX4_requires 38 = .ok (.invokestatic 84, 3) := by decide +kernel
theorem dX4_requires_41 : decode cX4_requires 41 = .ok (.ifCond .eq 7, 3) := by decide +kernel
theorem dX4_requires_44 : decode cX4_requires 44 = .ok (.iconst 1, 1) := by decide +kernel
theorem dX4_requires_45 : decode cX4_requires 45 = .ok (.goto 4, 3) := by decide +kernel
theorem dX4_requires_48 : decode cX4_requires 48 = .ok (.iconst 0, 1) := by decide +kernel
theorem dX4_requires_49 : decode cX4_requires 49 = .ok (.ireturn, 1) := by decide +kernel
theorem dX4_level_0 : decode cX4_level 0 = .ok (.aload_n 0, 1) := by decide +kernel
theorem dX4_level_1 : decode cX4_level 1 = .ok (.aload_n 0, 1) := by decide +kernel
theorem dX4_level_2 : decode cX4_level 2 = .ok (.iload_n 1, 1) := by decide +kernel
theorem dX4_level_3 : decode cX4_level 3 = .ok (.invokevirtual 81, 3) := by decide +kernel
theorem dX4_level_6 : decode cX4_level 6 = .ok (.ifCond .eq 7, 3) := by decide +kernel
theorem dX4_level_9 : decode cX4_level 9 = .ok (.iconst 0, 1) := by decide +kernel
theorem dX4_level_10 : decode cX4_level 10 = .ok (.goto 4, 3) := by decide +kernel
theorem dX4_level_13 : decode cX4_level 13 = .ok (.iconst 1, 1) := by decide +kernel
theorem dX4_level_14 : decode cX4_level 14 = .ok (.putfield 68, 3) := by decide +kernel
theorem dX4_level_17 : decode cX4_level 17 = .ok (.aload_n 0, 1) := by decide +kernel
theorem dX4_level_18 : decode cX4_level 18 = .ok (.getfield 68, 3) := by decide +kernel
theorem dX4_level_21 : decode cX4_level 21 = .ok (.ifCond .le 5, 3) := by decide +kernel
theorem dX4_level_24 : decode cX4_level 24 = .ok (.iconst 0, 1) := by decide +kernel
theorem dX4_level_25 : decode cX4_level 25 = .ok (.ireturn, 1) := by decide +kernel
theorem dX4_level_26 : decode cX4_level 26 = .ok (.iconst 0, 1) := by decide +kernel
theorem dX4_level_27 : decode cX4_level 27 = .ok (.istore_n 2, 1) := by decide +kernel
theorem dX4_level_28 : decode cX4_level 28 = .ok (.iload_n 2, 1) := by decide +kernel
theorem dX4_level_29 : decode cX4_level 29 = .ok (.aload_n 0, 1) := by decide +kernel
theorem dX4_level_30 : decode cX4_level 30 = .ok (.getfield 71, 3) := by decide +kernel
theorem dX4_level_33 : decode cX4_level 33 = .ok (.if_icmp .ge 16, 3) := by decide +kernel
theorem dX4_level_36 : decode cX4_level 36 = .ok (.aload_n 0, 1) := by decide +kernel
theorem dX4_level_37 : decode cX4_level 37 = .ok (.getfield 55, 3) := by decide +kernel
theorem dX4_level_40 : decode cX4_level 40 = .ok (.iload_n 2, 1) := by decide +kernel
theorem dX4_level_41 : decode cX4_level 41 = .ok (.iconst 0, 1) := by decide +kernel
theorem dX4_level_42 : decode cX4_level 42 = .ok (.iastore, 1) := by decide +kernel
theorem dX4_level_43 : decode cX4_level 43 = .ok (.iinc 2 1, 3) := by decide +kernel
theorem dX4_level_46 : decode cX4_level 46 = .ok (.goto (-18), 3) := by decide +kernel
theorem dX4_level_49 : decode cX4_level 49 = .ok (.iconst 0, 1) := by decide +kernel
theorem dX4_level_50 : decode cX4_level 50 = .ok (.istore_n 2, 1) := by decide +kernel
theorem dX4_level_51 : decode cX4_level 51 = .ok (.iload_n 2, 1) := by decide +kernel
theorem dX4_level_52 : decode cX4_level 52 = .ok (.bipush 20, 2) := by decide +kernel
theorem dX4_level_54 : decode cX4_level 54 = .ok (.if_icmp .ge 97, 3) := by decide +kernel
theorem dX4_level_57 : decode cX4_level 57 = .ok (.iconst 0, 1) := by decide +kernel
theorem dX4_level_58 : decode cX4_level 58 = .ok (.istore_n 3, 1) := by decide +kernel
theorem dX4_level_59 : decode cX4_level 59 = .ok (.iload_n 3, 1) := by decide +kernel
theorem dX4_level_60 : decode cX4_level 60 = .ok (.aload_n 0, 1) := by decide +kernel
theorem dX4_level_61 : decode cX4_level 61 = .ok (.getfield 71, 3) := by decide +kernel
theorem dX4_level_64 : decode cX4_level 64 = .ok (.if_icmp .ge 81, 3) := by decide +kernel
theorem dX4_level_67 : decode cX4_level 67 = .ok (.iconst 0, 1) := by decide +kernel
theorem dX4_level_68 : decode cX4_level 68 = .ok (.istore 4, 2) := by decide +kernel
theorem dX4_level_70 : decode cX4_level 70 = .ok (.iload 4, 2) := by decide +kernel
theorem dX4_level_72 : decode cX4_level 72 = .ok (.aload_n 0, 1) := by decide +kernel
theorem dX4_level_73 : decode cX4_level 73 = .ok (.getfield 71, 3) := by decide +kernel
theorem dX4_level_76 : decode cX4_level 76 = .ok (.if_icmp .ge 63, 3) := by decide +kernel
theorem dX4_level_79 : decode cX4_level 79 = .ok (.aload_n 0, 1) := by decide +kernel
theorem dX4_level_80 : decode cX4_level 80 = .ok (.getfield 55, 3) := by decide +kernel
theorem dX4_level_83 : decode cX4_level 83 = .ok (.iload_n 3, 1) := by decide +kernel
theorem dX4_level_84 : decode cX4_level 84 = .ok (.aload_n 0, 1) := by decide +kernel
theorem dX4_level_85 : decode cX4_level 85 = .ok (.getfield 19, 3) := by decide +kernel
theorem dX4_level_88 : decode cX4_level 88 = .ok (.iload_n 3, 1) := by decide +kernel
theorem dX4_level_89 : decode cX4_level 89 = .ok (.iaload, 1) := by decide +kernel
theorem dX4_level_90 : decode cX4_level 90 = .ok (.iload 4, 2) := by decide +kernel
theorem dX4_level_92 : decode cX4_level 92 = .ok (.invokestatic 84, 3) := by decide +kernel
theorem dX4_level_95 : decode cX4_level 95 = .ok (.ifCond .eq 31, 3) := by decide +kernel
theorem dX4_level_98 : decode cX4_level 98 = .ok (.aload_n 0, 1) := by decide +kernel
theorem dX4_level_99 : decode cX4_level 99 = .ok (.getfield 55, 3) := by decide +kernel
theorem dX4_level_102 : decode cX4_level 102 = .ok (.iload 4, 2) := by decide +kernel
theorem dX4_level_104 : decode cX4_level 104 = .ok (.iaload, 1) := by decide +kernel
theorem dX4_level_105 : decode cX4_level 105 = .ok (.aload_n 0, 1) := by decide +kernel
theorem dX4_level_106 : decode cX4_level 106 = .ok (.getfield 55, 3) := by decide +kernel
theorem dX4_level_109 : decode cX4_level 109 = .ok (.iload_n 3, 1) := by decide +kernel
theorem dX4_level_110 : decode cX4_level 110 = .ok (.iaload, 1) := by decide +kernel
theorem dX4_level_111 : decode cX4_level 111 = .ok (.if_icmp .lt 15, 3) := by decide +kernel
theorem dX4_level_114 : decode cX4_level 114 = .ok (.aload_n 0, 1) := by decide +kernel
theorem dX4_level_115 : decode cX4_level 115 = .ok (.getfield 55, 3) := by decide +kernel
theorem dX4_level_118 : decode cX4_level 118 = .ok (.iload 4, 2) := by decide +kernel
theorem dX4_level_120 : decode cX4_level 120 = .ok (.iaload, 1) := by decide +kernel
theorem dX4_level_121 : decode cX4_level 121 = .ok (.iconst 1, 1) := by decide +kernel
theorem dX4_level_122 : decode cX4_level 122 = .ok (.iadd, 1) := by decide +kernel
theorem dX4_level_123 : decode cX4_level 123 = .ok (.goto 9, 3) := by decide +kernel
theorem dX4_level_126 : decode cX4_level 126 = .ok (.aload_n 0, 1) := by decide +kernel
theorem dX4_level_127 : decode cX4_level 127 = .ok (.getfield 55, 3) := by decide +kernel
theorem dX4_level_130 : decode cX4_level 130 = .ok (.iload_n 3, 1) := by decide +kernel
theorem dX4_level_131 : decode cX4_level 131 = .ok (.iaload, 1) := by decide +kernel
theorem dX4_level_132 : decode cX4_level 132 = .ok (.iastore, 1) := by decide +kernel
theorem dX4_level_133 : decode cX4_level 133 = .ok (.iinc 4 1, 3) := by decide +kernel
theorem dX4_level_136 : decode cX4_level 136 = .ok (.goto (-66), 3) := by decide +kernel
theorem dX4_level_139 : decode cX4_level 139 = .ok (.iinc 3 1, 3) := by decide +kernel
theorem dX4_level_142 : decode cX4_level 142 = .ok (.goto (-83), 3) := by decide +kernel
theorem dX4_level_145 : decode cX4_level 145 = .ok (.iinc 2 1, 3) := by decide +kernel
theorem dX4_level_148 : decode cX4_level 148 = .ok (.goto (-97), 3) := by decide +kernel
theorem dX4_level_151 : decode cX4_level 151 = .ok (.aload_n 0, 1) := by decide +kernel
theorem dX4_level_152 : decode cX4_level 152 = .ok (.getfield 55, 3) := by decide +kernel
theorem dX4_level_155 : decode cX4_level 155 = .ok (.iload_n 1, 1) := by decide +kernel
theorem dX4_level_156 : decode cX4_level 156 = .ok (.iaload, 1) := by decide +kernel
theorem dX4_level_157 : decode cX4_level 157 = .ok (.ireturn, 1) := by decide +kernel
theorem dX4_courses_0 : decode cX4_courses 0 = .ok (.aload_n 0, 1) := by decide +kernel
theorem dX4_courses_1 : decode cX4_courses 1 = .ok (.iconst 0, 1) := by decide +kernel
theorem dX4_courses_2 : decode cX4_courses 2 = .ok (.putfield 68, 3) := by decide +kernel
theorem dX4_courses_5 : decode cX4_courses 5 = .ok (.aload_n 0, 1) := by decide +kernel
theorem dX4_courses_6 : decode cX4_courses 6 = .ok (.getfield 71, 3) := by decide +kernel
theorem dX4_courses_9 : decode cX4_courses 9 = .ok (.ireturn, 1) := by decide +kernel
theorem dX4_enrolled_0 : decode cX4_enrolled 0 = .ok (.aload_n 0, 1) := by decide +kernel
theorem dX4_enrolled_1 : decode cX4_enrolled 1 = .ok (.aload_n 0, 1) := by decide +kernel
theorem dX4_enrolled_2 : decode cX4_enrolled 2 = .ok (.iload_n 1, 1) := by decide +kernel
theorem dX4_enrolled_3 : decode cX4_enrolled 3 = .ok (.invokevirtual 81, 3) := by decide +kernel
theorem dX4_enrolled_6 : decode cX4_enrolled 6 = .ok (.ifCond .eq 7, 3) := by decide +kernel
theorem dX4_enrolled_9 : decode cX4_enrolled 9 = .ok (.iconst 0, 1) := by decide +kernel
theorem dX4_enrolled_10 : decode cX4_enrolled 10 = .ok (.goto 4, 3) := by decide +kernel
theorem dX4_enrolled_13 : decode cX4_enrolled 13 = .ok (.iconst 1, 1) := by decide +kernel
theorem dX4_enrolled_14 : decode cX4_enrolled 14 = .ok (.putfield 68, 3) := by decide +kernel
theorem dX4_enrolled_17 : decode cX4_enrolled 17 = .ok (.aload_n 0, 1) := by decide +kernel
theorem dX4_enrolled_18 : decode cX4_enrolled 18 = .ok (.getfield 68, 3) := by decide +kernel
theorem dX4_enrolled_21 : decode cX4_enrolled 21 = .ok (.ifCond .ne 11, 3) := by decide +kernel
theorem dX4_enrolled_24 : decode cX4_enrolled 24 = .ok (.aload_n 0, 1) := by decide +kernel
theorem dX4_enrolled_25 : decode cX4_enrolled 25 = .ok (.iload_n 1, 1) := by decide +kernel
theorem dX4_enrolled_26 : decode cX4_enrolled 26 = .ok (.invokevirtual 95, 3) := by decide +kernel
theorem dX4_enrolled_29 : decode cX4_enrolled 29 = .ok (.goto 4, 3) := by decide +kernel
theorem dX4_enrolled_32 : decode cX4_enrolled 32 = .ok (.iconst 0, 1) := by decide +kernel
theorem dX4_enrolled_33 : decode cX4_enrolled 33 = .ok (.ireturn, 1) := by decide +kernel
theorem dX4_freeSeats_0 : decode cX4_freeSeats 0 = .ok (.aload_n 0, 1) := by decide +kernel
theorem dX4_freeSeats_1 : decode cX4_freeSeats 1 = .ok (.aload_n 0, 1) := by decide +kernel
theorem dX4_freeSeats_2 : decode cX4_freeSeats 2 = .ok (.iload_n 1, 1) := by decide +kernel
theorem dX4_freeSeats_3 : decode cX4_freeSeats 3 = .ok (.invokevirtual 81, 3) := by decide +kernel
theorem dX4_freeSeats_6 : decode cX4_freeSeats 6 = .ok (.ifCond .eq 7, 3) := by decide +kernel
theorem dX4_freeSeats_9 : decode cX4_freeSeats 9 = .ok (.iconst 0, 1) := by decide +kernel
theorem dX4_freeSeats_10 : decode cX4_freeSeats 10 = .ok (.goto 4, 3) := by decide +kernel
theorem dX4_freeSeats_13 : decode cX4_freeSeats 13 = .ok (.iconst 1, 1) := by decide +kernel
theorem dX4_freeSeats_14 : decode cX4_freeSeats 14 = .ok (.putfield 68, 3) := by decide +kernel
theorem dX4_freeSeats_17 : decode cX4_freeSeats 17 = .ok (.aload_n 0, 1) := by decide +kernel
theorem dX4_freeSeats_18 : decode cX4_freeSeats 18 = .ok (.getfield 68, 3) := by decide +kernel
theorem dX4_freeSeats_21 : decode cX4_freeSeats 21 = .ok (.ifCond .ne 11, 3) := by decide +kernel
theorem dX4_freeSeats_24 : decode cX4_freeSeats 24 = .ok (.aload_n 0, 1) := by decide +kernel
theorem dX4_freeSeats_25 : decode cX4_freeSeats 25 = .ok (.iload_n 1, 1) := by decide +kernel
theorem dX4_freeSeats_26 : decode cX4_freeSeats 26 = .ok (.invokevirtual 115, 3) := by decide +kernel
theorem dX4_freeSeats_29 : decode cX4_freeSeats 29 = .ok (.goto 4, 3) := by decide +kernel
theorem dX4_freeSeats_32 : decode cX4_freeSeats 32 = .ok (.iconst 0, 1) := by decide +kernel
theorem dX4_freeSeats_33 : decode cX4_freeSeats 33 = .ok (.ireturn, 1) := by decide +kernel
theorem dX4_addStudent_0 : decode cX4_addStudent 0 = .ok (.aload_n 0, 1) := by decide +kernel
theorem dX4_addStudent_1 : decode cX4_addStudent 1 = .ok (.iload_n 1, 1) := by decide +kernel
theorem dX4_addStudent_2 : decode cX4_addStudent 2 = .ok (.ifCond .lt 19, 3) := by decide +kernel
theorem dX4_addStudent_5 : decode cX4_addStudent 5 = .ok (.iload_n 1, 1) := by decide +kernel
theorem dX4_addStudent_6 : decode cX4_addStudent 6 = .ok (.iconst 3, 1) := by decide +kernel
theorem dX4_addStudent_7 : decode cX4_addStudent 7 = .ok (.if_icmp .gt 14, 3) := by decide +kernel
theorem dX4_addStudent_10 : decode cX4_addStudent 10 = .ok (.iload_n 2, 1) := by decide +kernel
theorem dX4_addStudent_11 : decode cX4_addStudent 11 = .ok (.iconst 1, 1) := by decide +kernel
theorem dX4_addStudent_12 : decode cX4_addStudent 12 = .ok (.if_icmp .lt 9, 3) := by decide +kernel
theorem dX4_addStudent_15 : decode cX4_addStudent 15 = .ok (.iload_n 2, 1) := by decide +kernel
theorem dX4_addStudent_16 : decode cX4_addStudent 16 = .ok (.bipush 40, 2) := by decide +kernel
theorem dX4_addStudent_18 : decode cX4_addStudent 18 = .ok (.if_icmp .le 7, 3) := by decide +kernel
theorem dX4_addStudent_21 : decode cX4_addStudent 21 = .ok (.iconst 1, 1) := by decide +kernel
theorem dX4_addStudent_22 : decode cX4_addStudent 22 = .ok (.goto 17, 3) := by decide +kernel
theorem dX4_addStudent_25 : decode cX4_addStudent 25 = .ok (.aload_n 0, 1) := by decide +kernel
theorem dX4_addStudent_26 : decode cX4_addStudent 26 = .ok (.getfield 74, 3) := by decide +kernel
theorem dX4_addStudent_29 : decode cX4_addStudent 29 = .ok (.bipush 16, 2) := by decide +kernel
theorem dX4_addStudent_31 : decode cX4_addStudent 31 = .ok (.if_icmp .ne 7, 3) := by decide +kernel
theorem dX4_addStudent_34 : decode cX4_addStudent 34 = .ok (.iconst 2, 1) := by decide +kernel
theorem dX4_addStudent_35 : decode cX4_addStudent 35 = .ok (.goto 4, 3) := by decide +kernel
theorem dX4_addStudent_38 : decode cX4_addStudent 38 = .ok (.iconst 0, 1) := by decide +kernel
theorem dX4_addStudent_39 : decode cX4_addStudent 39 = .ok (.putfield 68, 3) := by decide +kernel
theorem dX4_addStudent_42 : decode cX4_addStudent 42 = .ok (.aload_n 0, 1) := by decide +kernel
theorem dX4_addStudent_43 : decode cX4_addStudent 43 = .ok (.getfield 68, 3) := by decide +kernel
theorem dX4_addStudent_46 : decode cX4_addStudent 46 = .ok (.ifCond .le 5, 3) := by decide +kernel
theorem dX4_addStudent_49 : decode cX4_addStudent 49 = .ok (.iconst 0, 1) := by decide +kernel
theorem dX4_addStudent_50 : decode cX4_addStudent 50 = .ok (.ireturn, 1) := by decide +kernel
theorem dX4_addStudent_51 : decode cX4_addStudent 51 = .ok (.aload_n 0, 1) := by decide +kernel
theorem dX4_addStudent_52 : decode cX4_addStudent 52 = .ok (.getfield 74, 3) := by decide +kernel
theorem dX4_addStudent_55 : decode cX4_addStudent 55 = .ok (.istore_n 3, 1) := by decide +kernel
theorem dX4_addStudent_56 : decode cX4_addStudent 56 = .ok (.aload_n 0, 1) := by decide +kernel
theorem dX4_addStudent_57 : decode cX4_addStudent 57 = .ok (.getfield 22, 3) := by decide +kernel
theorem dX4_addStudent_60 : decode cX4_addStudent 60 = .ok (.iload_n 3, 1) := by decide +kernel
theorem dX4_addStudent_61 : decode cX4_addStudent 61 = .ok (.iload_n 1, 1) := by decide +kernel
theorem dX4_addStudent_62 : decode cX4_addStudent 62 = .ok (.iastore, 1) := by decide +kernel
theorem dX4_addStudent_63 : decode cX4_addStudent 63 = .ok (.aload_n 0, 1) := by decide +kernel
theorem dX4_addStudent_64 : decode cX4_addStudent 64 = .ok (.getfield 25, 3) := by decide +kernel
theorem dX4_addStudent_67 : decode cX4_addStudent 67 = .ok (.iload_n 3, 1) := by decide +kernel
theorem dX4_addStudent_68 : decode cX4_addStudent 68 = .ok (.iload_n 2, 1) := by decide +kernel
theorem dX4_addStudent_69 : decode cX4_addStudent 69 = .ok (.iastore, 1) := by decide +kernel
theorem dX4_addStudent_70 : decode cX4_addStudent 70 = .ok (.aload_n 0, 1) := by decide +kernel
theorem dX4_addStudent_71 : decode cX4_addStudent 71 = .ok (.getfield 28, 3) := by decide +kernel
theorem dX4_addStudent_74 : decode cX4_addStudent 74 = .ok (.iload_n 3, 1) := by decide +kernel
theorem dX4_addStudent_75 : decode cX4_addStudent 75 = .ok (.iconst 0, 1) := by decide +kernel
theorem dX4_addStudent_76 : decode cX4_addStudent 76 = .ok (.iastore, 1) := by decide +kernel
theorem dX4_addStudent_77 : decode cX4_addStudent 77 = .ok (.aload_n 0, 1) := by decide +kernel
theorem dX4_addStudent_78 : decode cX4_addStudent 78 = .ok (.getfield 31, 3) := by decide +kernel
theorem dX4_addStudent_81 : decode cX4_addStudent 81 = .ok (.iload_n 3, 1) := by decide +kernel
theorem dX4_addStudent_82 : decode cX4_addStudent 82 = .ok (.iconst 0, 1) := by decide +kernel
theorem dX4_addStudent_83 : decode cX4_addStudent 83 = .ok (.iastore, 1) := by decide +kernel
theorem dX4_addStudent_84 : decode cX4_addStudent 84 = .ok (.aload_n 0, 1) := by decide +kernel
theorem dX4_addStudent_85 : decode cX4_addStudent 85 = .ok (.getfield 34, 3) := by decide +kernel
theorem dX4_addStudent_88 : decode cX4_addStudent 88 = .ok (.iload_n 3, 1) := by decide +kernel
theorem dX4_addStudent_89 : decode cX4_addStudent 89 = .ok (.iconst 0, 1) := by decide +kernel
theorem dX4_addStudent_90 : decode cX4_addStudent 90 = .ok (.iastore, 1) := by decide +kernel
theorem dX4_addStudent_91 : decode cX4_addStudent 91 = .ok (.aload_n 0, 1) := by decide +kernel
theorem dX4_addStudent_92 : decode cX4_addStudent 92 = .ok (.getfield 40, 3) := by decide +kernel
theorem dX4_addStudent_95 : decode cX4_addStudent 95 = .ok (.iload_n 3, 1) := by decide +kernel
theorem dX4_addStudent_96 : decode cX4_addStudent 96 = .ok (.iconst (-1), 1) := by decide +kernel
theorem dX4_addStudent_97 : decode cX4_addStudent 97 = .ok (.iastore, 1) := by decide +kernel
theorem dX4_addStudent_98 : decode cX4_addStudent 98 = .ok (.aload_n 0, 1) := by decide +kernel
theorem dX4_addStudent_99 : decode cX4_addStudent 99 = .ok (.getfield 43, 3) := by decide +kernel
theorem dX4_addStudent_102 : decode cX4_addStudent 102 = .ok (.iload_n 3, 1) := by decide +kernel
theorem dX4_addStudent_103 : decode cX4_addStudent 103 = .ok (.iconst (-1), 1) := by decide +kernel
theorem dX4_addStudent_104 : decode cX4_addStudent 104 = .ok (.iastore, 1) := by decide +kernel
theorem dX4_addStudent_105 : decode cX4_addStudent 105 = .ok (.iconst 0, 1) := by decide +kernel
theorem dX4_addStudent_106 : decode cX4_addStudent 106 = .ok (.istore 4, 2) := by decide +kernel
theorem dX4_addStudent_108 : decode cX4_addStudent 108 = .ok (.iload 4, 2) := by decide +kernel
theorem dX4_addStudent_110 : decode cX4_addStudent 110 = .ok (.bipush 20, 2) := by decide +kernel
theorem dX4_addStudent_112 : decode cX4_addStudent 112 = .ok (.if_icmp .ge 22, 3) := by decide +kernel
theorem dX4_addStudent_115 : decode cX4_addStudent 115 = .ok (.aload_n 0, 1) := by decide +kernel
theorem dX4_addStudent_116 : decode cX4_addStudent 116 = .ok (.getfield 52, 3) := by decide +kernel
theorem dX4_addStudent_119 : decode cX4_addStudent 119 = .ok (.bipush 16, 2) := by decide +kernel
theorem dX4_addStudent_121 : decode cX4_addStudent 121 = .ok (.iload 4, 2) := by decide +kernel
theorem dX4_addStudent_123 : decode cX4_addStudent 123 = .ok (.imul, 1) := by decide +kernel
theorem dX4_addStudent_124 : decode cX4_addStudent 124 = .ok (.iload_n 3, 1) := by decide +kernel
theorem dX4_addStudent_125 : decode cX4_addStudent 125 = .ok (.iadd, 1) := by decide +kernel
theorem dX4_addStudent_126 : decode cX4_addStudent 126 = .ok (.iconst (-1), 1) := by decide +kernel
theorem dX4_addStudent_127 : decode cX4_addStudent 127 = .ok (.iastore, 1) := by decide +kernel
theorem dX4_addStudent_128 : decode cX4_addStudent 128 = .ok (.iinc 4 1, 3) := by decide +kernel
theorem dX4_addStudent_131 : decode cX4_addStudent 131 = .ok (.goto (-23), 3) := by decide +kernel
theorem dX4_addStudent_134 : decode cX4_addStudent 134 = .ok (.aload_n 0, 1) := by decide +kernel
theorem dX4_addStudent_135 : decode cX4_addStudent 135 = .ok (.dup, 1) := by decide +kernel
theorem dX4_addStudent_136 : decode cX4_addStudent 136 = .ok (.getfield 74, 3) := by decide +kernel
theorem dX4_addStudent_139 : decode cX4_addStudent 139 = .ok (.iconst 1, 1) := by decide +kernel
theorem dX4_addStudent_140 : decode cX4_addStudent 140 = .ok (.iadd, 1) := by decide +kernel
theorem dX4_addStudent_141 : decode cX4_addStudent 141 = .ok (.putfield 74, 3) := by decide +kernel
theorem dX4_addStudent_144 : decode cX4_addStudent 144 = .ok (.iload_n 3, 1) := by decide +kernel
theorem dX4_addStudent_145 : decode cX4_addStudent 145 = .ok (.ireturn, 1) := by decide +kernel
theorem dX4_pass_0 : decode cX4_pass 0 = .ok (.aload_n 0, 1) := by decide +kernel
theorem dX4_pass_1 : decode cX4_pass 1 = .ok (.iload_n 1, 1) := by decide +kernel
theorem dX4_pass_2 : decode cX4_pass 2 = .ok (.iload_n 2, 1) := by decide +kernel
theorem dX4_pass_3 : decode cX4_pass 3 = .ok (.invokevirtual 129, 3) := by decide +kernel
theorem dX4_pass_6 : decode cX4_pass 6 = .ok (.ifCond .ne 5, 3) := by decide +kernel
theorem dX4_pass_9 : decode cX4_pass 9 = .ok (.iconst 0, 1) := by decide +kernel
theorem dX4_pass_10 : decode cX4_pass 10 = .ok (.ireturn, 1) := by decide +kernel
theorem dX4_pass_11 : decode cX4_pass 11 = .ok (.aload_n 0, 1) := by decide +kernel
theorem dX4_pass_12 : decode cX4_pass 12 = .ok (.getfield 28, 3) := by decide +kernel
theorem dX4_pass_15 : decode cX4_pass 15 = .ok (.iload_n 1, 1) := by decide +kernel
theorem dX4_pass_16 : decode cX4_pass 16 = .ok (.iaload, 1) := by decide +kernel
theorem dX4_pass_17 : decode cX4_pass 17 = .ok (.iload_n 2, 1) := by decide +kernel
theorem dX4_pass_18 : decode cX4_pass 18 = .ok (.invokestatic 84, 3) := by decide +kernel
theorem dX4_pass_21 : decode cX4_pass 21 = .ok (.ifCond .ne 16, 3) := by decide +kernel
theorem dX4_pass_24 : decode cX4_pass 24 = .ok (.aload_n 0, 1) := by decide +kernel
theorem dX4_pass_25 : decode cX4_pass 25 = .ok (.getfield 31, 3) := by decide +kernel
theorem dX4_pass_28 : decode cX4_pass 28 = .ok (.iload_n 1, 1) := by decide +kernel
theorem dX4_pass_29 : decode cX4_pass 29 = .ok (.iaload, 1) := by decide +kernel
theorem dX4_pass_30 : decode cX4_pass 30 = .ok (.iload_n 2, 1) := by decide +kernel
theorem dX4_pass_31 : decode cX4_pass 31 = .ok (.invokestatic 84, 3) := by decide +kernel
theorem dX4_pass_34 : decode cX4_pass 34 = .ok (.ifCond .eq 10, 3) := by decide +kernel
theorem dX4_pass_37 : decode cX4_pass 37 = .ok (.aload_n 0, 1) := by decide +kernel
theorem dX4_pass_38 : decode cX4_pass 38 = .ok (.iconst 2, 1) := by decide +kernel
theorem dX4_pass_39 : decode cX4_pass 39 = .ok (.putfield 68, 3) := by decide +kernel
theorem dX4_pass_42 : decode cX4_pass 42 = .ok (.iconst 0, 1) := by decide +kernel
theorem dX4_pass_43 : decode cX4_pass 43 = .ok (.ireturn, 1) := by decide +kernel
theorem dX4_pass_44 : decode cX4_pass 44 = .ok (.aload_n 0, 1) := by decide +kernel
theorem dX4_pass_45 : decode cX4_pass 45 = .ok (.getfield 28, 3) := by decide +kernel
theorem dX4_pass_48 : decode cX4_pass 48 = .ok (.iload_n 1, 1) := by decide +kernel
theorem dX4_pass_49 : decode cX4_pass 49 = .ok (.dup2, 1) := by decide +kernel
theorem dX4_pass_50 : decode cX4_pass 50 = .ok (.iaload, 1) := by decide +kernel
theorem dX4_pass_51 : decode cX4_pass 51 = .ok (.iconst 1, 1) := by decide +kernel
theorem dX4_pass_52 : decode cX4_pass 52 = .ok (.iload_n 2, 1) := by decide +kernel
theorem dX4_pass_53 : decode cX4_pass 53 = .ok (.ishl, 1) := by decide +kernel
theorem dX4_pass_54 : decode cX4_pass 54 = .ok (.ior, 1) := by decide +kernel
theorem dX4_pass_55 : decode cX4_pass 55 = .ok (.iastore, 1) := by decide +kernel
theorem dX4_pass_56 : decode cX4_pass 56 = .ok (.aload_n 0, 1) := by decide +kernel
theorem dX4_pass_57 : decode cX4_pass 57 = .ok (.iload_n 1, 1) := by decide +kernel
theorem dX4_pass_58 : decode cX4_pass 58 = .ok (.iload_n 2, 1) := by decide +kernel
theorem dX4_pass_59 : decode cX4_pass 59 = .ok (.invokevirtual 108, 3) := by decide +kernel
theorem dX4_pass_62 : decode cX4_pass 62 = .ok (.aload_n 0, 1) := by decide +kernel
theorem dX4_pass_63 : decode cX4_pass 63 = .ok (.iload_n 1, 1) := by decide +kernel
theorem dX4_pass_64 : decode cX4_pass 64 = .ok (.iload_n 2, 1) := by decide +kernel
theorem dX4_pass_65 : decode cX4_pass 65 = .ok (.invokevirtual 112, 3) := by decide +kernel
theorem dX4_pass_68 : decode cX4_pass 68 = .ok (.aload_n 0, 1) := by decide +kernel
theorem dX4_pass_69 : decode cX4_pass 69 = .ok (.invokevirtual 123, 3) := by decide +kernel
theorem dX4_pass_72 : decode cX4_pass 72 = .ok (.aload_n 0, 1) := by decide +kernel
theorem dX4_pass_73 : decode cX4_pass 73 = .ok (.getfield 28, 3) := by decide +kernel
theorem dX4_pass_76 : decode cX4_pass 76 = .ok (.iload_n 1, 1) := by decide +kernel
theorem dX4_pass_77 : decode cX4_pass 77 = .ok (.iaload, 1) := by decide +kernel
theorem dX4_pass_78 : decode cX4_pass 78 = .ok (.invokestatic 126, 3) := by decide +kernel
theorem dX4_pass_81 : decode cX4_pass 81 = .ok (.ireturn, 1) := by decide +kernel
theorem dX4_students_0 : decode cX4_students 0 = .ok (.aload_n 0, 1) := by decide +kernel
theorem dX4_students_1 : decode cX4_students 1 = .ok (.iconst 0, 1) := by decide +kernel
theorem dX4_students_2 : decode cX4_students 2 = .ok (.putfield 68, 3) := by decide +kernel
theorem dX4_students_5 : decode cX4_students 5 = .ok (.aload_n 0, 1) := by decide +kernel
theorem dX4_students_6 : decode cX4_students 6 = .ok (.getfield 74, 3) := by decide +kernel
theorem dX4_students_9 : decode cX4_students 9 = .ok (.ireturn, 1) := by decide +kernel
theorem dX4_hasPassed_0 : decode cX4_hasPassed 0 = .ok (.aload_n 0, 1) := by decide +kernel
theorem dX4_hasPassed_1 : decode cX4_hasPassed 1 = .ok (.iload_n 1, 1) := by decide +kernel
theorem dX4_hasPassed_2 : decode cX4_hasPassed 2 = .ok (.iload_n 2, 1) := by decide +kernel
theorem dX4_hasPassed_3 : decode cX4_hasPassed 3 = .ok (.invokevirtual 129, 3) := by decide +kernel
theorem dX4_hasPassed_6 : decode cX4_hasPassed 6 = .ok (.ifCond .eq 20, 3) := by decide +kernel
theorem dX4_hasPassed_9 : decode cX4_hasPassed 9 = .ok (.aload_n 0, 1) := by decide +kernel
theorem dX4_hasPassed_10 : decode cX4_hasPassed 10 = .ok (.getfield 28, 3) := by decide +kernel
theorem dX4_hasPassed_13 : decode cX4_hasPassed 13 = .ok (.iload_n 1, 1) := by decide +kernel
theorem dX4_hasPassed_14 : decode cX4_hasPassed 14 = .ok (.iaload, 1) := by decide +kernel
theorem dX4_hasPassed_15 : decode cX4_hasPassed 15 = .ok (.iload_n 2, 1) := by decide +kernel
theorem dX4_hasPassed_16 : decode cX4_hasPassed 16 = .ok (.invokestatic 84, 3) := by decide +kernel
theorem dX4_hasPassed_19 : decode cX4_hasPassed 19 = .ok (.ifCond .eq 7, 3) := by decide +kernel
theorem dX4_hasPassed_22 : decode cX4_hasPassed 22 = .ok (.iconst 1, 1) := by decide +kernel
theorem dX4_hasPassed_23 : decode cX4_hasPassed 23 = .ok (.goto 4, 3) := by decide +kernel
theorem dX4_hasPassed_26 : decode cX4_hasPassed 26 = .ok (.iconst 0, 1) := by decide +kernel
theorem dX4_hasPassed_27 : decode cX4_hasPassed 27 = .ok (.ireturn, 1) := by decide +kernel
theorem dX4_isEnrolled_0 : decode cX4_isEnrolled 0 = .ok (.aload_n 0, 1) := by decide +kernel
theorem dX4_isEnrolled_1 : decode cX4_isEnrolled 1 = .ok (.iload_n 1, 1) := by decide +kernel
theorem dX4_isEnrolled_2 : decode cX4_isEnrolled 2 = .ok (.iload_n 2, 1) := by decide +kernel
theorem dX4_isEnrolled_3 : decode cX4_isEnrolled 3 = .ok (.invokevirtual 129, 3) := by decide +kernel
theorem dX4_isEnrolled_6 : decode cX4_isEnrolled 6 = .ok (.ifCond .eq 20, 3) := by decide +kernel
theorem dX4_isEnrolled_9 : decode cX4_isEnrolled 9 = .ok (.aload_n 0, 1) := by decide +kernel
theorem dX4_isEnrolled_10 : decode cX4_isEnrolled 10 = .ok (.getfield 31, 3) := by decide +kernel
theorem dX4_isEnrolled_13 : decode cX4_isEnrolled 13 = .ok (.iload_n 1, 1) := by decide +kernel
theorem dX4_isEnrolled_14 : decode cX4_isEnrolled 14 = .ok (.iaload, 1) := by decide +kernel
theorem dX4_isEnrolled_15 : decode cX4_isEnrolled 15 = .ok (.iload_n 2, 1) := by decide +kernel
theorem dX4_isEnrolled_16 : decode cX4_isEnrolled 16 = .ok (.invokestatic 84, 3) := by decide +kernel
theorem dX4_isEnrolled_19 : decode cX4_isEnrolled 19 = .ok (.ifCond .eq 7, 3) := by decide +kernel
theorem dX4_isEnrolled_22 : decode cX4_isEnrolled 22 = .ok (.iconst 1, 1) := by decide +kernel
theorem dX4_isEnrolled_23 : decode cX4_isEnrolled 23 = .ok (.goto 4, 3) := by decide +kernel
theorem dX4_isEnrolled_26 : decode cX4_isEnrolled 26 = .ok (.iconst 0, 1) := by decide +kernel
theorem dX4_isEnrolled_27 : decode cX4_isEnrolled 27 = .ok (.ireturn, 1) := by decide +kernel
theorem dX4_credits_0 : decode cX4_credits 0 = .ok (.aload_n 0, 1) := by decide +kernel
theorem dX4_credits_1 : decode cX4_credits 1 = .ok (.aload_n 0, 1) := by decide +kernel
theorem dX4_credits_2 : decode cX4_credits 2 = .ok (.iload_n 1, 1) := by decide +kernel
theorem dX4_credits_3 : decode cX4_credits 3 = .ok (.invokevirtual 77, 3) := by decide +kernel
theorem dX4_credits_6 : decode cX4_credits 6 = .ok (.ifCond .eq 7, 3) := by decide +kernel
theorem dX4_credits_9 : decode cX4_credits 9 = .ok (.iconst 0, 1) := by decide +kernel
theorem dX4_credits_10 : decode cX4_credits 10 = .ok (.goto 4, 3) := by decide +kernel
theorem dX4_credits_13 : decode cX4_credits 13 = .ok (.iconst 1, 1) := by decide +kernel
theorem dX4_credits_14 : decode cX4_credits 14 = .ok (.putfield 68, 3) := by decide +kernel
theorem dX4_credits_17 : decode cX4_credits 17 = .ok (.aload_n 0, 1) := by decide +kernel
theorem dX4_credits_18 : decode cX4_credits 18 = .ok (.getfield 68, 3) := by decide +kernel
theorem dX4_credits_21 : decode cX4_credits 21 = .ok (.ifCond .ne 16, 3) := by decide +kernel
theorem dX4_credits_24 : decode cX4_credits 24 = .ok (.aload_n 0, 1) := by decide +kernel
theorem dX4_credits_25 : decode cX4_credits 25 = .ok (.aload_n 0, 1) := by decide +kernel
theorem dX4_credits_26 : decode cX4_credits 26 = .ok (.getfield 31, 3) := by decide +kernel
theorem dX4_credits_29 : decode cX4_credits 29 = .ok (.iload_n 1, 1) := by decide +kernel
theorem dX4_credits_30 : decode cX4_credits 30 = .ok (.iaload, 1) := by decide +kernel
theorem dX4_credits_31 : decode cX4_credits 31 = .ok (.invokevirtual 92, 3) := by decide +kernel
theorem dX4_credits_34 : decode cX4_credits 34 = .ok (.goto 4, 3) := by decide +kernel
theorem dX4_credits_37 : decode cX4_credits 37 = .ok (.iconst 0, 1) := by decide +kernel
theorem dX4_credits_38 : decode cX4_credits 38 = .ok (.ireturn, 1) := by decide +kernel
theorem dX4_missing_0 : decode cX4_missing 0 = .ok (.aload_n 0, 1) := by decide +kernel
theorem dX4_missing_1 : decode cX4_missing 1 = .ok (.iload_n 1, 1) := by decide +kernel
theorem dX4_missing_2 : decode cX4_missing 2 = .ok (.iload_n 2, 1) := by decide +kernel
theorem dX4_missing_3 : decode cX4_missing 3 = .ok (.invokevirtual 129, 3) := by decide +kernel
theorem dX4_missing_6 : decode cX4_missing 6 = .ok (.ifCond .eq 23, 3) := by decide +kernel
theorem dX4_missing_9 : decode cX4_missing 9 = .ok (.aload_n 0, 1) := by decide +kernel
theorem dX4_missing_10 : decode cX4_missing 10 = .ok (.iload_n 2, 1) := by decide +kernel
theorem dX4_missing_11 : decode cX4_missing 11 = .ok (.invokevirtual 88, 3) := by decide +kernel
theorem dX4_missing_14 : decode cX4_missing 14 = .ok (.aload_n 0, 1) := by decide +kernel
theorem dX4_missing_15 : decode cX4_missing 15 = .ok (.getfield 28, 3) := by decide +kernel
theorem dX4_missing_18 : decode cX4_missing 18 = .ok (.iload_n 1, 1) := by decide +kernel
theorem dX4_missing_19 : decode cX4_missing 19 = .ok (.iaload, 1) := by decide +kernel
theorem dX4_missing_20 : decode cX4_missing 20 = .ok (.iconst (-1), 1) := by decide +kernel
theorem dX4_missing_21 : decode cX4_missing 21 = .ok (.ixor, 1) := by decide +kernel
theorem dX4_missing_22 : decode cX4_missing 22 = .ok (.iand, 1) := by decide +kernel
theorem dX4_missing_23 : decode cX4_missing 23 = .ok (.invokestatic 126, 3) := by decide +kernel
theorem dX4_missing_26 : decode cX4_missing 26 = .ok (.goto 4, 3) := by decide +kernel
theorem dX4_missing_29 : decode cX4_missing 29 = .ok (.iconst 0, 1) := by decide +kernel
theorem dX4_missing_30 : decode cX4_missing 30 = .ok (.ireturn, 1) := by decide +kernel
theorem dX4_obstacle_0 : decode cX4_obstacle 0 = .ok (.aload_n 0, 1) := by decide +kernel
theorem dX4_obstacle_1 : decode cX4_obstacle 1 = .ok (.iload_n 1, 1) := by decide +kernel
theorem dX4_obstacle_2 : decode cX4_obstacle 2 = .ok (.iload_n 2, 1) := by decide +kernel
theorem dX4_obstacle_3 : decode cX4_obstacle 3 = .ok (.invokevirtual 129, 3) := by decide +kernel
theorem dX4_obstacle_6 : decode cX4_obstacle 6 = .ok (.ifCond .eq 18, 3) := by decide +kernel
theorem dX4_obstacle_9 : decode cX4_obstacle 9 = .ok (.aload_n 0, 1) := by decide +kernel
theorem dX4_obstacle_10 : decode cX4_obstacle 10 = .ok (.iload_n 1, 1) := by decide +kernel
theorem dX4_obstacle_11 : decode cX4_obstacle 11 = .ok (.iload_n 2, 1) := by decide +kernel
theorem dX4_obstacle_12 : decode cX4_obstacle 12 = .ok (.aload_n 0, 1) := by decide +kernel
theorem dX4_obstacle_13 : decode cX4_obstacle 13 = .ok (.getfield 31, 3) := by decide +kernel
theorem dX4_obstacle_16 : decode cX4_obstacle 16 = .ok (.iload_n 1, 1) := by decide +kernel
theorem dX4_obstacle_17 : decode cX4_obstacle 17 = .ok (.iaload, 1) := by decide +kernel
theorem dX4_obstacle_18 : decode cX4_obstacle 18 = .ok (.invokevirtual 118, 3) := by decide +kernel
theorem dX4_obstacle_21 : decode cX4_obstacle 21 = .ok (.goto 4, 3) := by decide +kernel
theorem dX4_obstacle_24 : decode cX4_obstacle 24 = .ok (.iconst 0, 1) := by decide +kernel
theorem dX4_obstacle_25 : decode cX4_obstacle 25 = .ok (.ireturn, 1) := by decide +kernel
theorem dX4_wish_0 : decode cX4_wish 0 = .ok (.aload_n 0, 1) := by decide +kernel
theorem dX4_wish_1 : decode cX4_wish 1 = .ok (.iload_n 1, 1) := by decide +kernel
theorem dX4_wish_2 : decode cX4_wish 2 = .ok (.iload_n 2, 1) := by decide +kernel
theorem dX4_wish_3 : decode cX4_wish 3 = .ok (.invokevirtual 129, 3) := by decide +kernel
theorem dX4_wish_6 : decode cX4_wish 6 = .ok (.ifCond .ne 5, 3) := by decide +kernel
theorem dX4_wish_9 : decode cX4_wish 9 = .ok (.iconst 0, 1) := by decide +kernel
theorem dX4_wish_10 : decode cX4_wish 10 = .ok (.ireturn, 1) := by decide +kernel
theorem dX4_wish_11 : decode cX4_wish 11 = .ok (.aload_n 0, 1) := by decide +kernel
theorem dX4_wish_12 : decode cX4_wish 12 = .ok (.getfield 28, 3) := by decide +kernel
theorem dX4_wish_15 : decode cX4_wish 15 = .ok (.iload_n 1, 1) := by decide +kernel
theorem dX4_wish_16 : decode cX4_wish 16 = .ok (.iaload, 1) := by decide +kernel
theorem dX4_wish_17 : decode cX4_wish 17 = .ok (.aload_n 0, 1) := by decide +kernel
theorem dX4_wish_18 : decode cX4_wish 18 = .ok (.getfield 31, 3) := by decide +kernel
theorem dX4_wish_21 : decode cX4_wish 21 = .ok (.iload_n 1, 1) := by decide +kernel
theorem dX4_wish_22 : decode cX4_wish 22 = .ok (.iaload, 1) := by decide +kernel
theorem dX4_wish_23 : decode cX4_wish 23 = .ok (.ior, 1) := by decide +kernel
theorem dX4_wish_24 : decode cX4_wish 24 = .ok (.iload_n 2, 1) := by decide +kernel
theorem dX4_wish_25 : decode cX4_wish 25 = .ok (.invokestatic 84, 3) := by decide +kernel
theorem dX4_wish_28 : decode cX4_wish 28 = .ok (.ifCond .ne 23, 3) := by decide +kernel
theorem dX4_wish_31 : decode cX4_wish 31 = .ok (.aload_n 0, 1) := by decide +kernel
theorem dX4_wish_32 : decode cX4_wish 32 = .ok (.iload_n 1, 1) := by decide +kernel
theorem dX4_wish_33 : decode cX4_wish 33 = .ok (.iload_n 2, 1) := by decide +kernel
theorem dX4_wish_34 : decode cX4_wish 34 = .ok (.invokevirtual 105, 3) := by decide +kernel
theorem dX4_wish_37 : decode cX4_wish 37 = .ok (.ifCond .ge 14, 3) := by decide +kernel
theorem dX4_wish_40 : decode cX4_wish 40 = .ok (.aload_n 0, 1) := by decide +kernel
theorem dX4_wish_41 : decode cX4_wish 41 = .ok (.getfield 34, 3) := by decide +kernel
theorem dX4_wish_44 : decode cX4_wish 44 = .ok (.iload_n 1, 1) := by decide +kernel
theorem dX4_wish_45 : decode cX4_wish 45 = .ok (.iaload, 1) := by decide +kernel
theorem dX4_wish_46 : decode cX4_wish 46 = .ok (.bipush 6, 2) := by decide +kernel
theorem dX4_wish_48 : decode cX4_wish 48 = .ok (.if_icmp .ne 10, 3) := by decide +kernel
theorem dX4_wish_51 : decode cX4_wish 51 = .ok (.aload_n 0, 1) := by decide +kernel
theorem dX4_wish_52 : decode cX4_wish 52 = .ok (.iconst 2, 1) := by decide +kernel
theorem dX4_wish_53 : decode cX4_wish 53 = .ok (.putfield 68, 3) := by decide +kernel
theorem dX4_wish_56 : decode cX4_wish 56 = .ok (.iconst 0, 1) := by decide +kernel
theorem dX4_wish_57 : decode cX4_wish 57 = .ok (.ireturn, 1) := by decide +kernel
theorem dX4_wish_58 : decode cX4_wish 58 = .ok (.aload_n 0, 1) := by decide +kernel
theorem dX4_wish_59 : decode cX4_wish 59 = .ok (.getfield 37, 3) := by decide +kernel
theorem dX4_wish_62 : decode cX4_wish 62 = .ok (.bipush 6, 2) := by decide +kernel
theorem dX4_wish_64 : decode cX4_wish 64 = .ok (.iload_n 1, 1) := by decide +kernel
theorem dX4_wish_65 : decode cX4_wish 65 = .ok (.imul, 1) := by decide +kernel
theorem dX4_wish_66 : decode cX4_wish 66 = .ok (.aload_n 0, 1) := by decide +kernel
theorem dX4_wish_67 : decode cX4_wish 67 = .ok (.getfield 34, 3) := by decide +kernel
theorem dX4_wish_70 : decode cX4_wish 70 = .ok (.iload_n 1, 1) := by decide +kernel
theorem dX4_wish_71 : decode cX4_wish 71 = .ok (.iaload, 1) := by decide +kernel
theorem dX4_wish_72 : decode cX4_wish 72 = .ok (.iadd, 1) := by decide +kernel
theorem dX4_wish_73 : decode cX4_wish 73 = .ok (.iload_n 2, 1) := by decide +kernel
theorem dX4_wish_74 : decode cX4_wish 74 = .ok (.iastore, 1) := by decide +kernel
theorem dX4_wish_75 : decode cX4_wish 75 = .ok (.aload_n 0, 1) := by decide +kernel
theorem dX4_wish_76 : decode cX4_wish 76 = .ok (.getfield 34, 3) := by decide +kernel
theorem dX4_wish_79 : decode cX4_wish 79 = .ok (.iload_n 1, 1) := by decide +kernel
theorem dX4_wish_80 : decode cX4_wish 80 = .ok (.dup2, 1) := by decide +kernel
theorem dX4_wish_81 : decode cX4_wish 81 = .ok (.iaload, 1) := by decide +kernel
theorem dX4_wish_82 : decode cX4_wish 82 = .ok (.iconst 1, 1) := by decide +kernel
theorem dX4_wish_83 : decode cX4_wish 83 = .ok (.iadd, 1) := by decide +kernel
theorem dX4_wish_84 : decode cX4_wish 84 = .ok (.iastore, 1) := by decide +kernel
theorem dX4_wish_85 : decode cX4_wish 85 = .ok (.aload_n 0, 1) := by decide +kernel
theorem dX4_wish_86 : decode cX4_wish 86 = .ok (.getfield 34, 3) := by decide +kernel
theorem dX4_wish_89 : decode cX4_wish 89 = .ok (.iload_n 1, 1) := by decide +kernel
theorem dX4_wish_90 : decode cX4_wish 90 = .ok (.iaload, 1) := by decide +kernel
theorem dX4_wish_91 : decode cX4_wish 91 = .ok (.iconst 1, 1) := by decide +kernel
theorem dX4_wish_92 : decode cX4_wish 92 = .ok (.isub, 1) := by decide +kernel
theorem dX4_wish_93 : decode cX4_wish 93 = .ok (.ireturn, 1) := by decide +kernel
theorem dX4_dropWish_0 : decode cX4_dropWish 0 = .ok (.aload_n 0, 1) := by decide +kernel
theorem dX4_dropWish_1 : decode cX4_dropWish 1 = .ok (.iload_n 1, 1) := by decide +kernel
theorem dX4_dropWish_2 : decode cX4_dropWish 2 = .ok (.iload_n 2, 1) := by decide +kernel
theorem dX4_dropWish_3 : decode cX4_dropWish 3 = .ok (.invokevirtual 129, 3) := by decide +kernel
theorem dX4_dropWish_6 : decode cX4_dropWish 6 = .ok (.ifCond .ne 5, 3) := by decide +kernel
theorem dX4_dropWish_9 : decode cX4_dropWish 9 = .ok (.iconst 0, 1) := by decide +kernel
theorem dX4_dropWish_10 : decode cX4_dropWish 10 = .ok (.ireturn, 1) := by decide +kernel
theorem dX4_dropWish_11 : decode cX4_dropWish 11 = .ok (.aload_n 0, 1) := by decide +kernel
theorem dX4_dropWish_12 : decode cX4_dropWish 12 = .ok (.iload_n 1, 1) := by decide +kernel
theorem dX4_dropWish_13 : decode cX4_dropWish 13 = .ok (.iload_n 2, 1) := by decide +kernel
theorem dX4_dropWish_14 : decode cX4_dropWish 14 = .ok (.invokevirtual 105, 3) := by decide +kernel
theorem dX4_dropWish_17 : decode cX4_dropWish 17 = .ok (.ifCond .ge 10, 3) := by decide +kernel
theorem dX4_dropWish_20 : decode cX4_dropWish 20 = .ok (.aload_n 0, 1) := by decide +kernel
theorem dX4_dropWish_21 : decode cX4_dropWish 21 = .ok (.iconst 2, 1) := by decide +kernel
theorem dX4_dropWish_22 : decode cX4_dropWish 22 = .ok (.putfield 68, 3) := by decide +kernel
theorem dX4_dropWish_25 : decode cX4_dropWish 25 = .ok (.iconst 0, 1) := by decide +kernel
theorem dX4_dropWish_26 : decode cX4_dropWish 26 = .ok (.ireturn, 1) := by decide +kernel
theorem dX4_dropWish_27 : decode cX4_dropWish 27 = .ok (.aload_n 0, 1) := by decide +kernel
theorem dX4_dropWish_28 : decode cX4_dropWish 28 = .ok (.iload_n 1, 1) := by decide +kernel
theorem dX4_dropWish_29 : decode cX4_dropWish 29 = .ok (.iload_n 2, 1) := by decide +kernel
theorem dX4_dropWish_30 : decode cX4_dropWish 30 = .ok (.invokevirtual 108, 3) := by decide +kernel
theorem dX4_dropWish_33 : decode cX4_dropWish 33 = .ok (.aload_n 0, 1) := by decide +kernel
theorem dX4_dropWish_34 : decode cX4_dropWish 34 = .ok (.getfield 34, 3) := by decide +kernel
theorem dX4_dropWish_37 : decode cX4_dropWish 37 = .ok (.iload_n 1, 1) := by decide +kernel
theorem dX4_dropWish_38 : decode cX4_dropWish 38 = .ok (.iaload, 1) := by decide +kernel
theorem dX4_dropWish_39 : decode cX4_dropWish 39 = .ok (.ireturn, 1) := by decide +kernel
theorem dX4_wishes_0 : decode cX4_wishes 0 = .ok (.aload_n 0, 1) := by decide +kernel
theorem dX4_wishes_1 : decode cX4_wishes 1 = .ok (.aload_n 0, 1) := by decide +kernel
theorem dX4_wishes_2 : decode cX4_wishes 2 = .ok (.iload_n 1, 1) := by decide +kernel
theorem dX4_wishes_3 : decode cX4_wishes 3 = .ok (.invokevirtual 77, 3) := by decide +kernel
theorem dX4_wishes_6 : decode cX4_wishes 6 = .ok (.ifCond .eq 7, 3) := by decide +kernel
theorem dX4_wishes_9 : decode cX4_wishes 9 = .ok (.iconst 0, 1) := by decide +kernel
theorem dX4_wishes_10 : decode cX4_wishes 10 = .ok (.goto 4, 3) := by decide +kernel
theorem dX4_wishes_13 : decode cX4_wishes 13 = .ok (.iconst 1, 1) := by decide +kernel
theorem dX4_wishes_14 : decode cX4_wishes 14 = .ok (.putfield 68, 3) := by decide +kernel
theorem dX4_wishes_17 : decode cX4_wishes 17 = .ok (.aload_n 0, 1) := by decide +kernel
theorem dX4_wishes_18 : decode cX4_wishes 18 = .ok (.getfield 68, 3) := by decide +kernel
theorem dX4_wishes_21 : decode cX4_wishes 21 = .ok (.ifCond .ne 12, 3) := by decide +kernel
theorem dX4_wishes_24 : decode cX4_wishes 24 = .ok (.aload_n 0, 1) := by decide +kernel
theorem dX4_wishes_25 : decode cX4_wishes 25 = .ok (.getfield 34, 3) := by decide +kernel
theorem dX4_wishes_28 : decode cX4_wishes 28 = .ok (.iload_n 1, 1) := by decide +kernel
theorem dX4_wishes_29 : decode cX4_wishes 29 = .ok (.iaload, 1) := by decide +kernel
theorem dX4_wishes_30 : decode cX4_wishes 30 = .ok (.goto 4, 3) := by decide +kernel
theorem dX4_wishes_33 : decode cX4_wishes 33 = .ok (.iconst 0, 1) := by decide +kernel
theorem dX4_wishes_34 : decode cX4_wishes 34 = .ok (.ireturn, 1) := by decide +kernel
theorem dX4_wishAt_0 : decode cX4_wishAt 0 = .ok (.aload_n 0, 1) := by decide +kernel
theorem dX4_wishAt_1 : decode cX4_wishAt 1 = .ok (.aload_n 0, 1) := by decide +kernel
theorem dX4_wishAt_2 : decode cX4_wishAt 2 = .ok (.iload_n 1, 1) := by decide +kernel
theorem dX4_wishAt_3 : decode cX4_wishAt 3 = .ok (.invokevirtual 77, 3) := by decide +kernel
theorem dX4_wishAt_6 : decode cX4_wishAt 6 = .ok (.ifCond .eq 21, 3) := by decide +kernel
theorem dX4_wishAt_9 : decode cX4_wishAt 9 = .ok (.iload_n 2, 1) := by decide +kernel
theorem dX4_wishAt_10 : decode cX4_wishAt 10 = .ok (.ifCond .lt 17, 3) := by decide +kernel
theorem dX4_wishAt_13 : decode cX4_wishAt 13 = .ok (.iload_n 2, 1) := by decide +kernel
theorem dX4_wishAt_14 : decode cX4_wishAt 14 = .ok (.aload_n 0, 1) := by decide +kernel
theorem dX4_wishAt_15 : decode cX4_wishAt 15 = .ok (.getfield 34, 3) := by decide +kernel
theorem dX4_wishAt_18 : decode cX4_wishAt 18 = .ok (.iload_n 1, 1) := by decide +kernel
theorem dX4_wishAt_19 : decode cX4_wishAt 19 = .ok (.iaload, 1) := by decide +kernel
theorem dX4_wishAt_20 : decode cX4_wishAt 20 = .ok (.if_icmp .ge 7, 3) := by decide +kernel
theorem dX4_wishAt_23 : decode cX4_wishAt 23 = .ok (.iconst 0, 1) := by decide +kernel
theorem dX4_wishAt_24 : decode cX4_wishAt 24 = .ok (.goto 4, 3) := by decide +kernel
theorem dX4_wishAt_27 : decode cX4_wishAt 27 = .ok (.iconst 1, 1) := by decide +kernel
theorem dX4_wishAt_28 : decode cX4_wishAt 28 = .ok (.putfield 68, 3) := by decide +kernel
theorem dX4_wishAt_31 : decode cX4_wishAt 31 = .ok (.aload_n 0, 1) := by decide +kernel
theorem dX4_wishAt_32 : decode cX4_wishAt 32 = .ok (.getfield 68, 3) := by decide +kernel
theorem dX4_wishAt_35 : decode cX4_wishAt 35 = .ok (.ifCond .ne 17, 3) := by decide +kernel
theorem dX4_wishAt_38 : decode cX4_wishAt 38 = .ok (.aload_n 0, 1) := by decide +kernel
theorem dX4_wishAt_39 : decode cX4_wishAt 39 = .ok (.getfield 37, 3) := by decide +kernel
theorem dX4_wishAt_42 : decode cX4_wishAt 42 = .ok (.bipush 6, 2) := by decide +kernel
theorem dX4_wishAt_44 : decode cX4_wishAt 44 = .ok (.iload_n 1, 1) := by decide +kernel
theorem dX4_wishAt_45 : decode cX4_wishAt 45 = .ok (.imul, 1) := by decide +kernel
theorem dX4_wishAt_46 : decode cX4_wishAt 46 = .ok (.iload_n 2, 1) := by decide +kernel
theorem dX4_wishAt_47 : decode cX4_wishAt 47 = .ok (.iadd, 1) := by decide +kernel
theorem dX4_wishAt_48 : decode cX4_wishAt 48 = .ok (.iaload, 1) := by decide +kernel
theorem dX4_wishAt_49 : decode cX4_wishAt 49 = .ok (.goto 4, 3) := by decide +kernel
theorem dX4_wishAt_52 : decode cX4_wishAt 52 = .ok (.iconst 0, 1) := by decide +kernel
theorem dX4_wishAt_53 : decode cX4_wishAt 53 = .ok (.ireturn, 1) := by decide +kernel
theorem dX4_request_0 : decode cX4_request 0 = .ok (.aload_n 0, 1) := by decide +kernel
theorem dX4_request_1 : decode cX4_request 1 = .ok (.iload_n 1, 1) := by decide +kernel
theorem dX4_request_2 : decode cX4_request 2 = .ok (.iload_n 2, 1) := by decide +kernel
theorem dX4_request_3 : decode cX4_request 3 = .ok (.invokevirtual 129, 3) := by decide +kernel
theorem dX4_request_6 : decode cX4_request 6 = .ok (.ifCond .ne 5, 3) := by decide +kernel
theorem dX4_request_9 : decode cX4_request 9 = .ok (.iconst 0, 1) := by decide +kernel
theorem dX4_request_10 : decode cX4_request 10 = .ok (.ireturn, 1) := by decide +kernel
theorem dX4_request_11 : decode cX4_request 11 = .ok (.aload_n 0, 1) := by decide +kernel
theorem dX4_request_12 : decode cX4_request 12 = .ok (.iload_n 1, 1) := by decide +kernel
theorem dX4_request_13 : decode cX4_request 13 = .ok (.iload_n 2, 1) := by decide +kernel
theorem dX4_request_14 : decode cX4_request 14 = .ok (.aload_n 0, 1) := by decide +kernel
theorem dX4_request_15 : decode cX4_request 15 = .ok (.getfield 31, 3) := by decide +kernel
theorem dX4_request_18 : decode cX4_request 18 = .ok (.iload_n 1, 1) := by decide +kernel
theorem dX4_request_19 : decode cX4_request 19 = .ok (.iaload, 1) := by decide +kernel
theorem dX4_request_20 : decode cX4_request 20 = .ok (.invokevirtual 118, 3) := by decide +kernel
theorem dX4_request_23 : decode cX4_request 23 = .ok (.ifCond .ne 12, 3) := by decide +kernel
theorem dX4_request_26 : decode cX4_request 26 = .ok (.aload_n 0, 1) := by decide +kernel
theorem dX4_request_27 : decode cX4_request 27 = .ok (.iload_n 1, 1) := by decide +kernel
theorem dX4_request_28 : decode cX4_request 28 = .ok (.iload_n 2, 1) := by decide +kernel
theorem dX4_request_29 : decode cX4_request 29 = .ok (.invokevirtual 101, 3) := by decide +kernel
theorem dX4_request_32 : decode cX4_request 32 = .ok (.ifCond .lt 10, 3) := by decide +kernel
theorem dX4_request_35 : decode cX4_request 35 = .ok (.aload_n 0, 1) := by decide +kernel
theorem dX4_request_36 : decode cX4_request 36 = .ok (.iconst 2, 1) := by decide +kernel
theorem dX4_request_37 : decode cX4_request 37 = .ok (.putfield 68, 3) := by decide +kernel
theorem dX4_request_40 : decode cX4_request 40 = .ok (.iconst 0, 1) := by decide +kernel
theorem dX4_request_41 : decode cX4_request 41 = .ok (.ireturn, 1) := by decide +kernel
theorem dX4_request_42 : decode cX4_request 42 = .ok (.aload_n 0, 1) := by decide +kernel
theorem dX4_request_43 : decode cX4_request 43 = .ok (.iload_n 2, 1) := by decide +kernel
theorem dX4_request_44 : decode cX4_request 44 = .ok (.invokevirtual 115, 3) := by decide +kernel
theorem dX4_request_47 : decode cX4_request 47 = .ok (.ifCond .le 15, 3) := by decide +kernel
theorem dX4_request_50 : decode cX4_request 50 = .ok (.aload_n 0, 1) := by decide +kernel
theorem dX4_request_51 : decode cX4_request 51 = .ok (.iload_n 1, 1) := by decide +kernel
theorem dX4_request_52 : decode cX4_request 52 = .ok (.iload_n 2, 1) := by decide +kernel
theorem dX4_request_53 : decode cX4_request 53 = .ok (.invokevirtual 132, 3) := by decide +kernel
theorem dX4_request_56 : decode cX4_request 56 = .ok (.aload_n 0, 1) := by decide +kernel
theorem dX4_request_57 : decode cX4_request 57 = .ok (.invokevirtual 123, 3) := by decide +kernel
theorem dX4_request_60 : decode cX4_request 60 = .ok (.iconst 0, 1) := by decide +kernel
theorem dX4_request_61 : decode cX4_request 61 = .ok (.ireturn, 1) := by decide +kernel
theorem dX4_request_62 : decode cX4_request 62 = .ok (.aload_n 0, 1) := by decide +kernel
theorem dX4_request_63 : decode cX4_request 63 = .ok (.getfield 49, 3) := by decide +kernel
theorem dX4_request_66 : decode cX4_request 66 = .ok (.bipush 16, 2) := by decide +kernel
theorem dX4_request_68 : decode cX4_request 68 = .ok (.iload_n 2, 1) := by decide +kernel
theorem dX4_request_69 : decode cX4_request 69 = .ok (.imul, 1) := by decide +kernel
theorem dX4_request_70 : decode cX4_request 70 = .ok (.aload_n 0, 1) := by decide +kernel
theorem dX4_request_71 : decode cX4_request 71 = .ok (.getfield 46, 3) := by decide +kernel
theorem dX4_request_74 : decode cX4_request 74 = .ok (.iload_n 2, 1) := by decide +kernel
theorem dX4_request_75 : decode cX4_request 75 = .ok (.iaload, 1) := by decide +kernel
theorem dX4_request_76 : decode cX4_request 76 = .ok (.iadd, 1) := by decide +kernel
theorem dX4_request_77 : decode cX4_request 77 = .ok (.iload_n 1, 1) := by decide +kernel
theorem dX4_request_78 : decode cX4_request 78 = .ok (.iastore, 1) := by decide +kernel
theorem dX4_request_79 : decode cX4_request 79 = .ok (.aload_n 0, 1) := by decide +kernel
theorem dX4_request_80 : decode cX4_request 80 = .ok (.getfield 46, 3) := by decide +kernel
theorem dX4_request_83 : decode cX4_request 83 = .ok (.iload_n 2, 1) := by decide +kernel
theorem dX4_request_84 : decode cX4_request 84 = .ok (.dup2, 1) := by decide +kernel
theorem dX4_request_85 : decode cX4_request 85 = .ok (.iaload, 1) := by decide +kernel
theorem dX4_request_86 : decode cX4_request 86 = .ok (.iconst 1, 1) := by decide +kernel
theorem dX4_request_87 : decode cX4_request 87 = .ok (.iadd, 1) := by decide +kernel
theorem dX4_request_88 : decode cX4_request 88 = .ok (.iastore, 1) := by decide +kernel
theorem dX4_request_89 : decode cX4_request 89 = .ok (.aload_n 0, 1) := by decide +kernel
theorem dX4_request_90 : decode cX4_request 90 = .ok (.invokevirtual 123, 3) := by decide +kernel
theorem dX4_request_93 : decode cX4_request 93 = .ok (.aload_n 0, 1) := by decide +kernel
theorem dX4_request_94 : decode cX4_request 94 = .ok (.getfield 46, 3) := by decide +kernel
theorem dX4_request_97 : decode cX4_request 97 = .ok (.iload_n 2, 1) := by decide +kernel
theorem dX4_request_98 : decode cX4_request 98 = .ok (.iaload, 1) := by decide +kernel
theorem dX4_request_99 : decode cX4_request 99 = .ok (.ireturn, 1) := by decide +kernel
theorem dX4_drop_0 : decode cX4_drop 0 = .ok (.aload_n 0, 1) := by decide +kernel
theorem dX4_drop_1 : decode cX4_drop 1 = .ok (.iload_n 1, 1) := by decide +kernel
theorem dX4_drop_2 : decode cX4_drop 2 = .ok (.iload_n 2, 1) := by decide +kernel
theorem dX4_drop_3 : decode cX4_drop 3 = .ok (.invokevirtual 129, 3) := by decide +kernel
theorem dX4_drop_6 : decode cX4_drop 6 = .ok (.ifCond .ne 5, 3) := by decide +kernel
theorem dX4_drop_9 : decode cX4_drop 9 = .ok (.iconst 0, 1) := by decide +kernel
theorem dX4_drop_10 : decode cX4_drop 10 = .ok (.ireturn, 1) := by decide +kernel
theorem dX4_drop_11 : decode cX4_drop 11 = .ok (.aload_n 0, 1) := by decide +kernel
theorem dX4_drop_12 : decode cX4_drop 12 = .ok (.getfield 31, 3) := by decide +kernel
theorem dX4_drop_15 : decode cX4_drop 15 = .ok (.iload_n 1, 1) := by decide +kernel
theorem dX4_drop_16 : decode cX4_drop 16 = .ok (.iaload, 1) := by decide +kernel
theorem dX4_drop_17 : decode cX4_drop 17 = .ok (.iload_n 2, 1) := by decide +kernel
theorem dX4_drop_18 : decode cX4_drop 18 = .ok (.invokestatic 84, 3) := by decide +kernel
theorem dX4_drop_21 : decode cX4_drop 21 = .ok (.ifCond .ne 10, 3) := by decide +kernel
theorem dX4_drop_24 : decode cX4_drop 24 = .ok (.aload_n 0, 1) := by decide +kernel
theorem dX4_drop_25 : decode cX4_drop 25 = .ok (.iconst 2, 1) := by decide +kernel
theorem dX4_drop_26 : decode cX4_drop 26 = .ok (.putfield 68, 3) := by decide +kernel
theorem dX4_drop_29 : decode cX4_drop 29 = .ok (.iconst 0, 1) := by decide +kernel
theorem dX4_drop_30 : decode cX4_drop 30 = .ok (.ireturn, 1) := by decide +kernel
theorem dX4_drop_31 : decode cX4_drop 31 = .ok (.aload_n 0, 1) := by decide +kernel
theorem dX4_drop_32 : decode cX4_drop 32 = .ok (.iload_n 1, 1) := by decide +kernel
theorem dX4_drop_33 : decode cX4_drop 33 = .ok (.iload_n 2, 1) := by decide +kernel
theorem dX4_drop_34 : decode cX4_drop 34 = .ok (.invokevirtual 135, 3) := by decide +kernel
theorem dX4_drop_37 : decode cX4_drop 37 = .ok (.aload_n 0, 1) := by decide +kernel
theorem dX4_drop_38 : decode cX4_drop 38 = .ok (.invokevirtual 123, 3) := by decide +kernel
theorem dX4_drop_41 : decode cX4_drop 41 = .ok (.aload_n 0, 1) := by decide +kernel
theorem dX4_drop_42 : decode cX4_drop 42 = .ok (.aload_n 0, 1) := by decide +kernel
theorem dX4_drop_43 : decode cX4_drop 43 = .ok (.getfield 31, 3) := by decide +kernel
theorem dX4_drop_46 : decode cX4_drop 46 = .ok (.iload_n 1, 1) := by decide +kernel
theorem dX4_drop_47 : decode cX4_drop 47 = .ok (.iaload, 1) := by decide +kernel
theorem dX4_drop_48 : decode cX4_drop 48 = .ok (.invokevirtual 92, 3) := by decide +kernel
theorem dX4_drop_51 : decode cX4_drop 51 = .ok (.ireturn, 1) := by decide +kernel
theorem dX4_change_0 : decode cX4_change 0 = .ok (.aload_n 0, 1) := by decide +kernel
theorem dX4_change_1 : decode cX4_change 1 = .ok (.aload_n 0, 1) := by decide +kernel
theorem dX4_change_2 : decode cX4_change 2 = .ok (.iload_n 1, 1) := by decide +kernel
theorem dX4_change_3 : decode cX4_change 3 = .ok (.invokevirtual 77, 3) := by decide +kernel
theorem dX4_change_6 : decode cX4_change 6 = .ok (.ifCond .eq 23, 3) := by decide +kernel
theorem dX4_change_9 : decode cX4_change 9 = .ok (.aload_n 0, 1) := by decide +kernel
theorem dX4_change_10 : decode cX4_change 10 = .ok (.iload_n 2, 1) := by decide +kernel
theorem dX4_change_11 : decode cX4_change 11 = .ok (.invokevirtual 81, 3) := by decide +kernel
theorem dX4_change_14 : decode cX4_change 14 = .ok (.ifCond .eq 15, 3) := by decide +kernel
theorem dX4_change_17 : decode cX4_change 17 = .ok (.aload_n 0, 1) := by decide +kernel
theorem dX4_change_18 : decode cX4_change 18 = .ok (.iload_n 3, 1) := by decide +kernel
theorem dX4_change_19 : decode cX4_change 19 = .ok (.invokevirtual 81, 3) := by decide +kernel
theorem dX4_change_22 : decode cX4_change 22 = .ok (.ifCond .eq 7, 3) := by decide +kernel
theorem dX4_change_25 : decode cX4_change 25 = .ok (.iconst 0, 1) := by decide +kernel
theorem dX4_change_26 : decode cX4_change 26 = .ok (.goto 4, 3) := by decide +kernel
theorem dX4_change_29 : decode cX4_change 29 = .ok (.iconst 1, 1) := by decide +kernel
theorem dX4_change_30 : decode cX4_change 30 = .ok (.putfield 68, 3) := by decide +kernel
theorem dX4_change_33 : decode cX4_change 33 = .ok (.aload_n 0, 1) := by decide +kernel
theorem dX4_change_34 : decode cX4_change 34 = .ok (.getfield 68, 3) := by decide +kernel
theorem dX4_change_37 : decode cX4_change 37 = .ok (.ifCond .le 5, 3) := by decide +kernel
theorem dX4_change_40 : decode cX4_change 40 = .ok (.iconst 0, 1) := by decide +kernel
theorem dX4_change_41 : decode cX4_change 41 = .ok (.ireturn, 1) := by decide +kernel
theorem dX4_change_42 : decode cX4_change 42 = .ok (.aload_n 0, 1) := by decide +kernel
theorem dX4_change_43 : decode cX4_change 43 = .ok (.getfield 31, 3) := by decide +kernel
theorem dX4_change_46 : decode cX4_change 46 = .ok (.iload_n 1, 1) := by decide +kernel
theorem dX4_change_47 : decode cX4_change 47 = .ok (.iaload, 1) := by decide +kernel
theorem dX4_change_48 : decode cX4_change 48 = .ok (.iload_n 2, 1) := by decide +kernel
theorem dX4_change_49 : decode cX4_change 49 = .ok (.invokestatic 84, 3) := by decide +kernel
theorem dX4_change_52 : decode cX4_change 52 = .ok (.ifCond .eq 37, 3) := by decide +kernel
theorem dX4_change_55 : decode cX4_change 55 = .ok (.iload_n 2, 1) := by decide +kernel
theorem dX4_change_56 : decode cX4_change 56 = .ok (.iload_n 3, 1) := by decide +kernel
theorem dX4_change_57 : decode cX4_change 57 = .ok (.if_icmp .eq 32, 3) := by decide +kernel
theorem dX4_change_60 : decode cX4_change 60 = .ok (.aload_n 0, 1) := by decide +kernel
theorem dX4_change_61 : decode cX4_change 61 = .ok (.iload_n 1, 1) := by decide +kernel
theorem dX4_change_62 : decode cX4_change 62 = .ok (.iload_n 3, 1) := by decide +kernel
theorem dX4_change_63 : decode cX4_change 63 = .ok (.aload_n 0, 1) := by decide +kernel
theorem dX4_change_64 : decode cX4_change 64 = .ok (.getfield 31, 3) := by decide +kernel
theorem dX4_change_67 : decode cX4_change 67 = .ok (.iload_n 1, 1) := by decide +kernel
theorem dX4_change_68 : decode cX4_change 68 = .ok (.iaload, 1) := by decide +kernel
theorem dX4_change_69 : decode cX4_change 69 = .ok (.iconst 1, 1) := by decide +kernel
theorem dX4_change_70 : decode cX4_change 70 = .ok (.iload_n 2, 1) := by decide +kernel
theorem dX4_change_71 : decode cX4_change 71 = .ok (.ishl, 1) := by decide +kernel
theorem dX4_change_72 : decode cX4_change 72 = .ok (.iconst (-1), 1) := by decide +kernel
theorem dX4_change_73 : decode cX4_change 73 = .ok (.ixor, 1) := by decide +kernel
theorem dX4_change_74 : decode cX4_change 74 = .ok (.iand, 1) := by decide +kernel
theorem dX4_change_75 : decode cX4_change 75 = .ok (.invokevirtual 118, 3) := by decide +kernel
theorem dX4_change_78 : decode cX4_change 78 = .ok (.ifCond .ne 11, 3) := by decide +kernel
theorem dX4_change_81 : decode cX4_change 81 = .ok (.aload_n 0, 1) := by decide +kernel
theorem dX4_change_82 : decode cX4_change 82 = .ok (.iload_n 3, 1) := by decide +kernel
theorem dX4_change_83 : decode cX4_change 83 = .ok (.invokevirtual 115, 3) := by decide +kernel
theorem dX4_change_86 : decode cX4_change 86 = .ok (.ifCond .ne 10, 3) := by decide +kernel
theorem dX4_change_89 : decode cX4_change 89 = .ok (.aload_n 0, 1) := by decide +kernel
theorem dX4_change_90 : decode cX4_change 90 = .ok (.iconst 2, 1) := by decide +kernel
theorem dX4_change_91 : decode cX4_change 91 = .ok (.putfield 68, 3) := by decide +kernel
theorem dX4_change_94 : decode cX4_change 94 = .ok (.iconst 0, 1) := by decide +kernel
theorem dX4_change_95 : decode cX4_change 95 = .ok (.ireturn, 1) := by decide +kernel
theorem dX4_change_96 : decode cX4_change 96 = .ok (.aload_n 0, 1) := by decide +kernel
theorem dX4_change_97 : decode cX4_change 97 = .ok (.iload_n 1, 1) := by decide +kernel
theorem dX4_change_98 : decode cX4_change 98 = .ok (.iload_n 2, 1) := by decide +kernel
theorem dX4_change_99 : decode cX4_change 99 = .ok (.invokevirtual 135, 3) := by decide +kernel
theorem dX4_change_102 : decode cX4_change 102 = .ok (.aload_n 0, 1) := by decide +kernel
theorem dX4_change_103 : decode cX4_change 103 = .ok (.iload_n 1, 1) := by decide +kernel
theorem dX4_change_104 : decode cX4_change 104 = .ok (.iload_n 3, 1) := by decide +kernel
theorem dX4_change_105 : decode cX4_change 105 = .ok (.invokevirtual 132, 3) := by decide +kernel
theorem dX4_change_108 : decode cX4_change 108 = .ok (.aload_n 0, 1) := by decide +kernel
theorem dX4_change_109 : decode cX4_change 109 = .ok (.invokevirtual 123, 3) := by decide +kernel
theorem dX4_change_112 : decode cX4_change 112 = .ok (.aload_n 0, 1) := by decide +kernel
theorem dX4_change_113 : decode cX4_change 113 = .ok (.aload_n 0, 1) := by decide +kernel
theorem dX4_change_114 : decode cX4_change 114 = .ok (.getfield 31, 3) := by decide +kernel
theorem dX4_change_117 : decode cX4_change 117 = .ok (.iload_n 1, 1) := by decide +kernel
theorem dX4_change_118 : decode cX4_change 118 = .ok (.iaload, 1) := by decide +kernel
theorem dX4_change_119 : decode cX4_change 119 = .ok (.invokevirtual 92, 3) := by decide +kernel
theorem dX4_change_122 : decode cX4_change 122 = .ok (.ireturn, 1) := by decide +kernel
theorem dX4_accept_0 : decode cX4_accept 0 = .ok (.aload_n 0, 1) := by decide +kernel
theorem dX4_accept_1 : decode cX4_accept 1 = .ok (.iload_n 1, 1) := by decide +kernel
theorem dX4_accept_2 : decode cX4_accept 2 = .ok (.iload_n 2, 1) := by decide +kernel
theorem dX4_accept_3 : decode cX4_accept 3 = .ok (.invokevirtual 129, 3) := by decide +kernel
theorem dX4_accept_6 : decode cX4_accept 6 = .ok (.ifCond .ne 5, 3) := by decide +kernel
theorem dX4_accept_9 : decode cX4_accept 9 = .ok (.iconst 0, 1) := by decide +kernel
theorem dX4_accept_10 : decode cX4_accept 10 = .ok (.ireturn, 1) := by decide +kernel
theorem dX4_accept_11 : decode cX4_accept 11 = .ok (.aload_n 0, 1) := by decide +kernel
theorem dX4_accept_12 : decode cX4_accept 12 = .ok (.iload_n 1, 1) := by decide +kernel
theorem dX4_accept_13 : decode cX4_accept 13 = .ok (.iload_n 2, 1) := by decide +kernel
theorem dX4_accept_14 : decode cX4_accept 14 = .ok (.invokevirtual 98, 3) := by decide +kernel
theorem dX4_accept_17 : decode cX4_accept 17 = .ok (.ifCond .eq 18, 3) := by decide +kernel
theorem dX4_accept_20 : decode cX4_accept 20 = .ok (.aload_n 0, 1) := by decide +kernel
theorem dX4_accept_21 : decode cX4_accept 21 = .ok (.iload_n 1, 1) := by decide +kernel
theorem dX4_accept_22 : decode cX4_accept 22 = .ok (.iload_n 2, 1) := by decide +kernel
theorem dX4_accept_23 : decode cX4_accept 23 = .ok (.aload_n 0, 1) := by decide +kernel
theorem dX4_accept_24 : decode cX4_accept 24 = .ok (.getfield 31, 3) := by decide +kernel
theorem dX4_accept_27 : decode cX4_accept 27 = .ok (.iload_n 1, 1) := by decide +kernel
theorem dX4_accept_28 : decode cX4_accept 28 = .ok (.iaload, 1) := by decide +kernel
theorem dX4_accept_29 : decode cX4_accept 29 = .ok (.invokevirtual 118, 3) := by decide +kernel
theorem dX4_accept_32 : decode cX4_accept 32 = .ok (.ifCond .eq 10, 3) := by decide +kernel
theorem dX4_accept_35 : decode cX4_accept 35 = .ok (.aload_n 0, 1) := by decide +kernel
theorem dX4_accept_36 : decode cX4_accept 36 = .ok (.iconst 2, 1) := by decide +kernel
theorem dX4_accept_37 : decode cX4_accept 37 = .ok (.putfield 68, 3) := by decide +kernel
theorem dX4_accept_40 : decode cX4_accept 40 = .ok (.iconst 0, 1) := by decide +kernel
theorem dX4_accept_41 : decode cX4_accept 41 = .ok (.ireturn, 1) := by decide +kernel
theorem dX4_accept_42 : decode cX4_accept 42 = .ok (.aload_n 0, 1) := by decide +kernel
theorem dX4_accept_43 : decode cX4_accept 43 = .ok (.iload_n 1, 1) := by decide +kernel
theorem dX4_accept_44 : decode cX4_accept 44 = .ok (.iload_n 2, 1) := by decide +kernel
theorem dX4_accept_45 : decode cX4_accept 45 = .ok (.invokevirtual 132, 3) := by decide +kernel
theorem dX4_accept_48 : decode cX4_accept 48 = .ok (.aload_n 0, 1) := by decide +kernel
theorem dX4_accept_49 : decode cX4_accept 49 = .ok (.invokevirtual 123, 3) := by decide +kernel
theorem dX4_accept_52 : decode cX4_accept 52 = .ok (.aload_n 0, 1) := by decide +kernel
theorem dX4_accept_53 : decode cX4_accept 53 = .ok (.aload_n 0, 1) := by decide +kernel
theorem dX4_accept_54 : decode cX4_accept 54 = .ok (.getfield 31, 3) := by decide +kernel
theorem dX4_accept_57 : decode cX4_accept 57 = .ok (.iload_n 1, 1) := by decide +kernel
theorem dX4_accept_58 : decode cX4_accept 58 = .ok (.iaload, 1) := by decide +kernel
theorem dX4_accept_59 : decode cX4_accept 59 = .ok (.invokevirtual 92, 3) := by decide +kernel
theorem dX4_accept_62 : decode cX4_accept 62 = .ok (.ireturn, 1) := by decide +kernel
theorem dX4_leave_0 : decode cX4_leave 0 = .ok (.aload_n 0, 1) := by decide +kernel
theorem dX4_leave_1 : decode cX4_leave 1 = .ok (.iload_n 1, 1) := by decide +kernel
theorem dX4_leave_2 : decode cX4_leave 2 = .ok (.iload_n 2, 1) := by decide +kernel
theorem dX4_leave_3 : decode cX4_leave 3 = .ok (.invokevirtual 129, 3) := by decide +kernel
theorem dX4_leave_6 : decode cX4_leave 6 = .ok (.ifCond .ne 5, 3) := by decide +kernel
theorem dX4_leave_9 : decode cX4_leave 9 = .ok (.iconst 0, 1) := by decide +kernel
theorem dX4_leave_10 : decode cX4_leave 10 = .ok (.ireturn, 1) := by decide +kernel
theorem dX4_leave_11 : decode cX4_leave 11 = .ok (.aload_n 0, 1) := by decide +kernel
theorem dX4_leave_12 : decode cX4_leave 12 = .ok (.iload_n 1, 1) := by decide +kernel
theorem dX4_leave_13 : decode cX4_leave 13 = .ok (.iload_n 2, 1) := by decide +kernel
theorem dX4_leave_14 : decode cX4_leave 14 = .ok (.invokevirtual 101, 3) := by decide +kernel
theorem dX4_leave_17 : decode cX4_leave 17 = .ok (.ifCond .ge 10, 3) := by decide +kernel
theorem dX4_leave_20 : decode cX4_leave 20 = .ok (.aload_n 0, 1) := by decide +kernel
theorem dX4_leave_21 : decode cX4_leave 21 = .ok (.iconst 2, 1) := by decide +kernel
theorem dX4_leave_22 : decode cX4_leave 22 = .ok (.putfield 68, 3) := by decide +kernel
theorem dX4_leave_25 : decode cX4_leave 25 = .ok (.iconst 0, 1) := by decide +kernel
theorem dX4_leave_26 : decode cX4_leave 26 = .ok (.ireturn, 1) := by decide +kernel
theorem dX4_leave_27 : decode cX4_leave 27 = .ok (.aload_n 0, 1) := by decide +kernel
theorem dX4_leave_28 : decode cX4_leave 28 = .ok (.iload_n 1, 1) := by decide +kernel
theorem dX4_leave_29 : decode cX4_leave 29 = .ok (.iload_n 2, 1) := by decide +kernel
theorem dX4_leave_30 : decode cX4_leave 30 = .ok (.invokevirtual 98, 3) := by decide +kernel
theorem dX4_leave_33 : decode cX4_leave 33 = .ok (.istore_n 3, 1) := by decide +kernel
theorem dX4_leave_34 : decode cX4_leave 34 = .ok (.aload_n 0, 1) := by decide +kernel
theorem dX4_leave_35 : decode cX4_leave 35 = .ok (.iload_n 1, 1) := by decide +kernel
theorem dX4_leave_36 : decode cX4_leave 36 = .ok (.iload_n 2, 1) := by decide +kernel
theorem dX4_leave_37 : decode cX4_leave 37 = .ok (.invokevirtual 112, 3) := by decide +kernel
theorem dX4_leave_40 : decode cX4_leave 40 = .ok (.aload_n 0, 1) := by decide +kernel
theorem dX4_leave_41 : decode cX4_leave 41 = .ok (.invokevirtual 123, 3) := by decide +kernel
theorem dX4_leave_44 : decode cX4_leave 44 = .ok (.iload_n 3, 1) := by decide +kernel
theorem dX4_leave_45 : decode cX4_leave 45 = .ok (.ireturn, 1) := by decide +kernel
theorem dX4_expires_0 : decode cX4_expires 0 = .ok (.iconst 0, 1) := by decide +kernel
theorem dX4_expires_1 : decode cX4_expires 1 = .ok (.istore_n 1, 1) := by decide +kernel
theorem dX4_expires_2 : decode cX4_expires 2 = .ok (.iconst 0, 1) := by decide +kernel
theorem dX4_expires_3 : decode cX4_expires 3 = .ok (.istore_n 2, 1) := by decide +kernel
theorem dX4_expires_4 : decode cX4_expires 4 = .ok (.iload_n 2, 1) := by decide +kernel
theorem dX4_expires_5 : decode cX4_expires 5 = .ok (.aload_n 0, 1) := by decide +kernel
theorem dX4_expires_6 : decode cX4_expires 6 = .ok (.getfield 71, 3) := by decide +kernel
theorem dX4_expires_9 : decode cX4_expires 9 = .ok (.if_icmp .ge 63, 3) := by decide +kernel
theorem dX4_expires_12 : decode cX4_expires 12 = .ok (.iconst 0, 1) := by decide +kernel
theorem dX4_expires_13 : decode cX4_expires 13 = .ok (.istore_n 3, 1) := by decide +kernel
theorem dX4_expires_14 : decode cX4_expires 14 = .ok (.iload_n 3, 1) := by decide +kernel
theorem dX4_expires_15 : decode cX4_expires 15 = .ok (.aload_n 0, 1) := by decide +kernel
theorem dX4_expires_16 : decode cX4_expires 16 = .ok (.getfield 74, 3) := by decide +kernel
theorem dX4_expires_19 : decode cX4_expires 19 = .ok (.if_icmp .ge 47, 3) := by decide +kernel
theorem dX4_expires_22 : decode cX4_expires 22 = .ok (.aload_n 0, 1) := by decide +kernel
theorem dX4_expires_23 : decode cX4_expires 23 = .ok (.iload_n 3, 1) := by decide +kernel
theorem dX4_expires_24 : decode cX4_expires 24 = .ok (.iload_n 2, 1) := by decide +kernel
theorem dX4_expires_25 : decode cX4_expires 25 = .ok (.invokevirtual 98, 3) := by decide +kernel
theorem dX4_expires_28 : decode cX4_expires 28 = .ok (.ifCond .eq 32, 3) := by decide +kernel
theorem dX4_expires_31 : decode cX4_expires 31 = .ok (.aload_n 0, 1) := by decide +kernel
theorem dX4_expires_32 : decode cX4_expires 32 = .ok (.getfield 52, 3) := by decide +kernel
theorem dX4_expires_35 : decode cX4_expires 35 = .ok (.bipush 16, 2) := by decide +kernel
theorem dX4_expires_37 : decode cX4_expires 37 = .ok (.iload_n 2, 1) := by decide +kernel
theorem dX4_expires_38 : decode cX4_expires 38 = .ok (.imul, 1) := by decide +kernel
theorem dX4_expires_39 : decode cX4_expires 39 = .ok (.iload_n 3, 1) := by decide +kernel
theorem dX4_expires_40 : decode cX4_expires 40 = .ok (.iadd, 1) := by decide +kernel
theorem dX4_expires_41 : decode cX4_expires 41 = .ok (.iaload, 1) := by decide +kernel
theorem dX4_expires_42 : decode cX4_expires 42 = .ok (.iconst 3, 1) := by decide +kernel
theorem dX4_expires_43 : decode cX4_expires 43 = .ok (.iadd, 1) := by decide +kernel
theorem dX4_expires_44 : decode cX4_expires 44 = .ok (.aload_n 0, 1) := by decide +kernel
theorem dX4_expires_45 : decode cX4_expires 45 = .ok (.getfield 64, 3) := by decide +kernel
theorem dX4_expires_48 : decode cX4_expires 48 = .ok (.if_icmp .ne 12, 3) := by decide +kernel
theorem dX4_expires_51 : decode cX4_expires 51 = .ok (.aload_n 0, 1) := by decide +kernel
theorem dX4_expires_52 : decode cX4_expires 52 = .ok (.iload_n 3, 1) := by decide +kernel
theorem dX4_expires_53 : decode cX4_expires 53 = .ok (.iload_n 2, 1) := by decide +kernel
theorem dX4_expires_54 : decode cX4_expires 54 = .ok (.invokevirtual 112, 3) := by decide +kernel
theorem dX4_expires_57 : decode cX4_expires 57 = .ok (.iinc 1 1, 3) := by decide +kernel
theorem dX4_expires_60 : decode cX4_expires 60 = .ok (.iinc 3 1, 3) := by decide +kernel
theorem dX4_expires_63 : decode cX4_expires 63 = .ok (.goto (-49), 3) := by decide +kernel
theorem dX4_expires_66 : decode cX4_expires 66 = .ok (.iinc 2 1, 3) := by decide +kernel
theorem dX4_expires_69 : decode cX4_expires 69 = .ok (.goto (-65), 3) := by decide +kernel
theorem dX4_expires_72 : decode cX4_expires 72 = .ok (.iload_n 1, 1) := by decide +kernel
theorem dX4_expires_73 : decode cX4_expires 73 = .ok (.ireturn, 1) := by decide +kernel
theorem dX4_advance_0 : decode cX4_advance 0 = .ok (.aload_n 0, 1) := by decide +kernel
theorem dX4_advance_1 : decode cX4_advance 1 = .ok (.iload_n 1, 1) := by decide +kernel
theorem dX4_advance_2 : decode cX4_advance 2 = .ok (.iconst 1, 1) := by decide +kernel
theorem dX4_advance_3 : decode cX4_advance 3 = .ok (.if_icmp .lt 9, 3) := by decide +kernel
theorem dX4_advance_6 : decode cX4_advance 6 = .ok (.iload_n 1, 1) := by decide +kernel
theorem dX4_advance_7 : decode cX4_advance 7 = .ok (.bipush 7, 2) := by decide +kernel
theorem dX4_advance_9 : decode cX4_advance 9 = .ok (.if_icmp .le 7, 3) := by decide +kernel
theorem dX4_advance_12 : decode cX4_advance 12 = .ok (.iconst 1, 1) := by decide +kernel
theorem dX4_advance_13 : decode cX4_advance 13 = .ok (.goto 4, 3) := by decide +kernel
theorem dX4_advance_16 : decode cX4_advance 16 = .ok (.iconst 0, 1) := by decide +kernel
theorem dX4_advance_17 : decode cX4_advance 17 = .ok (.putfield 68, 3) := by decide +kernel
theorem dX4_advance_20 : decode cX4_advance 20 = .ok (.iconst 0, 1) := by decide +kernel
theorem dX4_advance_21 : decode cX4_advance 21 = .ok (.istore_n 2, 1) := by decide +kernel
theorem dX4_advance_22 : decode cX4_advance 22 = .ok (.iconst 0, 1) := by decide +kernel
theorem dX4_advance_23 : decode cX4_advance 23 = .ok (.istore_n 3, 1) := by decide +kernel
theorem dX4_advance_24 : decode cX4_advance 24 = .ok (.iload_n 3, 1) := by decide +kernel
theorem dX4_advance_25 : decode cX4_advance 25 = .ok (.iload_n 1, 1) := by decide +kernel
theorem dX4_advance_26 : decode cX4_advance 26 = .ok (.if_icmp .ge 37, 3) := by decide +kernel
theorem dX4_advance_29 : decode cX4_advance 29 = .ok (.aload_n 0, 1) := by decide +kernel
theorem dX4_advance_30 : decode cX4_advance 30 = .ok (.getfield 68, 3) := by decide +kernel
theorem dX4_advance_33 : decode cX4_advance 33 = .ok (.ifCond .ne 30, 3) := by decide +kernel
theorem dX4_advance_36 : decode cX4_advance 36 = .ok (.aload_n 0, 1) := by decide +kernel
theorem dX4_advance_37 : decode cX4_advance 37 = .ok (.dup, 1) := by decide +kernel
theorem dX4_advance_38 : decode cX4_advance 38 = .ok (.getfield 64, 3) := by decide +kernel
theorem dX4_advance_41 : decode cX4_advance 41 = .ok (.iconst 1, 1) := by decide +kernel
theorem dX4_advance_42 : decode cX4_advance 42 = .ok (.iadd, 1) := by decide +kernel
theorem dX4_advance_43 : decode cX4_advance 43 = .ok (.putfield 64, 3) := by decide +kernel
theorem dX4_advance_46 : decode cX4_advance 46 = .ok (.iload_n 2, 1) := by decide +kernel
theorem dX4_advance_47 : decode cX4_advance 47 = .ok (.aload_n 0, 1) := by decide +kernel
theorem dX4_advance_48 : decode cX4_advance 48 = .ok (.invokevirtual 138, 3) := by decide +kernel
theorem dX4_advance_51 : decode cX4_advance 51 = .ok (.iadd, 1) := by decide +kernel
theorem dX4_advance_52 : decode cX4_advance 52 = .ok (.istore_n 2, 1) := by decide +kernel
theorem dX4_advance_53 : decode cX4_advance 53 = .ok (.aload_n 0, 1) := by decide +kernel
theorem dX4_advance_54 : decode cX4_advance 54 = .ok (.invokevirtual 123, 3) := by decide +kernel
theorem dX4_advance_57 : decode cX4_advance 57 = .ok (.iinc 3 1, 3) := by decide +kernel
theorem dX4_advance_60 : decode cX4_advance 60 = .ok (.goto (-36), 3) := by decide +kernel
theorem dX4_advance_63 : decode cX4_advance 63 = .ok (.iload_n 2, 1) := by decide +kernel
theorem dX4_advance_64 : decode cX4_advance 64 = .ok (.ireturn, 1) := by decide +kernel
theorem dX4_day_0 : decode cX4_day 0 = .ok (.aload_n 0, 1) := by decide +kernel
theorem dX4_day_1 : decode cX4_day 1 = .ok (.iconst 0, 1) := by decide +kernel
theorem dX4_day_2 : decode cX4_day 2 = .ok (.putfield 68, 3) := by decide +kernel
theorem dX4_day_5 : decode cX4_day 5 = .ok (.aload_n 0, 1) := by decide +kernel
theorem dX4_day_6 : decode cX4_day 6 = .ok (.getfield 64, 3) := by decide +kernel
theorem dX4_day_9 : decode cX4_day 9 = .ok (.ireturn, 1) := by decide +kernel
theorem dX4_waiting_0 : decode cX4_waiting 0 = .ok (.aload_n 0, 1) := by decide +kernel
theorem dX4_waiting_1 : decode cX4_waiting 1 = .ok (.aload_n 0, 1) := by decide +kernel
theorem dX4_waiting_2 : decode cX4_waiting 2 = .ok (.iload_n 1, 1) := by decide +kernel
theorem dX4_waiting_3 : decode cX4_waiting 3 = .ok (.invokevirtual 81, 3) := by decide +kernel
theorem dX4_waiting_6 : decode cX4_waiting 6 = .ok (.ifCond .eq 7, 3) := by decide +kernel
theorem dX4_waiting_9 : decode cX4_waiting 9 = .ok (.iconst 0, 1) := by decide +kernel
theorem dX4_waiting_10 : decode cX4_waiting 10 = .ok (.goto 4, 3) := by decide +kernel
theorem dX4_waiting_13 : decode cX4_waiting 13 = .ok (.iconst 1, 1) := by decide +kernel
theorem dX4_waiting_14 : decode cX4_waiting 14 = .ok (.putfield 68, 3) := by decide +kernel
theorem dX4_waiting_17 : decode cX4_waiting 17 = .ok (.aload_n 0, 1) := by decide +kernel
theorem dX4_waiting_18 : decode cX4_waiting 18 = .ok (.getfield 68, 3) := by decide +kernel
theorem dX4_waiting_21 : decode cX4_waiting 21 = .ok (.ifCond .ne 12, 3) := by decide +kernel
theorem dX4_waiting_24 : decode cX4_waiting 24 = .ok (.aload_n 0, 1) := by decide +kernel
theorem dX4_waiting_25 : decode cX4_waiting 25 = .ok (.getfield 46, 3) := by decide +kernel
theorem dX4_waiting_28 : decode cX4_waiting 28 = .ok (.iload_n 1, 1) := by decide +kernel
theorem dX4_waiting_29 : decode cX4_waiting 29 = .ok (.iaload, 1) := by decide +kernel
theorem dX4_waiting_30 : decode cX4_waiting 30 = .ok (.goto 4, 3) := by decide +kernel
theorem dX4_waiting_33 : decode cX4_waiting 33 = .ok (.iconst 0, 1) := by decide +kernel
theorem dX4_waiting_34 : decode cX4_waiting 34 = .ok (.ireturn, 1) := by decide +kernel
theorem dX4_waitingAt_0 : decode cX4_waitingAt 0 = .ok (.aload_n 0, 1) := by decide +kernel
theorem dX4_waitingAt_1 : decode cX4_waitingAt 1 = .ok (.aload_n 0, 1) := by decide +kernel
theorem dX4_waitingAt_2 : decode cX4_waitingAt 2 = .ok (.iload_n 1, 1) := by decide +kernel
theorem dX4_waitingAt_3 : decode cX4_waitingAt 3 = .ok (.invokevirtual 81, 3) := by decide +kernel
theorem dX4_waitingAt_6 : decode cX4_waitingAt 6 = .ok (.ifCond .eq 21, 3) := by decide +kernel
theorem dX4_waitingAt_9 : decode cX4_waitingAt 9 = .ok (.iload_n 2, 1) := by decide +kernel
theorem dX4_waitingAt_10 : decode cX4_waitingAt 10 = .ok (.ifCond .lt 17, 3) := by decide +kernel
theorem dX4_waitingAt_13 : decode cX4_waitingAt 13 = .ok (.iload_n 2, 1) := by decide +kernel
theorem dX4_waitingAt_14 : decode cX4_waitingAt 14 = .ok (.aload_n 0, 1) := by decide +kernel
theorem dX4_waitingAt_15 : decode cX4_waitingAt 15 = .ok (.getfield 46, 3) := by decide +kernel
theorem dX4_waitingAt_18 : decode cX4_waitingAt 18 = .ok (.iload_n 1, 1) := by decide +kernel
theorem dX4_waitingAt_19 : decode cX4_waitingAt 19 = .ok (.iaload, 1) := by decide +kernel
theorem dX4_waitingAt_20 : decode cX4_waitingAt 20 = .ok (.if_icmp .ge 7, 3) := by decide +kernel
theorem dX4_waitingAt_23 : decode cX4_waitingAt 23 = .ok (.iconst 0, 1) := by decide +kernel
theorem dX4_waitingAt_24 : decode cX4_waitingAt 24 = .ok (.goto 4, 3) := by decide +kernel
theorem dX4_waitingAt_27 : decode cX4_waitingAt 27 = .ok (.iconst 1, 1) := by decide +kernel
theorem dX4_waitingAt_28 : decode cX4_waitingAt 28 = .ok (.putfield 68, 3) := by decide +kernel
theorem dX4_waitingAt_31 : decode cX4_waitingAt 31 = .ok (.aload_n 0, 1) := by decide +kernel
theorem dX4_waitingAt_32 : decode cX4_waitingAt 32 = .ok (.getfield 68, 3) := by decide +kernel
theorem dX4_waitingAt_35 : decode cX4_waitingAt 35 = .ok (.ifCond .ne 17, 3) := by decide +kernel
theorem dX4_waitingAt_38 : decode cX4_waitingAt 38 = .ok (.aload_n 0, 1) := by decide +kernel
theorem dX4_waitingAt_39 : decode cX4_waitingAt 39 = .ok (.getfield 49, 3) := by decide +kernel
theorem dX4_waitingAt_42 : decode cX4_waitingAt 42 = .ok (.bipush 16, 2) := by decide +kernel
theorem dX4_waitingAt_44 : decode cX4_waitingAt 44 = .ok (.iload_n 1, 1) := by decide +kernel
theorem dX4_waitingAt_45 : decode cX4_waitingAt 45 = .ok (.imul, 1) := by decide +kernel
theorem dX4_waitingAt_46 : decode cX4_waitingAt 46 = .ok (.iload_n 2, 1) := by decide +kernel
theorem dX4_waitingAt_47 : decode cX4_waitingAt 47 = .ok (.iadd, 1) := by decide +kernel
theorem dX4_waitingAt_48 : decode cX4_waitingAt 48 = .ok (.iaload, 1) := by decide +kernel
theorem dX4_waitingAt_49 : decode cX4_waitingAt 49 = .ok (.goto 4, 3) := by decide +kernel
theorem dX4_waitingAt_52 : decode cX4_waitingAt 52 = .ok (.iconst 0, 1) := by decide +kernel
theorem dX4_waitingAt_53 : decode cX4_waitingAt 53 = .ok (.ireturn, 1) := by decide +kernel
theorem dX4_offerDays_0 : decode cX4_offerDays 0 = .ok (.aload_n 0, 1) := by decide +kernel
theorem dX4_offerDays_1 : decode cX4_offerDays 1 = .ok (.iload_n 1, 1) := by decide +kernel
theorem dX4_offerDays_2 : decode cX4_offerDays 2 = .ok (.iload_n 2, 1) := by decide +kernel
theorem dX4_offerDays_3 : decode cX4_offerDays 3 = .ok (.invokevirtual 129, 3) := by decide +kernel
theorem dX4_offerDays_6 : decode cX4_offerDays 6 = .ok (.ifCond .eq 12, 3) := by decide +kernel
theorem dX4_offerDays_9 : decode cX4_offerDays 9 = .ok (.aload_n 0, 1) := by decide +kernel
theorem dX4_offerDays_10 : decode cX4_offerDays 10 = .ok (.iload_n 1, 1) := by decide +kernel
theorem dX4_offerDays_11 : decode cX4_offerDays 11 = .ok (.iload_n 2, 1) := by decide +kernel
theorem dX4_offerDays_12 : decode cX4_offerDays 12 = .ok (.invokevirtual 98, 3) := by decide +kernel
theorem dX4_offerDays_15 : decode cX4_offerDays 15 = .ok (.ifCond .ne 5, 3) := by decide +kernel
theorem dX4_offerDays_18 : decode cX4_offerDays 18 = .ok (.iconst 0, 1) := by decide +kernel
theorem dX4_offerDays_19 : decode cX4_offerDays 19 = .ok (.ireturn, 1) := by decide +kernel
theorem dX4_offerDays_20 : decode cX4_offerDays 20 = .ok (.aload_n 0, 1) := by decide +kernel
theorem dX4_offerDays_21 : decode cX4_offerDays 21 = .ok (.getfield 52, 3) := by decide +kernel
theorem dX4_offerDays_24 : decode cX4_offerDays 24 = .ok (.bipush 16, 2) := by decide +kernel
theorem dX4_offerDays_26 : decode cX4_offerDays 26 = .ok (.iload_n 2, 1) := by decide +kernel
theorem dX4_offerDays_27 : decode cX4_offerDays 27 = .ok (.imul, 1) := by decide +kernel
theorem dX4_offerDays_28 : decode cX4_offerDays 28 = .ok (.iload_n 1, 1) := by decide +kernel
theorem dX4_offerDays_29 : decode cX4_offerDays 29 = .ok (.iadd, 1) := by decide +kernel
theorem dX4_offerDays_30 : decode cX4_offerDays 30 = .ok (.iaload, 1) := by decide +kernel
theorem dX4_offerDays_31 : decode cX4_offerDays 31 = .ok (.iconst 3, 1) := by decide +kernel
theorem dX4_offerDays_32 : decode cX4_offerDays 32 = .ok (.iadd, 1) := by decide +kernel
theorem dX4_offerDays_33 : decode cX4_offerDays 33 = .ok (.aload_n 0, 1) := by decide +kernel
theorem dX4_offerDays_34 : decode cX4_offerDays 34 = .ok (.getfield 64, 3) := by decide +kernel
theorem dX4_offerDays_37 : decode cX4_offerDays 37 = .ok (.isub, 1) := by decide +kernel
theorem dX4_offerDays_38 : decode cX4_offerDays 38 = .ok (.ireturn, 1) := by decide +kernel
theorem dX4_isAhead_0 : decode cX4_isAhead 0 = .ok (.aload_n 0, 1) := by decide +kernel
theorem dX4_isAhead_1 : decode cX4_isAhead 1 = .ok (.getfield 22, 3) := by decide +kernel
theorem dX4_isAhead_4 : decode cX4_isAhead 4 = .ok (.iload_n 1, 1) := by decide +kernel
theorem dX4_isAhead_5 : decode cX4_isAhead 5 = .ok (.iaload, 1) := by decide +kernel
theorem dX4_isAhead_6 : decode cX4_isAhead 6 = .ok (.aload_n 0, 1) := by decide +kernel
theorem dX4_isAhead_7 : decode cX4_isAhead 7 = .ok (.getfield 22, 3) := by decide +kernel
theorem dX4_isAhead_10 : decode cX4_isAhead 10 = .ok (.iload_n 2, 1) := by decide +kernel
theorem dX4_isAhead_11 : decode cX4_isAhead 11 = .ok (.iaload, 1) := by decide +kernel
theorem dX4_isAhead_12 : decode cX4_isAhead 12 = .ok (.if_icmp .eq 24, 3) := by decide +kernel
theorem dX4_isAhead_15 : decode cX4_isAhead 15 = .ok (.aload_n 0, 1) := by decide +kernel
theorem dX4_isAhead_16 : decode cX4_isAhead 16 = .ok (.getfield 22, 3) := by decide +kernel
theorem dX4_isAhead_19 : decode cX4_isAhead 19 = .ok (.iload_n 1, 1) := by decide +kernel
theorem dX4_isAhead_20 : decode cX4_isAhead 20 = .ok (.iaload, 1) := by decide +kernel
theorem dX4_isAhead_21 : decode cX4_isAhead 21 = .ok (.aload_n 0, 1) := by decide +kernel
theorem dX4_isAhead_22 : decode cX4_isAhead 22 = .ok (.getfield 22, 3) := by decide +kernel
theorem dX4_isAhead_25 : decode cX4_isAhead 25 = .ok (.iload_n 2, 1) := by decide +kernel
theorem dX4_isAhead_26 : decode cX4_isAhead 26 = .ok (.iaload, 1) := by decide +kernel
theorem dX4_isAhead_27 : decode cX4_isAhead 27 = .ok (.if_icmp .ge 7, 3) := by decide +kernel
theorem dX4_isAhead_30 : decode cX4_isAhead 30 = .ok (.iconst 1, 1) := by decide +kernel
theorem dX4_isAhead_31 : decode cX4_isAhead 31 = .ok (.goto 4, 3) := by decide +kernel
theorem dX4_isAhead_34 : decode cX4_isAhead 34 = .ok (.iconst 0, 1) := by decide +kernel
theorem dX4_isAhead_35 : decode cX4_isAhead 35 = .ok (.ireturn, 1) := by decide +kernel
theorem dX4_isAhead_36 : decode cX4_isAhead 36 = .ok (.aload_n 0, 1) := by decide +kernel
theorem dX4_isAhead_37 : decode cX4_isAhead 37 = .ok (.getfield 43, 3) := by decide +kernel
theorem dX4_isAhead_40 : decode cX4_isAhead 40 = .ok (.iload_n 1, 1) := by decide +kernel
theorem dX4_isAhead_41 : decode cX4_isAhead 41 = .ok (.iaload, 1) := by decide +kernel
theorem dX4_isAhead_42 : decode cX4_isAhead 42 = .ok (.aload_n 0, 1) := by decide +kernel
theorem dX4_isAhead_43 : decode cX4_isAhead 43 = .ok (.getfield 43, 3) := by decide +kernel
theorem dX4_isAhead_46 : decode cX4_isAhead 46 = .ok (.iload_n 2, 1) := by decide +kernel
theorem dX4_isAhead_47 : decode cX4_isAhead 47 = .ok (.iaload, 1) := by decide +kernel
theorem dX4_isAhead_48 : decode cX4_isAhead 48 = .ok (.if_icmp .eq 26, 3) := by decide +kernel
theorem dX4_isAhead_51 : decode cX4_isAhead 51 = .ok (.aload_n 0, 1) := by decide +kernel
theorem dX4_isAhead_52 : decode cX4_isAhead 52 = .ok (.getfield 43, 3) := by decide +kernel
theorem dX4_isAhead_55 : decode cX4_isAhead 55 = .ok (.iload_n 1, 1) := by decide +kernel
theorem dX4_isAhead_56 : decode cX4_isAhead 56 = .ok (.iaload, 1) := by decide +kernel
theorem dX4_isAhead_57 : decode cX4_isAhead 57 = .ok (.aload_n 0, 1) := by decide +kernel
theorem dX4_isAhead_58 : decode cX4_isAhead 58 = .ok (.getfield 43, 3) := by decide +kernel
theorem dX4_isAhead_61 : decode cX4_isAhead 61 = .ok (.iload_n 2, 1) := by decide +kernel
theorem dX4_isAhead_62 : decode cX4_isAhead 62 = .ok (.iaload, 1) := by decide +kernel
theorem dX4_isAhead_63 : decode cX4_isAhead 63 = .ok (.if_icmp .ge 7, 3) := by decide +kernel
theorem dX4_isAhead_66 : decode cX4_isAhead 66 = .ok (.iconst 1, 1) := by decide +kernel
theorem dX4_isAhead_67 : decode cX4_isAhead 67 = .ok (.goto 17, 3) := by decide +kernel
theorem dX4_isAhead_70 : decode cX4_isAhead 70 = .ok (.iconst 0, 1) := by decide +kernel
theorem dX4_isAhead_71 : decode cX4_isAhead 71 = .ok (.goto 13, 3) := by decide +kernel
theorem dX4_isAhead_74 : decode cX4_isAhead 74 = .ok (.iload_n 1, 1) := by decide +kernel
theorem dX4_isAhead_75 : decode cX4_isAhead 75 = .ok (.iload_n 2, 1) := by decide +kernel
theorem dX4_isAhead_76 : decode cX4_isAhead 76 = .ok (.if_icmp .ge 7, 3) := by decide +kernel
theorem dX4_isAhead_79 : decode cX4_isAhead 79 = .ok (.iconst 1, 1) := by decide +kernel
theorem dX4_isAhead_80 : decode cX4_isAhead 80 = .ok (.goto 4, 3) := by decide +kernel
theorem dX4_isAhead_83 : decode cX4_isAhead 83 = .ok (.iconst 0, 1) := by decide +kernel
theorem dX4_isAhead_84 : decode cX4_isAhead 84 = .ok (.ireturn, 1) := by decide +kernel
theorem dX4_getsOne_0 : decode cX4_getsOne 0 = .ok (.iconst 0, 1) := by decide +kernel
theorem dX4_getsOne_1 : decode cX4_getsOne 1 = .ok (.istore_n 2, 1) := by decide +kernel
theorem dX4_getsOne_2 : decode cX4_getsOne 2 = .ok (.iload_n 2, 1) := by decide +kernel
theorem dX4_getsOne_3 : decode cX4_getsOne 3 = .ok (.aload_n 0, 1) := by decide +kernel
theorem dX4_getsOne_4 : decode cX4_getsOne 4 = .ok (.getfield 34, 3) := by decide +kernel
theorem dX4_getsOne_7 : decode cX4_getsOne 7 = .ok (.iload_n 1, 1) := by decide +kernel
theorem dX4_getsOne_8 : decode cX4_getsOne 8 = .ok (.iaload, 1) := by decide +kernel
theorem dX4_getsOne_9 : decode cX4_getsOne 9 = .ok (.if_icmp .ge 52, 3) := by decide +kernel
theorem dX4_getsOne_12 : decode cX4_getsOne 12 = .ok (.aload_n 0, 1) := by decide +kernel
theorem dX4_getsOne_13 : decode cX4_getsOne 13 = .ok (.getfield 37, 3) := by decide +kernel
theorem dX4_getsOne_16 : decode cX4_getsOne 16 = .ok (.bipush 6, 2) := by decide +kernel
theorem dX4_getsOne_18 : decode cX4_getsOne 18 = .ok (.iload_n 1, 1) := by decide +kernel
theorem dX4_getsOne_19 : decode cX4_getsOne 19 = .ok (.imul, 1) := by decide +kernel
theorem dX4_getsOne_20 : decode cX4_getsOne 20 = .ok (.iload_n 2, 1) := by decide +kernel
theorem dX4_getsOne_21 : decode cX4_getsOne 21 = .ok (.iadd, 1) := by decide +kernel
theorem dX4_getsOne_22 : decode cX4_getsOne 22 = .ok (.iaload, 1) := by decide +kernel
theorem dX4_getsOne_23 : decode cX4_getsOne 23 = .ok (.istore_n 3, 1) := by decide +kernel
theorem dX4_getsOne_24 : decode cX4_getsOne 24 = .ok (.aload_n 0, 1) := by decide +kernel
theorem dX4_getsOne_25 : decode cX4_getsOne 25 = .ok (.iload_n 1, 1) := by decide +kernel
theorem dX4_getsOne_26 : decode cX4_getsOne 26 = .ok (.iload_n 3, 1) := by decide +kernel
theorem dX4_getsOne_27 : decode cX4_getsOne 27 = .ok (.aload_n 0, 1) := by decide +kernel
theorem dX4_getsOne_28 : decode cX4_getsOne 28 = .ok (.getfield 31, 3) := by decide +kernel
theorem dX4_getsOne_31 : decode cX4_getsOne 31 = .ok (.iload_n 1, 1) := by decide +kernel
theorem dX4_getsOne_32 : decode cX4_getsOne 32 = .ok (.iaload, 1) := by decide +kernel
theorem dX4_getsOne_33 : decode cX4_getsOne 33 = .ok (.invokevirtual 118, 3) := by decide +kernel
theorem dX4_getsOne_36 : decode cX4_getsOne 36 = .ok (.ifCond .ne 19, 3) := by decide +kernel
theorem dX4_getsOne_39 : decode cX4_getsOne 39 = .ok (.aload_n 0, 1) := by decide +kernel
theorem dX4_getsOne_40 : decode cX4_getsOne 40 = .ok (.iload_n 3, 1) := by decide +kernel
theorem dX4_getsOne_41 : decode cX4_getsOne 41 = .ok (.invokevirtual 115, 3) := by decide +kernel
theorem dX4_getsOne_44 : decode cX4_getsOne 44 = .ok (.ifCond .le 11, 3) := by decide +kernel
theorem dX4_getsOne_47 : decode cX4_getsOne 47 = .ok (.aload_n 0, 1) := by decide +kernel
theorem dX4_getsOne_48 : decode cX4_getsOne 48 = .ok (.iload_n 1, 1) := by decide +kernel
theorem dX4_getsOne_49 : decode cX4_getsOne 49 = .ok (.iload_n 3, 1) := by decide +kernel
theorem dX4_getsOne_50 : decode cX4_getsOne 50 = .ok (.invokevirtual 132, 3) := by decide +kernel
theorem dX4_getsOne_53 : decode cX4_getsOne 53 = .ok (.iconst 1, 1) := by decide +kernel
theorem dX4_getsOne_54 : decode cX4_getsOne 54 = .ok (.ireturn, 1) := by decide +kernel
theorem dX4_getsOne_55 : decode cX4_getsOne 55 = .ok (.iinc 2 1, 3) := by decide +kernel
theorem dX4_getsOne_58 : decode cX4_getsOne 58 = .ok (.goto (-56), 3) := by decide +kernel
theorem dX4_getsOne_61 : decode cX4_getsOne 61 = .ok (.iconst 0, 1) := by decide +kernel
theorem dX4_getsOne_62 : decode cX4_getsOne 62 = .ok (.ireturn, 1) := by decide +kernel
theorem dX4_runLottery_0 : decode cX4_runLottery 0 = .ok (.aload_n 0, 1) := by decide +kernel
theorem dX4_runLottery_1 : decode cX4_runLottery 1 = .ok (.iload_n 1, 1) := by decide +kernel
theorem dX4_runLottery_2 : decode cX4_runLottery 2 = .ok (.ifCond .ge 7, 3) := by decide +kernel
theorem dX4_runLottery_5 : decode cX4_runLottery 5 = .ok (.iconst 1, 1) := by decide +kernel
theorem dX4_runLottery_6 : decode cX4_runLottery 6 = .ok (.goto 4, 3) := by decide +kernel
theorem dX4_runLottery_9 : decode cX4_runLottery 9 = .ok (.iconst 0, 1) := by decide +kernel
theorem dX4_runLottery_10 : decode cX4_runLottery 10 = .ok (.putfield 68, 3) := by decide +kernel
theorem dX4_runLottery_13 : decode cX4_runLottery 13 = .ok (.aload_n 0, 1) := by decide +kernel
theorem dX4_runLottery_14 : decode cX4_runLottery 14 = .ok (.getfield 68, 3) := by decide +kernel
theorem dX4_runLottery_17 : decode cX4_runLottery 17 = .ok (.ifCond .le 5, 3) := by decide +kernel
theorem dX4_runLottery_20 : decode cX4_runLottery 20 = .ok (.iconst 0, 1) := by decide +kernel
theorem dX4_runLottery_21 : decode cX4_runLottery 21 = .ok (.ireturn, 1) := by decide +kernel
theorem dX4_runLottery_22 : decode cX4_runLottery 22 = .ok (.iload_n 1, 1) := by decide +kernel
theorem dX4_runLottery_23 : decode cX4_runLottery 23 = .ok (.i2l, 1) := by decide +kernel
theorem dX4_runLottery_24 : decode cX4_runLottery 24 = .ok (.lstore_n 2, 1) := by decide +kernel
theorem dX4_runLottery_25 : decode cX4_runLottery 25 = .ok (.iconst 0, 1) := by decide +kernel
theorem dX4_runLottery_26 : decode cX4_runLottery 26 = .ok (.istore 4, 2) := by decide +kernel
theorem dX4_runLottery_28 : decode cX4_runLottery 28 = .ok (.iload 4, 2) := by decide +kernel
theorem dX4_runLottery_30 : decode cX4_runLottery 30 = .ok (.aload_n 0, 1) := by decide +kernel
theorem dX4_runLottery_31 : decode cX4_runLottery 31 = .ok (.getfield 74, 3) := by decide +kernel
theorem dX4_runLottery_34 : decode cX4_runLottery 34 = .ok (.if_icmp .ge 36, 3) := by decide +kernel
theorem dX4_runLottery_37 : decode cX4_runLottery 37 = .ok (.ldc2_w 142, 3) := by decide +kernel
theorem dX4_runLottery_40 : decode cX4_runLottery 40 = .ok (.lload_n 2, 1) := by decide +kernel
theorem dX4_runLottery_41 : decode cX4_runLottery 41 = .ok (.lmul, 1) := by decide +kernel
theorem dX4_runLottery_42 : decode cX4_runLottery 42 = .ok (.ldc2_w 144, 3) := by decide +kernel
theorem dX4_runLottery_45 : decode cX4_runLottery 45 = .ok (.ladd, 1) := by decide +kernel
theorem dX4_runLottery_46 : decode cX4_runLottery 46 = .ok (.ldc2_w 146, 3) := by decide +kernel
theorem dX4_runLottery_49 : decode cX4_runLottery 49 = .ok (.lrem, 1) := by decide +kernel
theorem dX4_runLottery_50 : decode cX4_runLottery 50 = .ok (.lstore_n 2, 1) := by decide +kernel
theorem dX4_runLottery_51 : decode cX4_runLottery 51 = .ok (.aload_n 0, 1) := by decide +kernel
theorem dX4_runLottery_52 : decode cX4_runLottery 52 = .ok (.getfield 43, 3) := by decide +kernel
theorem dX4_runLottery_55 : decode cX4_runLottery 55 = .ok (.iload 4, 2) := by decide +kernel
theorem dX4_runLottery_57 : decode cX4_runLottery 57 = .ok (.lload_n 2, 1) := by decide +kernel
theorem dX4_runLottery_58 : decode cX4_runLottery 58 = .ok (.ldc2_w 148, 3) := by decide +kernel
theorem dX4_runLottery_61 : decode cX4_runLottery 61 = .ok (.ldiv, 1) := by decide +kernel
theorem dX4_runLottery_62 : decode cX4_runLottery 62 = .ok (.l2i, 1) := by decide +kernel
theorem dX4_runLottery_63 : decode cX4_runLottery 63 = .ok (.iastore, 1) := by decide +kernel
theorem dX4_runLottery_64 : decode cX4_runLottery 64 = .ok (.iinc 4 1, 3) := by decide +kernel
theorem dX4_runLottery_67 : decode cX4_runLottery 67 = .ok (.goto (-39), 3) := by decide +kernel
theorem dX4_runLottery_70 : decode cX4_runLottery 70 = .ok (.iconst 0, 1) := by decide +kernel
theorem dX4_runLottery_71 : decode cX4_runLottery 71 = .ok (.istore 4, 2) := by decide +kernel
theorem dX4_runLottery_73 : decode cX4_runLottery 73 = .ok (.iconst 0, 1) := by decide +kernel
theorem dX4_runLottery_74 : decode cX4_runLottery 74 = .ok (.istore 5, 2) := by decide +kernel
theorem dX4_runLottery_76 : decode cX4_runLottery 76 = .ok (.iload 5, 2) := by decide +kernel
theorem dX4_runLottery_78 : decode cX4_runLottery 78 = .ok (.aload_n 0, 1) := by decide +kernel
theorem dX4_runLottery_79 : decode cX4_runLottery 79 = .ok (.getfield 74, 3) := by decide +kernel
theorem dX4_runLottery_82 : decode cX4_runLottery 82 = .ok (.if_icmp .ge 95, 3) := by decide +kernel
theorem dX4_runLottery_85 : decode cX4_runLottery 85 = .ok (.iconst 0, 1) := by decide +kernel
theorem dX4_runLottery_86 : decode cX4_runLottery 86 = .ok (.istore 6, 2) := by decide +kernel
theorem dX4_runLottery_88 : decode cX4_runLottery 88 = .ok (.iload 6, 2) := by decide +kernel
theorem dX4_runLottery_90 : decode cX4_runLottery 90 = .ok (.aload_n 0, 1) := by decide +kernel
theorem dX4_runLottery_91 : decode cX4_runLottery 91 = .ok (.getfield 74, 3) := by decide +kernel
theorem dX4_runLottery_94 : decode cX4_runLottery 94 = .ok (.if_icmp .ge 77, 3) := by decide +kernel
theorem dX4_runLottery_97 : decode cX4_runLottery 97 = .ok (.iconst 0, 1) := by decide +kernel
theorem dX4_runLottery_98 : decode cX4_runLottery 98 = .ok (.istore 7, 2) := by decide +kernel
theorem dX4_runLottery_100 : decode cX4_runLottery 100 = .ok (.iconst 0, 1) := by decide +kernel
theorem dX4_runLottery_101 : decode cX4_runLottery 101 = .ok (.istore 8, 2) := by decide +kernel
theorem dX4_runLottery_103 : decode cX4_runLottery 103 = .ok (.iload 8, 2) := by decide +kernel
theorem dX4_runLottery_105 : decode cX4_runLottery 105 = .ok (.aload_n 0, 1) := by decide +kernel
theorem dX4_runLottery_106 : decode cX4_runLottery 106 = .ok (.getfield 74, 3) := by decide +kernel
theorem dX4_runLottery_109 : decode cX4_runLottery 109 = .ok (.if_icmp .ge 30, 3) := by decide +kernel
theorem dX4_runLottery_112 : decode cX4_runLottery 112 = .ok (.iload 7, 2) := by decide +kernel
theorem dX4_runLottery_114 : decode cX4_runLottery 114 = .ok (.aload_n 0, 1) := by decide +kernel
theorem dX4_runLottery_115 : decode cX4_runLottery 115 = .ok (.iload 8, 2) := by decide +kernel
theorem dX4_runLottery_117 : decode cX4_runLottery 117 = .ok (.iload 6, 2) := by decide +kernel
theorem dX4_runLottery_119 : decode cX4_runLottery 119 = .ok (.invokevirtual 150, 3) := by decide +kernel
theorem dX4_runLottery_122 : decode cX4_runLottery 122 = .ok (.ifCond .eq 7, 3) := by decide +kernel
theorem dX4_runLottery_125 : decode cX4_runLottery 125 = .ok (.iconst 1, 1) := by decide +kernel
theorem dX4_runLottery_126 : decode cX4_runLottery 126 = .ok (.goto 4, 3) := by decide +kernel
theorem dX4_runLottery_129 : decode cX4_runLottery 129 = .ok (.iconst 0, 1) := by decide +kernel
theorem dX4_runLottery_130 : decode cX4_runLottery 130 = .ok (.iadd, 1) := by decide +kernel
theorem dX4_runLottery_131 : decode cX4_runLottery 131 = .ok (.istore 7, 2) := by decide +kernel
theorem dX4_runLottery_133 : decode cX4_runLottery 133 = .ok (.iinc 8 1, 3) := by decide +kernel
theorem dX4_runLottery_136 : decode cX4_runLottery 136 = .ok (.goto (-33), 3) := by decide +kernel
theorem dX4_runLottery_139 : decode cX4_runLottery 139 = .ok (.iload 4, 2) := by decide +kernel
theorem dX4_runLottery_141 : decode cX4_runLottery 141 = .ok (.iload 7, 2) := by decide +kernel
theorem dX4_runLottery_143 : decode cX4_runLottery 143 = .ok (.iload 5, 2) := by decide +kernel
theorem dX4_runLottery_145 : decode cX4_runLottery 145 = .ok (.if_icmp .ne 16, 3) := by decide +kernel
theorem dX4_runLottery_148 : decode cX4_runLottery 148 = .ok (.aload_n 0, 1) := by decide +kernel
theorem dX4_runLottery_149 : decode cX4_runLottery 149 = .ok (.iload 6, 2) := by decide +kernel
theorem dX4_runLottery_151 : decode cX4_runLottery 151 = .ok (.invokevirtual 153, 3) := by decide +kernel
theorem dX4_runLottery_154 : decode cX4_runLottery 154 = .ok (.ifCond .eq 7, 3) := by decide +kernel
theorem dX4_runLottery_157 : decode cX4_runLottery 157 = .ok (.iconst 1, 1) := by decide +kernel
theorem dX4_runLottery_158 : decode cX4_runLottery 158 = .ok (.goto 4, 3) := by decide +kernel
theorem dX4_runLottery_161 : decode cX4_runLottery 161 = .ok (.iconst 0, 1) := by decide +kernel
theorem dX4_runLottery_162 : decode cX4_runLottery 162 = .ok (.iadd, 1) := by decide +kernel
theorem dX4_runLottery_163 : decode cX4_runLottery 163 = .ok (.istore 4, 2) := by decide +kernel
theorem dX4_runLottery_165 : decode cX4_runLottery 165 = .ok (.iinc 6 1, 3) := by decide +kernel
theorem dX4_runLottery_168 : decode cX4_runLottery 168 = .ok (.goto (-80), 3) := by decide +kernel
theorem dX4_runLottery_171 : decode cX4_runLottery 171 = .ok (.iinc 5 1, 3) := by decide +kernel
theorem dX4_runLottery_174 : decode cX4_runLottery 174 = .ok (.goto (-98), 3) := by decide +kernel
theorem dX4_runLottery_177 : decode cX4_runLottery 177 = .ok (.aload_n 0, 1) := by decide +kernel
theorem dX4_runLottery_178 : decode cX4_runLottery 178 = .ok (.invokevirtual 123, 3) := by decide +kernel
theorem dX4_runLottery_181 : decode cX4_runLottery 181 = .ok (.iload 4, 2) := by decide +kernel
theorem dX4_runLottery_183 : decode cX4_runLottery 183 = .ok (.ireturn, 1) := by decide +kernel
theorem dX4_lotteryNumber_0 : decode cX4_lotteryNumber 0 = .ok (.aload_n 0, 1) := by decide +kernel
theorem dX4_lotteryNumber_1 : decode cX4_lotteryNumber 1 = .ok (.aload_n 0, 1) := by decide +kernel
theorem dX4_lotteryNumber_2 : decode cX4_lotteryNumber 2 = .ok (.iload_n 1, 1) := by decide +kernel
theorem dX4_lotteryNumber_3 : decode cX4_lotteryNumber 3 = .ok (.invokevirtual 77, 3) := by decide +kernel
theorem dX4_lotteryNumber_6 : decode cX4_lotteryNumber 6 = .ok (.ifCond .eq 7, 3) := by decide +kernel
theorem dX4_lotteryNumber_9 : decode cX4_lotteryNumber 9 = .ok (.iconst 0, 1) := by decide +kernel
theorem dX4_lotteryNumber_10 : decode cX4_lotteryNumber 10 = .ok (.goto 4, 3) := by decide +kernel
theorem dX4_lotteryNumber_13 : decode cX4_lotteryNumber 13 = .ok (.iconst 1, 1) := by decide +kernel
theorem dX4_lotteryNumber_14 : decode cX4_lotteryNumber 14 = .ok (.putfield 68, 3) := by decide +kernel
theorem dX4_lotteryNumber_17 : decode cX4_lotteryNumber 17 = .ok (.aload_n 0, 1) := by decide +kernel
theorem dX4_lotteryNumber_18 : decode cX4_lotteryNumber 18 = .ok (.getfield 68, 3) := by decide +kernel
theorem dX4_lotteryNumber_21 : decode cX4_lotteryNumber 21 = .ok (.ifCond .ne 12, 3) := by decide +kernel
theorem dX4_lotteryNumber_24 : decode cX4_lotteryNumber 24 = .ok (.aload_n 0, 1) := by decide +kernel
theorem dX4_lotteryNumber_25 : decode cX4_lotteryNumber 25 = .ok (.getfield 43, 3) := by decide +kernel
theorem dX4_lotteryNumber_28 : decode cX4_lotteryNumber 28 = .ok (.iload_n 1, 1) := by decide +kernel
theorem dX4_lotteryNumber_29 : decode cX4_lotteryNumber 29 = .ok (.iaload, 1) := by decide +kernel
theorem dX4_lotteryNumber_30 : decode cX4_lotteryNumber 30 = .ok (.goto 4, 3) := by decide +kernel
theorem dX4_lotteryNumber_33 : decode cX4_lotteryNumber 33 = .ok (.iconst 0, 1) := by decide +kernel
theorem dX4_lotteryNumber_34 : decode cX4_lotteryNumber 34 = .ok (.ireturn, 1) := by decide +kernel
theorem dX4_putUp_0 : decode cX4_putUp 0 = .ok (.aload_n 0, 1) := by decide +kernel
theorem dX4_putUp_1 : decode cX4_putUp 1 = .ok (.iload_n 1, 1) := by decide +kernel
theorem dX4_putUp_2 : decode cX4_putUp 2 = .ok (.iload_n 2, 1) := by decide +kernel
theorem dX4_putUp_3 : decode cX4_putUp 3 = .ok (.invokevirtual 129, 3) := by decide +kernel
theorem dX4_putUp_6 : decode cX4_putUp 6 = .ok (.ifCond .ne 5, 3) := by decide +kernel
theorem dX4_putUp_9 : decode cX4_putUp 9 = .ok (.iconst 0, 1) := by decide +kernel
theorem dX4_putUp_10 : decode cX4_putUp 10 = .ok (.ireturn, 1) := by decide +kernel
theorem dX4_putUp_11 : decode cX4_putUp 11 = .ok (.aload_n 0, 1) := by decide +kernel
theorem dX4_putUp_12 : decode cX4_putUp 12 = .ok (.getfield 31, 3) := by decide +kernel
theorem dX4_putUp_15 : decode cX4_putUp 15 = .ok (.iload_n 1, 1) := by decide +kernel
theorem dX4_putUp_16 : decode cX4_putUp 16 = .ok (.iaload, 1) := by decide +kernel
theorem dX4_putUp_17 : decode cX4_putUp 17 = .ok (.iload_n 2, 1) := by decide +kernel
theorem dX4_putUp_18 : decode cX4_putUp 18 = .ok (.invokestatic 84, 3) := by decide +kernel
theorem dX4_putUp_21 : decode cX4_putUp 21 = .ok (.ifCond .ne 10, 3) := by decide +kernel
theorem dX4_putUp_24 : decode cX4_putUp 24 = .ok (.aload_n 0, 1) := by decide +kernel
theorem dX4_putUp_25 : decode cX4_putUp 25 = .ok (.iconst 2, 1) := by decide +kernel
theorem dX4_putUp_26 : decode cX4_putUp 26 = .ok (.putfield 68, 3) := by decide +kernel
theorem dX4_putUp_29 : decode cX4_putUp 29 = .ok (.iconst 0, 1) := by decide +kernel
theorem dX4_putUp_30 : decode cX4_putUp 30 = .ok (.ireturn, 1) := by decide +kernel
theorem dX4_putUp_31 : decode cX4_putUp 31 = .ok (.aload_n 0, 1) := by decide +kernel
theorem dX4_putUp_32 : decode cX4_putUp 32 = .ok (.getfield 40, 3) := by decide +kernel
theorem dX4_putUp_35 : decode cX4_putUp 35 = .ok (.iload_n 1, 1) := by decide +kernel
theorem dX4_putUp_36 : decode cX4_putUp 36 = .ok (.iaload, 1) := by decide +kernel
theorem dX4_putUp_37 : decode cX4_putUp 37 = .ok (.istore_n 3, 1) := by decide +kernel
theorem dX4_putUp_38 : decode cX4_putUp 38 = .ok (.aload_n 0, 1) := by decide +kernel
theorem dX4_putUp_39 : decode cX4_putUp 39 = .ok (.getfield 40, 3) := by decide +kernel
theorem dX4_putUp_42 : decode cX4_putUp 42 = .ok (.iload_n 1, 1) := by decide +kernel
theorem dX4_putUp_43 : decode cX4_putUp 43 = .ok (.iload_n 2, 1) := by decide +kernel
theorem dX4_putUp_44 : decode cX4_putUp 44 = .ok (.iastore, 1) := by decide +kernel
theorem dX4_putUp_45 : decode cX4_putUp 45 = .ok (.iload_n 3, 1) := by decide +kernel
theorem dX4_putUp_46 : decode cX4_putUp 46 = .ok (.ireturn, 1) := by decide +kernel
theorem dX4_withdraw_0 : decode cX4_withdraw 0 = .ok (.aload_n 0, 1) := by decide +kernel
theorem dX4_withdraw_1 : decode cX4_withdraw 1 = .ok (.aload_n 0, 1) := by decide +kernel
theorem dX4_withdraw_2 : decode cX4_withdraw 2 = .ok (.iload_n 1, 1) := by decide +kernel
theorem dX4_withdraw_3 : decode cX4_withdraw 3 = .ok (.invokevirtual 77, 3) := by decide +kernel
theorem dX4_withdraw_6 : decode cX4_withdraw 6 = .ok (.ifCond .eq 7, 3) := by decide +kernel
theorem dX4_withdraw_9 : decode cX4_withdraw 9 = .ok (.iconst 0, 1) := by decide +kernel
theorem dX4_withdraw_10 : decode cX4_withdraw 10 = .ok (.goto 4, 3) := by decide +kernel
theorem dX4_withdraw_13 : decode cX4_withdraw 13 = .ok (.iconst 1, 1) := by decide +kernel
theorem dX4_withdraw_14 : decode cX4_withdraw 14 = .ok (.putfield 68, 3) := by decide +kernel
theorem dX4_withdraw_17 : decode cX4_withdraw 17 = .ok (.aload_n 0, 1) := by decide +kernel
theorem dX4_withdraw_18 : decode cX4_withdraw 18 = .ok (.getfield 68, 3) := by decide +kernel
theorem dX4_withdraw_21 : decode cX4_withdraw 21 = .ok (.ifCond .le 5, 3) := by decide +kernel
theorem dX4_withdraw_24 : decode cX4_withdraw 24 = .ok (.iconst 0, 1) := by decide +kernel
theorem dX4_withdraw_25 : decode cX4_withdraw 25 = .ok (.ireturn, 1) := by decide +kernel
theorem dX4_withdraw_26 : decode cX4_withdraw 26 = .ok (.aload_n 0, 1) := by decide +kernel
theorem dX4_withdraw_27 : decode cX4_withdraw 27 = .ok (.getfield 40, 3) := by decide +kernel
theorem dX4_withdraw_30 : decode cX4_withdraw 30 = .ok (.iload_n 1, 1) := by decide +kernel
theorem dX4_withdraw_31 : decode cX4_withdraw 31 = .ok (.iaload, 1) := by decide +kernel
theorem dX4_withdraw_32 : decode cX4_withdraw 32 = .ok (.istore_n 2, 1) := by decide +kernel
theorem dX4_withdraw_33 : decode cX4_withdraw 33 = .ok (.aload_n 0, 1) := by decide +kernel
theorem dX4_withdraw_34 : decode cX4_withdraw 34 = .ok (.getfield 40, 3) := by decide +kernel
theorem dX4_withdraw_37 : decode cX4_withdraw 37 = .ok (.iload_n 1, 1) := by decide +kernel
theorem dX4_withdraw_38 : decode cX4_withdraw 38 = .ok (.iconst (-1), 1) := by decide +kernel
theorem dX4_withdraw_39 : decode cX4_withdraw 39 = .ok (.iastore, 1) := by decide +kernel
theorem dX4_withdraw_40 : decode cX4_withdraw 40 = .ok (.iload_n 2, 1) := by decide +kernel
theorem dX4_withdraw_41 : decode cX4_withdraw 41 = .ok (.ireturn, 1) := by decide +kernel
theorem dX4_placeUp_0 : decode cX4_placeUp 0 = .ok (.aload_n 0, 1) := by decide +kernel
theorem dX4_placeUp_1 : decode cX4_placeUp 1 = .ok (.aload_n 0, 1) := by decide +kernel
theorem dX4_placeUp_2 : decode cX4_placeUp 2 = .ok (.iload_n 1, 1) := by decide +kernel
theorem dX4_placeUp_3 : decode cX4_placeUp 3 = .ok (.invokevirtual 77, 3) := by decide +kernel
theorem dX4_placeUp_6 : decode cX4_placeUp 6 = .ok (.ifCond .eq 7, 3) := by decide +kernel
theorem dX4_placeUp_9 : decode cX4_placeUp 9 = .ok (.iconst 0, 1) := by decide +kernel
theorem dX4_placeUp_10 : decode cX4_placeUp 10 = .ok (.goto 4, 3) := by decide +kernel
theorem dX4_placeUp_13 : decode cX4_placeUp 13 = .ok (.iconst 1, 1) := by decide +kernel
theorem dX4_placeUp_14 : decode cX4_placeUp 14 = .ok (.putfield 68, 3) := by decide +kernel
theorem dX4_placeUp_17 : decode cX4_placeUp 17 = .ok (.aload_n 0, 1) := by decide +kernel
theorem dX4_placeUp_18 : decode cX4_placeUp 18 = .ok (.getfield 68, 3) := by decide +kernel
theorem dX4_placeUp_21 : decode cX4_placeUp 21 = .ok (.ifCond .ne 12, 3) := by decide +kernel
theorem dX4_placeUp_24 : decode cX4_placeUp 24 = .ok (.aload_n 0, 1) := by decide +kernel
theorem dX4_placeUp_25 : decode cX4_placeUp 25 = .ok (.getfield 40, 3) := by decide +kernel
theorem dX4_placeUp_28 : decode cX4_placeUp 28 = .ok (.iload_n 1, 1) := by decide +kernel
theorem dX4_placeUp_29 : decode cX4_placeUp 29 = .ok (.iaload, 1) := by decide +kernel
theorem dX4_placeUp_30 : decode cX4_placeUp 30 = .ok (.goto 4, 3) := by decide +kernel
theorem dX4_placeUp_33 : decode cX4_placeUp 33 = .ok (.iconst 0, 1) := by decide +kernel
theorem dX4_placeUp_34 : decode cX4_placeUp 34 = .ok (.ireturn, 1) := by decide +kernel
theorem dX4_participants_0 : decode cX4_participants 0 = .ok (.iconst 0, 1) := by decide +kernel
theorem dX4_participants_1 : decode cX4_participants 1 = .ok (.istore_n 1, 1) := by decide +kernel
theorem dX4_participants_2 : decode cX4_participants 2 = .ok (.iconst 0, 1) := by decide +kernel
theorem dX4_participants_3 : decode cX4_participants 3 = .ok (.istore_n 2, 1) := by decide +kernel
theorem dX4_participants_4 : decode cX4_participants 4 = .ok (.iload_n 2, 1) := by decide +kernel
theorem dX4_participants_5 : decode cX4_participants 5 = .ok (.aload_n 0, 1) := by decide +kernel
theorem dX4_participants_6 : decode cX4_participants 6 = .ok (.getfield 74, 3) := by decide +kernel
theorem dX4_participants_9 : decode cX4_participants 9 = .ok (.if_icmp .ge 29, 3) := by decide +kernel
theorem dX4_participants_12 : decode cX4_participants 12 = .ok (.iload_n 1, 1) := by decide +kernel
theorem dX4_participants_13 : decode cX4_participants 13 = .ok (.aload_n 0, 1) := by decide +kernel
theorem dX4_participants_14 : decode cX4_participants 14 = .ok (.getfield 40, 3) := by decide +kernel
theorem dX4_participants_17 : decode cX4_participants 17 = .ok (.iload_n 2, 1) := by decide +kernel
theorem dX4_participants_18 : decode cX4_participants 18 = .ok (.iaload, 1) := by decide +kernel
theorem dX4_participants_19 : decode cX4_participants 19 = .ok (.iconst (-1), 1) := by decide +kernel
theorem dX4_participants_20 : decode cX4_participants 20 = .ok (.if_icmp .ne 7, 3) := by decide +kernel
theorem dX4_participants_23 : decode cX4_participants 23 = .ok (.iconst 0, 1) := by decide +kernel
theorem dX4_participants_24 : decode cX4_participants 24 = .ok (.goto 6, 3) := by decide +kernel
theorem dX4_participants_27 : decode cX4_participants 27 = .ok (.iconst 1, 1) := by decide +kernel
theorem dX4_participants_28 : decode cX4_participants 28 = .ok (.iload_n 2, 1) := by decide +kernel
theorem dX4_participants_29 : decode cX4_participants 29 = .ok (.ishl, 1) := by decide +kernel
theorem dX4_participants_30 : decode cX4_participants 30 = .ok (.ior, 1) := by decide +kernel
theorem dX4_participants_31 : decode cX4_participants 31 = .ok (.istore_n 1, 1) := by decide +kernel
theorem dX4_participants_32 : decode cX4_participants 32 = .ok (.iinc 2 1, 3) := by decide +kernel
theorem dX4_participants_35 : decode cX4_participants 35 = .ok (.goto (-31), 3) := by decide +kernel
theorem dX4_participants_38 : decode cX4_participants 38 = .ok (.iload_n 1, 1) := by decide +kernel
theorem dX4_participants_39 : decode cX4_participants 39 = .ok (.ireturn, 1) := by decide +kernel
theorem dX4_pointer_0 : decode cX4_pointer 0 = .ok (.iconst 0, 1) := by decide +kernel
theorem dX4_pointer_1 : decode cX4_pointer 1 = .ok (.istore_n 3, 1) := by decide +kernel
theorem dX4_pointer_2 : decode cX4_pointer 2 = .ok (.iload_n 3, 1) := by decide +kernel
theorem dX4_pointer_3 : decode cX4_pointer 3 = .ok (.aload_n 0, 1) := by decide +kernel
theorem dX4_pointer_4 : decode cX4_pointer 4 = .ok (.getfield 34, 3) := by decide +kernel
theorem dX4_pointer_7 : decode cX4_pointer 7 = .ok (.iload_n 1, 1) := by decide +kernel
theorem dX4_pointer_8 : decode cX4_pointer 8 = .ok (.iaload, 1) := by decide +kernel
theorem dX4_pointer_9 : decode cX4_pointer 9 = .ok (.if_icmp .ge 109, 3) := by decide +kernel
theorem dX4_pointer_12 : decode cX4_pointer 12 = .ok (.aload_n 0, 1) := by decide +kernel
theorem dX4_pointer_13 : decode cX4_pointer 13 = .ok (.getfield 37, 3) := by decide +kernel
theorem dX4_pointer_16 : decode cX4_pointer 16 = .ok (.bipush 6, 2) := by decide +kernel
theorem dX4_pointer_18 : decode cX4_pointer 18 = .ok (.iload_n 1, 1) := by decide +kernel
theorem dX4_pointer_19 : decode cX4_pointer 19 = .ok (.imul, 1) := by decide +kernel
theorem dX4_pointer_20 : decode cX4_pointer 20 = .ok (.iload_n 3, 1) := by decide +kernel
theorem dX4_pointer_21 : decode cX4_pointer 21 = .ok (.iadd, 1) := by decide +kernel
theorem dX4_pointer_22 : decode cX4_pointer 22 = .ok (.iaload, 1) := by decide +kernel
theorem dX4_pointer_23 : decode cX4_pointer 23 = .ok (.istore 4, 2) := by decide +kernel
theorem dX4_pointer_25 : decode cX4_pointer 25 = .ok (.aload_n 0, 1) := by decide +kernel
theorem dX4_pointer_26 : decode cX4_pointer 26 = .ok (.iload_n 1, 1) := by decide +kernel
theorem dX4_pointer_27 : decode cX4_pointer 27 = .ok (.iload 4, 2) := by decide +kernel
theorem dX4_pointer_29 : decode cX4_pointer 29 = .ok (.aload_n 0, 1) := by decide +kernel
theorem dX4_pointer_30 : decode cX4_pointer 30 = .ok (.getfield 31, 3) := by decide +kernel
theorem dX4_pointer_33 : decode cX4_pointer 33 = .ok (.iload_n 1, 1) := by decide +kernel
theorem dX4_pointer_34 : decode cX4_pointer 34 = .ok (.iaload, 1) := by decide +kernel
theorem dX4_pointer_35 : decode cX4_pointer 35 = .ok (.iconst 1, 1) := by decide +kernel
theorem dX4_pointer_36 : decode cX4_pointer 36 = .ok (.aload_n 0, 1) := by decide +kernel
theorem dX4_pointer_37 : decode cX4_pointer 37 = .ok (.getfield 40, 3) := by decide +kernel
theorem dX4_pointer_40 : decode cX4_pointer 40 = .ok (.iload_n 1, 1) := by decide +kernel
theorem dX4_pointer_41 : decode cX4_pointer 41 = .ok (.iaload, 1) := by decide +kernel
theorem dX4_pointer_42 : decode cX4_pointer 42 = .ok (.ishl, 1) := by decide +kernel
theorem dX4_pointer_43 : decode cX4_pointer 43 = .ok (.iconst (-1), 1) := by decide +kernel
theorem dX4_pointer_44 : decode cX4_pointer 44 = .ok (.ixor, 1) := by decide +kernel
theorem dX4_pointer_45 : decode cX4_pointer 45 = .ok (.iand, 1) := by decide +kernel
theorem dX4_pointer_46 : decode cX4_pointer 46 = .ok (.invokevirtual 118, 3) := by decide +kernel
theorem dX4_pointer_49 : decode cX4_pointer 49 = .ok (.ifCond .ne 7, 3) := by decide +kernel
theorem dX4_pointer_52 : decode cX4_pointer 52 = .ok (.iconst 1, 1) := by decide +kernel
theorem dX4_pointer_53 : decode cX4_pointer 53 = .ok (.goto 4, 3) := by decide +kernel
theorem dX4_pointer_56 : decode cX4_pointer 56 = .ok (.iconst 0, 1) := by decide +kernel
theorem dX4_pointer_57 : decode cX4_pointer 57 = .ok (.istore 5, 2) := by decide +kernel
theorem dX4_pointer_59 : decode cX4_pointer 59 = .ok (.iconst 0, 1) := by decide +kernel
theorem dX4_pointer_60 : decode cX4_pointer 60 = .ok (.istore 6, 2) := by decide +kernel
theorem dX4_pointer_62 : decode cX4_pointer 62 = .ok (.iload 6, 2) := by decide +kernel
theorem dX4_pointer_64 : decode cX4_pointer 64 = .ok (.aload_n 0, 1) := by decide +kernel
theorem dX4_pointer_65 : decode cX4_pointer 65 = .ok (.getfield 74, 3) := by decide +kernel
theorem dX4_pointer_68 : decode cX4_pointer 68 = .ok (.if_icmp .ge 44, 3) := by decide +kernel
theorem dX4_pointer_71 : decode cX4_pointer 71 = .ok (.iload 5, 2) := by decide +kernel
theorem dX4_pointer_73 : decode cX4_pointer 73 = .ok (.ifCond .eq 39, 3) := by decide +kernel
theorem dX4_pointer_76 : decode cX4_pointer 76 = .ok (.iload 6, 2) := by decide +kernel
theorem dX4_pointer_78 : decode cX4_pointer 78 = .ok (.iload_n 1, 1) := by decide +kernel
theorem dX4_pointer_79 : decode cX4_pointer 79 = .ok (.if_icmp .eq 27, 3) := by decide +kernel
theorem dX4_pointer_82 : decode cX4_pointer 82 = .ok (.iload_n 2, 1) := by decide +kernel
theorem dX4_pointer_83 : decode cX4_pointer 83 = .ok (.iload 6, 2) := by decide +kernel
theorem dX4_pointer_85 : decode cX4_pointer 85 = .ok (.invokestatic 84, 3) := by decide +kernel
theorem dX4_pointer_88 : decode cX4_pointer 88 = .ok (.ifCond .eq 18, 3) := by decide +kernel
theorem dX4_pointer_91 : decode cX4_pointer 91 = .ok (.aload_n 0, 1) := by decide +kernel
theorem dX4_pointer_92 : decode cX4_pointer 92 = .ok (.getfield 40, 3) := by decide +kernel
theorem dX4_pointer_95 : decode cX4_pointer 95 = .ok (.iload 6, 2) := by decide +kernel
theorem dX4_pointer_97 : decode cX4_pointer 97 = .ok (.iaload, 1) := by decide +kernel
theorem dX4_pointer_98 : decode cX4_pointer 98 = .ok (.iload 4, 2) := by decide +kernel
theorem dX4_pointer_100 : decode cX4_pointer 100 = .ok (.if_icmp .ne 6, 3) := by decide +kernel
theorem dX4_pointer_103 : decode cX4_pointer 103 = .ok (.iload 6, 2) := by decide +kernel
theorem dX4_pointer_105 : decode cX4_pointer 105 = .ok (.ireturn, 1) := by decide +kernel
theorem dX4_pointer_106 : decode cX4_pointer 106 = .ok (.iinc 6 1, 3) := by decide +kernel
theorem dX4_pointer_109 : decode cX4_pointer 109 = .ok (.goto (-47), 3) := by decide +kernel
theorem dX4_pointer_112 : decode cX4_pointer 112 = .ok (.iinc 3 1, 3) := by decide +kernel
theorem dX4_pointer_115 : decode cX4_pointer 115 = .ok (.goto (-113), 3) := by decide +kernel
theorem dX4_pointer_118 : decode cX4_pointer 118 = .ok (.iload_n 1, 1) := by decide +kernel
theorem dX4_pointer_119 : decode cX4_pointer 119 = .ok (.ireturn, 1) := by decide +kernel
theorem dX4_pointsTo_0 : decode cX4_pointsTo 0 = .ok (.aload_n 0, 1) := by decide +kernel
theorem dX4_pointsTo_1 : decode cX4_pointsTo 1 = .ok (.aload_n 0, 1) := by decide +kernel
theorem dX4_pointsTo_2 : decode cX4_pointsTo 2 = .ok (.iload_n 1, 1) := by decide +kernel
theorem dX4_pointsTo_3 : decode cX4_pointsTo 3 = .ok (.invokevirtual 77, 3) := by decide +kernel
theorem dX4_pointsTo_6 : decode cX4_pointsTo 6 = .ok (.ifCond .ne 7, 3) := by decide +kernel
theorem dX4_pointsTo_9 : decode cX4_pointsTo 9 = .ok (.iconst 1, 1) := by decide +kernel
theorem dX4_pointsTo_10 : decode cX4_pointsTo 10 = .ok (.goto 18, 3) := by decide +kernel
theorem dX4_pointsTo_13 : decode cX4_pointsTo 13 = .ok (.aload_n 0, 1) := by decide +kernel
theorem dX4_pointsTo_14 : decode cX4_pointsTo 14 = .ok (.getfield 40, 3) := by decide +kernel
theorem dX4_pointsTo_17 : decode cX4_pointsTo 17 = .ok (.iload_n 1, 1) := by decide +kernel
theorem dX4_pointsTo_18 : decode cX4_pointsTo 18 = .ok (.iaload, 1) := by decide +kernel
theorem dX4_pointsTo_19 : decode cX4_pointsTo 19 = .ok (.iconst (-1), 1) := by decide +kernel
theorem dX4_pointsTo_20 : decode cX4_pointsTo 20 = .ok (.if_icmp .ne 7, 3) := by decide +kernel
theorem dX4_pointsTo_23 : decode cX4_pointsTo 23 = .ok (.iconst 2, 1) := by decide +kernel
theorem dX4_pointsTo_24 : decode cX4_pointsTo 24 = .ok (.goto 4, 3) := by decide +kernel
theorem dX4_pointsTo_27 : decode cX4_pointsTo 27 = .ok (.iconst 0, 1) := by decide +kernel
theorem dX4_pointsTo_28 : decode cX4_pointsTo 28 = .ok (.putfield 68, 3) := by decide +kernel
theorem dX4_pointsTo_31 : decode cX4_pointsTo 31 = .ok (.aload_n 0, 1) := by decide +kernel
theorem dX4_pointsTo_32 : decode cX4_pointsTo 32 = .ok (.getfield 68, 3) := by decide +kernel
theorem dX4_pointsTo_35 : decode cX4_pointsTo 35 = .ok (.ifCond .ne 15, 3) := by decide +kernel
theorem dX4_pointsTo_38 : decode cX4_pointsTo 38 = .ok (.aload_n 0, 1) := by decide +kernel
theorem dX4_pointsTo_39 : decode cX4_pointsTo 39 = .ok (.iload_n 1, 1) := by decide +kernel
theorem dX4_pointsTo_40 : decode cX4_pointsTo 40 = .ok (.aload_n 0, 1) := by decide +kernel
theorem dX4_pointsTo_41 : decode cX4_pointsTo 41 = .ok (.invokevirtual 156, 3) := by decide +kernel
theorem dX4_pointsTo_44 : decode cX4_pointsTo 44 = .ok (.invokevirtual 159, 3) := by decide +kernel
theorem dX4_pointsTo_47 : decode cX4_pointsTo 47 = .ok (.goto 4, 3) := by decide +kernel
theorem dX4_pointsTo_50 : decode cX4_pointsTo 50 = .ok (.iconst 0, 1) := by decide +kernel
theorem dX4_pointsTo_51 : decode cX4_pointsTo 51 = .ok (.ireturn, 1) := by decide +kernel
theorem dX4_isOnCircle_0 : decode cX4_isOnCircle 0 = .ok (.aload_n 0, 1) := by decide +kernel
theorem dX4_isOnCircle_1 : decode cX4_isOnCircle 1 = .ok (.getfield 58, 3) := by decide +kernel
theorem dX4_isOnCircle_4 : decode cX4_isOnCircle 4 = .ok (.iload_n 1, 1) := by decide +kernel
theorem dX4_isOnCircle_5 : decode cX4_isOnCircle 5 = .ok (.iaload, 1) := by decide +kernel
theorem dX4_isOnCircle_6 : decode cX4_isOnCircle 6 = .ok (.istore_n 2, 1) := by decide +kernel
theorem dX4_isOnCircle_7 : decode cX4_isOnCircle 7 = .ok (.iconst 0, 1) := by decide +kernel
theorem dX4_isOnCircle_8 : decode cX4_isOnCircle 8 = .ok (.istore_n 3, 1) := by decide +kernel
theorem dX4_isOnCircle_9 : decode cX4_isOnCircle 9 = .ok (.iload_n 3, 1) := by decide +kernel
theorem dX4_isOnCircle_10 : decode cX4_isOnCircle 10 = .ok (.bipush 16, 2) := by decide +kernel
theorem dX4_isOnCircle_12 : decode cX4_isOnCircle 12 = .ok (.if_icmp .ge 21, 3) := by decide +kernel
theorem dX4_isOnCircle_15 : decode cX4_isOnCircle 15 = .ok (.iload_n 2, 1) := by decide +kernel
theorem dX4_isOnCircle_16 : decode cX4_isOnCircle 16 = .ok (.iload_n 1, 1) := by decide +kernel
theorem dX4_isOnCircle_17 : decode cX4_isOnCircle 17 = .ok (.if_icmp .eq 16, 3) := by decide +kernel
theorem dX4_isOnCircle_20 : decode cX4_isOnCircle 20 = .ok (.aload_n 0, 1) := by decide +kernel
theorem dX4_isOnCircle_21 : decode cX4_isOnCircle 21 = .ok (.getfield 58, 3) := by decide +kernel
theorem dX4_isOnCircle_24 : decode cX4_isOnCircle 24 = .ok (.iload_n 2, 1) := by decide +kernel
theorem dX4_isOnCircle_25 : decode cX4_isOnCircle 25 = .ok (.iaload, 1) := by decide +kernel
theorem dX4_isOnCircle_26 : decode cX4_isOnCircle 26 = .ok (.istore_n 2, 1) := by decide +kernel
theorem dX4_isOnCircle_27 : decode cX4_isOnCircle 27 = .ok (.iinc 3 1, 3) := by decide +kernel
theorem dX4_isOnCircle_30 : decode cX4_isOnCircle 30 = .ok (.goto (-21), 3) := by decide +kernel
theorem dX4_isOnCircle_33 : decode cX4_isOnCircle 33 = .ok (.iload_n 2, 1) := by decide +kernel
theorem dX4_isOnCircle_34 : decode cX4_isOnCircle 34 = .ok (.iload_n 1, 1) := by decide +kernel
theorem dX4_isOnCircle_35 : decode cX4_isOnCircle 35 = .ok (.if_icmp .ne 7, 3) := by decide +kernel
theorem dX4_isOnCircle_38 : decode cX4_isOnCircle 38 = .ok (.iconst 1, 1) := by decide +kernel
theorem dX4_isOnCircle_39 : decode cX4_isOnCircle 39 = .ok (.goto 4, 3) := by decide +kernel
theorem dX4_isOnCircle_42 : decode cX4_isOnCircle 42 = .ok (.iconst 0, 1) := by decide +kernel
theorem dX4_isOnCircle_43 : decode cX4_isOnCircle 43 = .ok (.ireturn, 1) := by decide +kernel
theorem dX4_circles_0 : decode cX4_circles 0 = .ok (.iload_n 1, 1) := by decide +kernel
theorem dX4_circles_1 : decode cX4_circles 1 = .ok (.istore_n 2, 1) := by decide +kernel
theorem dX4_circles_2 : decode cX4_circles 2 = .ok (.iconst 0, 1) := by decide +kernel
theorem dX4_circles_3 : decode cX4_circles 3 = .ok (.istore_n 3, 1) := by decide +kernel
theorem dX4_circles_4 : decode cX4_circles 4 = .ok (.iload_n 3, 1) := by decide +kernel
theorem dX4_circles_5 : decode cX4_circles 5 = .ok (.aload_n 0, 1) := by decide +kernel
theorem dX4_circles_6 : decode cX4_circles 6 = .ok (.getfield 74, 3) := by decide +kernel
theorem dX4_circles_9 : decode cX4_circles 9 = .ok (.if_icmp .ge 33, 3) := by decide +kernel
theorem dX4_circles_12 : decode cX4_circles 12 = .ok (.aload_n 0, 1) := by decide +kernel
theorem dX4_circles_13 : decode cX4_circles 13 = .ok (.getfield 58, 3) := by decide +kernel
theorem dX4_circles_16 : decode cX4_circles 16 = .ok (.iload_n 3, 1) := by decide +kernel
theorem dX4_circles_17 : decode cX4_circles 17 = .ok (.iload_n 1, 1) := by decide +kernel
theorem dX4_circles_18 : decode cX4_circles 18 = .ok (.iload_n 3, 1) := by decide +kernel
theorem dX4_circles_19 : decode cX4_circles 19 = .ok (.invokestatic 84, 3) := by decide +kernel
theorem dX4_circles_22 : decode cX4_circles 22 = .ok (.ifCond .eq 12, 3) := by decide +kernel
theorem dX4_circles_25 : decode cX4_circles 25 = .ok (.aload_n 0, 1) := by decide +kernel
theorem dX4_circles_26 : decode cX4_circles 26 = .ok (.iload_n 3, 1) := by decide +kernel
theorem dX4_circles_27 : decode cX4_circles 27 = .ok (.iload_n 1, 1) := by decide +kernel
theorem dX4_circles_28 : decode cX4_circles 28 = .ok (.invokevirtual 159, 3) := by decide +kernel
theorem dX4_circles_31 : decode cX4_circles 31 = .ok (.goto 4, 3) := by decide +kernel
theorem dX4_circles_34 : decode cX4_circles 34 = .ok (.iload_n 3, 1) := by decide +kernel
theorem dX4_circles_35 : decode cX4_circles 35 = .ok (.iastore, 1) := by decide +kernel
theorem dX4_circles_36 : decode cX4_circles 36 = .ok (.iinc 3 1, 3) := by decide +kernel
theorem dX4_circles_39 : decode cX4_circles 39 = .ok (.goto (-35), 3) := by decide +kernel
theorem dX4_circles_42 : decode cX4_circles 42 = .ok (.iconst 0, 1) := by decide +kernel
theorem dX4_circles_43 : decode cX4_circles 43 = .ok (.istore_n 3, 1) := by decide +kernel
theorem dX4_circles_44 : decode cX4_circles 44 = .ok (.iload_n 3, 1) := by decide +kernel
theorem dX4_circles_45 : decode cX4_circles 45 = .ok (.aload_n 0, 1) := by decide +kernel
theorem dX4_circles_46 : decode cX4_circles 46 = .ok (.getfield 74, 3) := by decide +kernel
theorem dX4_circles_49 : decode cX4_circles 49 = .ok (.if_icmp .ge 45, 3) := by decide +kernel
theorem dX4_circles_52 : decode cX4_circles 52 = .ok (.iload_n 1, 1) := by decide +kernel
theorem dX4_circles_53 : decode cX4_circles 53 = .ok (.iload_n 3, 1) := by decide +kernel
theorem dX4_circles_54 : decode cX4_circles 54 = .ok (.invokestatic 84, 3) := by decide +kernel
theorem dX4_circles_57 : decode cX4_circles 57 = .ok (.ifCond .eq 31, 3) := by decide +kernel
theorem dX4_circles_60 : decode cX4_circles 60 = .ok (.aload_n 0, 1) := by decide +kernel
theorem dX4_circles_61 : decode cX4_circles 61 = .ok (.iload_n 3, 1) := by decide +kernel
theorem dX4_circles_62 : decode cX4_circles 62 = .ok (.invokevirtual 162, 3) := by decide +kernel
theorem dX4_circles_65 : decode cX4_circles 65 = .ok (.ifCond .eq 23, 3) := by decide +kernel
theorem dX4_circles_68 : decode cX4_circles 68 = .ok (.aload_n 0, 1) := by decide +kernel
theorem dX4_circles_69 : decode cX4_circles 69 = .ok (.getfield 61, 3) := by decide +kernel
theorem dX4_circles_72 : decode cX4_circles 72 = .ok (.iload_n 3, 1) := by decide +kernel
theorem dX4_circles_73 : decode cX4_circles 73 = .ok (.aload_n 0, 1) := by decide +kernel
theorem dX4_circles_74 : decode cX4_circles 74 = .ok (.getfield 58, 3) := by decide +kernel
theorem dX4_circles_77 : decode cX4_circles 77 = .ok (.iload_n 3, 1) := by decide +kernel
theorem dX4_circles_78 : decode cX4_circles 78 = .ok (.iaload, 1) := by decide +kernel
theorem dX4_circles_79 : decode cX4_circles 79 = .ok (.iastore, 1) := by decide +kernel
theorem dX4_circles_80 : decode cX4_circles 80 = .ok (.iload_n 2, 1) := by decide +kernel
theorem dX4_circles_81 : decode cX4_circles 81 = .ok (.iconst 1, 1) := by decide +kernel
theorem dX4_circles_82 : decode cX4_circles 82 = .ok (.iload_n 3, 1) := by decide +kernel
theorem dX4_circles_83 : decode cX4_circles 83 = .ok (.ishl, 1) := by decide +kernel
theorem dX4_circles_84 : decode cX4_circles 84 = .ok (.iconst (-1), 1) := by decide +kernel
theorem dX4_circles_85 : decode cX4_circles 85 = .ok (.ixor, 1) := by decide +kernel
theorem dX4_circles_86 : decode cX4_circles 86 = .ok (.iand, 1) := by decide +kernel
theorem dX4_circles_87 : decode cX4_circles 87 = .ok (.istore_n 2, 1) := by decide +kernel
theorem dX4_circles_88 : decode cX4_circles 88 = .ok (.iinc 3 1, 3) := by decide +kernel
theorem dX4_circles_91 : decode cX4_circles 91 = .ok (.goto (-47), 3) := by decide +kernel
theorem dX4_circles_94 : decode cX4_circles 94 = .ok (.iload_n 2, 1) := by decide +kernel
theorem dX4_circles_95 : decode cX4_circles 95 = .ok (.ireturn, 1) := by decide +kernel
theorem dX4_runExchange_0 : decode cX4_runExchange 0 = .ok (.aload_n 0, 1) := by decide +kernel
theorem dX4_runExchange_1 : decode cX4_runExchange 1 = .ok (.iconst 0, 1) := by decide +kernel
theorem dX4_runExchange_2 : decode cX4_runExchange 2 = .ok (.putfield 68, 3) := by decide +kernel
theorem dX4_runExchange_5 : decode cX4_runExchange 5 = .ok (.iconst 0, 1) := by decide +kernel
theorem dX4_runExchange_6 : decode cX4_runExchange 6 = .ok (.istore_n 1, 1) := by decide +kernel
theorem dX4_runExchange_7 : decode cX4_runExchange 7 = .ok (.iload_n 1, 1) := by decide +kernel
theorem dX4_runExchange_8 : decode cX4_runExchange 8 = .ok (.aload_n 0, 1) := by decide +kernel
theorem dX4_runExchange_9 : decode cX4_runExchange 9 = .ok (.getfield 74, 3) := by decide +kernel
theorem dX4_runExchange_12 : decode cX4_runExchange 12 = .ok (.if_icmp .ge 16, 3) := by decide +kernel
theorem dX4_runExchange_15 : decode cX4_runExchange 15 = .ok (.aload_n 0, 1) := by decide +kernel
theorem dX4_runExchange_16 : decode cX4_runExchange 16 = .ok (.getfield 61, 3) := by decide +kernel
theorem dX4_runExchange_19 : decode cX4_runExchange 19 = .ok (.iload_n 1, 1) := by decide +kernel
theorem dX4_runExchange_20 : decode cX4_runExchange 20 = .ok (.iload_n 1, 1) := by decide +kernel
theorem dX4_runExchange_21 : decode cX4_runExchange 21 = .ok (.iastore, 1) := by decide +kernel
theorem dX4_runExchange_22 : decode cX4_runExchange 22 = .ok (.iinc 1 1, 3) := by decide +kernel
theorem dX4_runExchange_25 : decode cX4_runExchange 25 = .ok (.goto (-18), 3) := by decide +kernel
theorem dX4_runExchange_28 : decode cX4_runExchange 28 = .ok (.aload_n 0, 1) := by decide +kernel
theorem dX4_runExchange_29 : decode cX4_runExchange 29 = .ok (.invokevirtual 156, 3) := by decide +kernel
theorem dX4_runExchange_32 : decode cX4_runExchange 32 = .ok (.istore_n 1, 1) := by decide +kernel
theorem dX4_runExchange_33 : decode cX4_runExchange 33 = .ok (.iconst 0, 1) := by decide +kernel
theorem dX4_runExchange_34 : decode cX4_runExchange 34 = .ok (.istore_n 2, 1) := by decide +kernel
theorem dX4_runExchange_35 : decode cX4_runExchange 35 = .ok (.iload_n 2, 1) := by decide +kernel
theorem dX4_runExchange_36 : decode cX4_runExchange 36 = .ok (.bipush 16, 2) := by decide +kernel
theorem dX4_runExchange_38 : decode cX4_runExchange 38 = .ok (.if_icmp .ge 19, 3) := by decide +kernel
theorem dX4_runExchange_41 : decode cX4_runExchange 41 = .ok (.iload_n 1, 1) := by decide +kernel
theorem dX4_runExchange_42 : decode cX4_runExchange 42 = .ok (.ifCond .eq 15, 3) := by decide +kernel
theorem dX4_runExchange_45 : decode cX4_runExchange 45 = .ok (.aload_n 0, 1) := by decide +kernel
theorem dX4_runExchange_46 : decode cX4_runExchange 46 = .ok (.iload_n 1, 1) := by decide +kernel
theorem dX4_runExchange_47 : decode cX4_runExchange 47 = .ok (.invokevirtual 165, 3) := by decide +kernel
theorem dX4_runExchange_50 : decode cX4_runExchange 50 = .ok (.istore_n 1, 1) := by decide +kernel
theorem dX4_runExchange_51 : decode cX4_runExchange 51 = .ok (.iinc 2 1, 3) := by decide +kernel
theorem dX4_runExchange_54 : decode cX4_runExchange 54 = .ok (.goto (-19), 3) := by decide +kernel
theorem dX4_runExchange_57 : decode cX4_runExchange 57 = .ok (.iconst 0, 1) := by decide +kernel
theorem dX4_runExchange_58 : decode cX4_runExchange 58 = .ok (.istore_n 2, 1) := by decide +kernel
theorem dX4_runExchange_59 : decode cX4_runExchange 59 = .ok (.iconst 0, 1) := by decide +kernel
theorem dX4_runExchange_60 : decode cX4_runExchange 60 = .ok (.istore_n 3, 1) := by decide +kernel
theorem dX4_runExchange_61 : decode cX4_runExchange 61 = .ok (.iload_n 3, 1) := by decide +kernel
theorem dX4_runExchange_62 : decode cX4_runExchange 62 = .ok (.aload_n 0, 1) := by decide +kernel
theorem dX4_runExchange_63 : decode cX4_runExchange 63 = .ok (.getfield 74, 3) := by decide +kernel
theorem dX4_runExchange_66 : decode cX4_runExchange 66 = .ok (.if_icmp .ge 40, 3) := by decide +kernel
theorem dX4_runExchange_69 : decode cX4_runExchange 69 = .ok (.aload_n 0, 1) := by decide +kernel
theorem dX4_runExchange_70 : decode cX4_runExchange 70 = .ok (.getfield 58, 3) := by decide +kernel
theorem dX4_runExchange_73 : decode cX4_runExchange 73 = .ok (.iload_n 3, 1) := by decide +kernel
theorem dX4_runExchange_74 : decode cX4_runExchange 74 = .ok (.aload_n 0, 1) := by decide +kernel
theorem dX4_runExchange_75 : decode cX4_runExchange 75 = .ok (.getfield 61, 3) := by decide +kernel
theorem dX4_runExchange_78 : decode cX4_runExchange 78 = .ok (.iload_n 3, 1) := by decide +kernel
theorem dX4_runExchange_79 : decode cX4_runExchange 79 = .ok (.iaload, 1) := by decide +kernel
theorem dX4_runExchange_80 : decode cX4_runExchange 80 = .ok (.iload_n 3, 1) := by decide +kernel
theorem dX4_runExchange_81 : decode cX4_runExchange 81 = .ok (.if_icmp .ne 7, 3) := by decide +kernel
theorem dX4_runExchange_84 : decode cX4_runExchange 84 = .ok (.iconst (-1), 1) := by decide +kernel
theorem dX4_runExchange_85 : decode cX4_runExchange 85 = .ok (.goto 14, 3) := by decide +kernel
theorem dX4_runExchange_88 : decode cX4_runExchange 88 = .ok (.aload_n 0, 1) := by decide +kernel
theorem dX4_runExchange_89 : decode cX4_runExchange 89 = .ok (.getfield 40, 3) := by decide +kernel
theorem dX4_runExchange_92 : decode cX4_runExchange 92 = .ok (.aload_n 0, 1) := by decide +kernel
theorem dX4_runExchange_93 : decode cX4_runExchange 93 = .ok (.getfield 61, 3) := by decide +kernel
theorem dX4_runExchange_96 : decode cX4_runExchange 96 = .ok (.iload_n 3, 1) := by decide +kernel
theorem dX4_runExchange_97 : decode cX4_runExchange 97 = .ok (.iaload, 1) := by decide +kernel
theorem dX4_runExchange_98 : decode cX4_runExchange 98 = .ok (.iaload, 1) := by decide +kernel
theorem dX4_runExchange_99 : decode cX4_runExchange 99 = .ok (.iastore, 1) := by decide +kernel
theorem dX4_runExchange_100 : decode cX4_runExchange 100 = .ok (.iinc 3 1, 3) := by decide +kernel
theorem dX4_runExchange_103 : decode cX4_runExchange 103 = .ok (.goto (-42), 3) := by decide +kernel
theorem dX4_runExchange_106 : decode cX4_runExchange 106 = .ok (.iconst 0, 1) := by decide +kernel
theorem dX4_runExchange_107 : decode cX4_runExchange 107 = .ok (.istore_n 3, 1) := by decide +kernel
theorem dX4_runExchange_108 : decode cX4_runExchange 108 = .ok (.iload_n 3, 1) := by decide +kernel
theorem dX4_runExchange_109 : decode cX4_runExchange 109 = .ok (.aload_n 0, 1) := by decide +kernel
theorem dX4_runExchange_110 : decode cX4_runExchange 110 = .ok (.getfield 74, 3) := by decide +kernel
theorem dX4_runExchange_113 : decode cX4_runExchange 113 = .ok (.if_icmp .ge 44, 3) := by decide +kernel
theorem dX4_runExchange_116 : decode cX4_runExchange 116 = .ok (.aload_n 0, 1) := by decide +kernel
theorem dX4_runExchange_117 : decode cX4_runExchange 117 = .ok (.getfield 58, 3) := by decide +kernel
theorem dX4_runExchange_120 : decode cX4_runExchange 120 = .ok (.iload_n 3, 1) := by decide +kernel
theorem dX4_runExchange_121 : decode cX4_runExchange 121 = .ok (.iaload, 1) := by decide +kernel
theorem dX4_runExchange_122 : decode cX4_runExchange 122 = .ok (.iconst (-1), 1) := by decide +kernel
theorem dX4_runExchange_123 : decode cX4_runExchange 123 = .ok (.if_icmp .eq 28, 3) := by decide +kernel
theorem dX4_runExchange_126 : decode cX4_runExchange 126 = .ok (.aload_n 0, 1) := by decide +kernel
theorem dX4_runExchange_127 : decode cX4_runExchange 127 = .ok (.iload_n 3, 1) := by decide +kernel
theorem dX4_runExchange_128 : decode cX4_runExchange 128 = .ok (.aload_n 0, 1) := by decide +kernel
theorem dX4_runExchange_129 : decode cX4_runExchange 129 = .ok (.getfield 40, 3) := by decide +kernel
theorem dX4_runExchange_132 : decode cX4_runExchange 132 = .ok (.iload_n 3, 1) := by decide +kernel
theorem dX4_runExchange_133 : decode cX4_runExchange 133 = .ok (.iaload, 1) := by decide +kernel
theorem dX4_runExchange_134 : decode cX4_runExchange 134 = .ok (.invokevirtual 135, 3) := by decide +kernel
theorem dX4_runExchange_137 : decode cX4_runExchange 137 = .ok (.aload_n 0, 1) := by decide +kernel
theorem dX4_runExchange_138 : decode cX4_runExchange 138 = .ok (.iload_n 3, 1) := by decide +kernel
theorem dX4_runExchange_139 : decode cX4_runExchange 139 = .ok (.aload_n 0, 1) := by decide +kernel
theorem dX4_runExchange_140 : decode cX4_runExchange 140 = .ok (.getfield 58, 3) := by decide +kernel
theorem dX4_runExchange_143 : decode cX4_runExchange 143 = .ok (.iload_n 3, 1) := by decide +kernel
theorem dX4_runExchange_144 : decode cX4_runExchange 144 = .ok (.iaload, 1) := by decide +kernel
theorem dX4_runExchange_145 : decode cX4_runExchange 145 = .ok (.invokevirtual 132, 3) := by decide +kernel
theorem dX4_runExchange_148 : decode cX4_runExchange 148 = .ok (.iinc 2 1, 3) := by decide +kernel
theorem dX4_runExchange_151 : decode cX4_runExchange 151 = .ok (.iinc 3 1, 3) := by decide +kernel
theorem dX4_runExchange_154 : decode cX4_runExchange 154 = .ok (.goto (-46), 3) := by decide +kernel
theorem dX4_runExchange_157 : decode cX4_runExchange 157 = .ok (.aload_n 0, 1) := by decide +kernel
theorem dX4_runExchange_158 : decode cX4_runExchange 158 = .ok (.invokevirtual 123, 3) := by decide +kernel
theorem dX4_runExchange_161 : decode cX4_runExchange 161 = .ok (.iload_n 2, 1) := by decide +kernel
theorem dX4_runExchange_162 : decode cX4_runExchange 162 = .ok (.ireturn, 1) := by decide +kernel
