theorem dX5_init_0 : decode cX5_init 0 = .ok (.aload_n 0, 1) := by decide +kernel
theorem dX5_init_1 : decode cX5_init 1 = .ok (.invokespecial 5, 3) := by decide +kernel
theorem dX5_init_4 : decode cX5_init 4 = .ok (.aload_n 0, 1) := by decide +kernel
theorem dX5_init_5 : decode cX5_init 5 = .ok (.sipush 681, 3) := by decide +kernel
theorem dX5_init_8 : decode cX5_init 8 = .ok (.newarray .int, 2) := by decide +kernel
theorem dX5_init_10 : decode cX5_init 10 = .ok (.putfield 11, 3) := by decide +kernel
theorem dX5_init_13 : decode cX5_init 13 = .ok (.aload_n 0, 1) := by decide +kernel
theorem dX5_init_14 : decode cX5_init 14 = .ok (.sipush 681, 3) := by decide +kernel
theorem dX5_init_17 : decode cX5_init 17 = .ok (.newarray .int, 2) := by decide +kernel
theorem dX5_init_19 : decode cX5_init 19 = .ok (.putfield 15, 3) := by decide +kernel
theorem dX5_init_22 : decode cX5_init 22 = .ok (.aload_n 0, 1) := by decide +kernel
theorem dX5_init_23 : decode cX5_init 23 = .ok (.sipush 681, 3) := by decide +kernel
theorem dX5_init_26 : decode cX5_init 26 = .ok (.newarray .int, 2) := by decide +kernel
theorem dX5_init_28 : decode cX5_init 28 = .ok (.putfield 18, 3) := by decide +kernel
theorem dX5_init_31 : decode cX5_init 31 = .ok (.aload_n 0, 1) := by decide +kernel
theorem dX5_init_32 : decode cX5_init 32 = .ok (.sipush 5448, 3) := by decide +kernel
theorem dX5_init_35 : decode cX5_init 35 = .ok (.newarray .int, 2) := by decide +kernel
theorem dX5_init_37 : decode cX5_init 37 = .ok (.putfield 21, 3) := by decide +kernel
theorem dX5_init_40 : decode cX5_init 40 = .ok (.aload_n 0, 1) := by decide +kernel
theorem dX5_init_41 : decode cX5_init 41 = .ok (.iconst 0, 1) := by decide +kernel
theorem dX5_init_42 : decode cX5_init 42 = .ok (.putfield 24, 3) := by decide +kernel
theorem dX5_init_45 : decode cX5_init 45 = .ok (.aload_n 0, 1) := by decide +kernel
theorem dX5_init_46 : decode cX5_init 46 = .ok (.iconst 0, 1) := by decide +kernel
theorem dX5_init_47 : decode cX5_init 47 = .ok (.putfield 28, 3) := by decide +kernel
theorem dX5_init_50 : decode cX5_init 50 = .ok (.aload_n 0, 1) := by decide +kernel
theorem dX5_init_51 : decode cX5_init 51 = .ok (.bipush 60, 2) := by decide +kernel
theorem dX5_init_53 : decode cX5_init 53 = .ok (.newarray .int, 2) := by decide +kernel
theorem dX5_init_55 : decode cX5_init 55 = .ok (.putfield 32, 3) := by decide +kernel
theorem dX5_init_58 : decode cX5_init 58 = .ok (.aload_n 0, 1) := by decide +kernel
theorem dX5_init_59 : decode cX5_init 59 = .ok (.iconst 3, 1) := by decide +kernel
theorem dX5_init_60 : decode cX5_init 60 = .ok (.newarray .int, 2) := by decide +kernel
theorem dX5_init_62 : decode cX5_init 62 = .ok (.putfield 35, 3) := by decide +kernel
theorem dX5_init_65 : decode cX5_init 65 = .ok (.aload_n 0, 1) := by decide +kernel
theorem dX5_init_66 : decode cX5_init 66 = .ok (.iconst 0, 1) := by decide +kernel
theorem dX5_init_67 : decode cX5_init 67 = .ok (.putfield 38, 3) := by decide +kernel
theorem dX5_init_70 : decode cX5_init 70 = .ok (.aload_n 0, 1) := by decide +kernel
theorem dX5_init_71 : decode cX5_init 71 = .ok (.iconst 0, 1) := by decide +kernel
theorem dX5_init_72 : decode cX5_init 72 = .ok (.putfield 41, 3) := by decide +kernel
theorem dX5_init_75 : decode cX5_init 75 = .ok (.aload_n 0, 1) := by decide +kernel
theorem dX5_init_76 : decode cX5_init 76 = .ok (.iconst 0, 1) := by decide +kernel
theorem dX5_init_77 : decode cX5_init 77 = .ok (.putfield 44, 3) := by decide +kernel
theorem dX5_init_80 : decode cX5_init 80 = .ok (.aload_n 0, 1) := by decide +kernel
theorem dX5_init_81 : decode cX5_init 81 = .ok (.getfield 11, 3) := by decide +kernel
theorem dX5_init_84 : decode cX5_init 84 = .ok (.iconst 5, 1) := by decide +kernel
theorem dX5_init_85 : decode cX5_init 85 = .ok (.bipush 14, 2) := by decide +kernel
theorem dX5_init_87 : decode cX5_init 87 = .ok (.iastore, 1) := by decide +kernel
theorem dX5_init_88 : decode cX5_init 88 = .ok (.aload_n 0, 1) := by decide +kernel
theorem dX5_init_89 : decode cX5_init 89 = .ok (.getfield 11, 3) := by decide +kernel
theorem dX5_init_92 : decode cX5_init 92 = .ok (.bipush 6, 2) := by decide +kernel
theorem dX5_init_94 : decode cX5_init 94 = .ok (.iconst 5, 1) := by decide +kernel
theorem dX5_init_95 : decode cX5_init 95 = .ok (.iastore, 1) := by decide +kernel
theorem dX5_init_96 : decode cX5_init 96 = .ok (.aload_n 0, 1) := by decide +kernel
theorem dX5_init_97 : decode cX5_init 97 = .ok (.getfield 11, 3) := by decide +kernel
theorem dX5_init_100 : decode cX5_init 100 = .ok (.bipush 7, 2) := by decide +kernel
theorem dX5_init_102 : decode cX5_init 102 = .ok (.bipush 25, 2) := by decide +kernel
theorem dX5_init_104 : decode cX5_init 104 = .ok (.iastore, 1) := by decide +kernel
theorem dX5_init_105 : decode cX5_init 105 = .ok (.aload_n 0, 1) := by decide +kernel
theorem dX5_init_106 : decode cX5_init 106 = .ok (.getfield 11, 3) := by decide +kernel
theorem dX5_init_109 : decode cX5_init 109 = .ok (.bipush 8, 2) := by decide +kernel
theorem dX5_init_111 : decode cX5_init 111 = .ok (.sipush 500, 3) := by decide +kernel
theorem dX5_init_114 : decode cX5_init 114 = .ok (.iastore, 1) := by decide +kernel
theorem dX5_init_115 : decode cX5_init 115 = .ok (.aload_n 0, 1) := by decide +kernel
theorem dX5_init_116 : decode cX5_init 116 = .ok (.getfield 11, 3) := by decide +kernel
theorem dX5_init_119 : decode cX5_init 119 = .ok (.bipush 9, 2) := by decide +kernel
theorem dX5_init_121 : decode cX5_init 121 = .ok (.sipush 1000, 3) := by decide +kernel
theorem dX5_init_124 : decode cX5_init 124 = .ok (.iastore, 1) := by decide +kernel
theorem dX5_init_125 : decode cX5_init 125 = .ok (.aload_n 0, 1) := by decide +kernel
theorem dX5_init_126 : decode cX5_init 126 = .ok (.getfield 11, 3) := by decide +kernel
theorem dX5_init_129 : decode cX5_init 129 = .ok (.bipush 10, 2) := by decide +kernel
theorem dX5_init_131 : decode cX5_init 131 = .ok (.bipush 7, 2) := by decide +kernel
theorem dX5_init_133 : decode cX5_init 133 = .ok (.iastore, 1) := by decide +kernel
theorem dX5_init_134 : decode cX5_init 134 = .ok (.aload_n 0, 1) := by decide +kernel
theorem dX5_init_135 : decode cX5_init 135 = .ok (.getfield 11, 3) := by decide +kernel
theorem dX5_init_138 : decode cX5_init 138 = .ok (.bipush 11, 2) := by decide +kernel
theorem dX5_init_140 : decode cX5_init 140 = .ok (.sipush 3000, 3) := by decide +kernel
theorem dX5_init_143 : decode cX5_init 143 = .ok (.iastore, 1) := by decide +kernel
theorem dX5_init_144 : decode cX5_init 144 = .ok (.aload_n 0, 1) := by decide +kernel
theorem dX5_init_145 : decode cX5_init 145 = .ok (.getfield 11, 3) := by decide +kernel
theorem dX5_init_148 : decode cX5_init 148 = .ok (.bipush 12, 2) := by decide +kernel
theorem dX5_init_150 : decode cX5_init 150 = .ok (.bipush 60, 2) := by decide +kernel
theorem dX5_init_152 : decode cX5_init 152 = .ok (.iastore, 1) := by decide +kernel
theorem dX5_init_153 : decode cX5_init 153 = .ok (.return_, 1) := by decide +kernel
theorem dX5_in_0 : decode cX5_in 0 = .ok (.iload_n 0, 1) := by decide +kernel
theorem dX5_in_1 : decode cX5_in 1 = .ok (.iload_n 1, 1) := by decide +kernel
theorem dX5_in_2 : decode cX5_in 2 = .ok (.if_icmp .lt 12, 3) := by decide +kernel
theorem dX5_in_5 : decode cX5_in 5 = .ok (.iload_n 0, 1) := by decide +kernel
theorem dX5_in_6 : decode cX5_in 6 = .ok (.iload_n 2, 1) := by decide +kernel
theorem dX5_in_7 : decode cX5_in 7 = .ok (.if_icmp .gt 7, 3) := by decide +kernel
theorem dX5_in_10 : decode cX5_in 10 = .ok (.iconst 1, 1) := by decide +kernel
theorem dX5_in_11 : decode cX5_in 11 = .ok (.goto 4, 3) := by decide +kernel
theorem dX5_in_14 : decode cX5_in 14 = .ok (.iconst 0, 1) := by decide +kernel
theorem dX5_in_15 : decode cX5_in 15 = .ok (.ireturn, 1) := by decide +kernel
theorem dX5_copies_0 : decode cX5_copies 0 = .ok (.iconst 0, 1) := by decide +kernel
theorem dX5_copies_1 : decode cX5_copies 1 = .ok (.istore 4, 2) := by decide +kernel
theorem dX5_copies_3 : decode cX5_copies 3 = .ok (.iload 4, 2) := by decide +kernel
theorem dX5_copies_5 : decode cX5_copies 5 = .ok (.sipush 681, 3) := by decide +kernel
theorem dX5_copies_8 : decode cX5_copies 8 = .ok (.if_icmp .ge 21, 3) := by decide +kernel
theorem dX5_copies_11 : decode cX5_copies 11 = .ok (.aload_n 2, 1) := by decide +kernel
theorem dX5_copies_12 : decode cX5_copies 12 = .ok (.iload_n 3, 1) := by decide +kernel
theorem dX5_copies_13 : decode cX5_copies 13 = .ok (.iload 4, 2) := by decide +kernel
theorem dX5_copies_15 : decode cX5_copies 15 = .ok (.iadd, 1) := by decide +kernel
theorem dX5_copies_16 : decode cX5_copies 16 = .ok (.aload_n 0, 1) := by decide +kernel
theorem dX5_copies_17 : decode cX5_copies 17 = .ok (.iload_n 1, 1) := by decide +kernel
theorem dX5_copies_18 : decode cX5_copies 18 = .ok (.iload 4, 2) := by decide +kernel
theorem dX5_copies_20 : decode cX5_copies 20 = .ok (.iadd, 1) := by decide +kernel
theorem dX5_copies_21 : decode cX5_copies 21 = .ok (.iaload, 1) := by decide +kernel
theorem dX5_copies_22 : decode cX5_copies 22 = .ok (.iastore, 1) := by decide +kernel
theorem dX5_copies_23 : decode cX5_copies 23 = .ok (.iinc 4 1, 3) := by decide +kernel
theorem dX5_copies_26 : decode cX5_copies 26 = .ok (.goto (-23), 3) := by decide +kernel
theorem dX5_copies_29 : decode cX5_copies 29 = .ok (.return_, 1) := by decide +kernel
theorem dX5_keeps_0 : decode cX5_keeps 0 = .ok (.aload_n 0, 1) := by decide +kernel
theorem dX5_keeps_1 : decode cX5_keeps 1 = .ok (.getfield 11, 3) := by decide +kernel
theorem dX5_keeps_4 : decode cX5_keeps 4 = .ok (.iconst 0, 1) := by decide +kernel
theorem dX5_keeps_5 : decode cX5_keeps 5 = .ok (.aload_n 0, 1) := by decide +kernel
theorem dX5_keeps_6 : decode cX5_keeps 6 = .ok (.getfield 15, 3) := by decide +kernel
theorem dX5_keeps_9 : decode cX5_keeps 9 = .ok (.iconst 0, 1) := by decide +kernel
theorem dX5_keeps_10 : decode cX5_keeps 10 = .ok (.invokestatic 47, 3) := by decide +kernel
theorem dX5_keeps_13 : decode cX5_keeps 13 = .ok (.return_, 1) := by decide +kernel
theorem dX5_made_0 : decode cX5_made 0 = .ok (.iload_n 1, 1) := by decide +kernel
theorem dX5_made_1 : decode cX5_made 1 = .ok (.ifCond .ge 5, 3) := by decide +kernel
theorem dX5_made_4 : decode cX5_made 4 = .ok (.iload_n 1, 1) := by decide +kernel
theorem dX5_made_5 : decode cX5_made 5 = .ok (.ireturn, 1) := by decide +kernel
theorem dX5_made_6 : decode cX5_made 6 = .ok (.aload_n 0, 1) := by decide +kernel
theorem dX5_made_7 : decode cX5_made 7 = .ok (.getfield 24, 3) := by decide +kernel
theorem dX5_made_10 : decode cX5_made 10 = .ok (.bipush 8, 2) := by decide +kernel
theorem dX5_made_12 : decode cX5_made 12 = .ok (.if_icmp .ne 50, 3) := by decide +kernel
theorem dX5_made_15 : decode cX5_made 15 = .ok (.iconst 1, 1) := by decide +kernel
theorem dX5_made_16 : decode cX5_made 16 = .ok (.istore_n 2, 1) := by decide +kernel
theorem dX5_made_17 : decode cX5_made 17 = .ok (.iload_n 2, 1) := by decide +kernel
theorem dX5_made_18 : decode cX5_made 18 = .ok (.bipush 8, 2) := by decide +kernel
theorem dX5_made_20 : decode cX5_made 20 = .ok (.if_icmp .ge 32, 3) := by decide +kernel
theorem dX5_made_23 : decode cX5_made 23 = .ok (.aload_n 0, 1) := by decide +kernel
theorem dX5_made_24 : decode cX5_made 24 = .ok (.getfield 21, 3) := by decide +kernel
theorem dX5_made_27 : decode cX5_made 27 = .ok (.sipush 681, 3) := by decide +kernel
theorem dX5_made_30 : decode cX5_made 30 = .ok (.iload_n 2, 1) := by decide +kernel
theorem dX5_made_31 : decode cX5_made 31 = .ok (.imul, 1) := by decide +kernel
theorem dX5_made_32 : decode cX5_made 32 = .ok (.aload_n 0, 1) := by decide +kernel
theorem dX5_made_33 : decode cX5_made 33 = .ok (.getfield 21, 3) := by decide +kernel
theorem dX5_made_36 : decode cX5_made 36 = .ok (.sipush 681, 3) := by decide +kernel
theorem dX5_made_39 : decode cX5_made 39 = .ok (.iload_n 2, 1) := by decide +kernel
theorem dX5_made_40 : decode cX5_made 40 = .ok (.iconst 1, 1) := by decide +kernel
theorem dX5_made_41 : decode cX5_made 41 = .ok (.isub, 1) := by decide +kernel
theorem dX5_made_42 : decode cX5_made 42 = .ok (.imul, 1) := by decide +kernel
theorem dX5_made_43 : decode cX5_made 43 = .ok (.invokestatic 47, 3) := by decide +kernel
theorem dX5_made_46 : decode cX5_made 46 = .ok (.iinc 2 1, 3) := by decide +kernel
theorem dX5_made_49 : decode cX5_made 49 = .ok (.goto (-32), 3) := by decide +kernel
theorem dX5_made_52 : decode cX5_made 52 = .ok (.aload_n 0, 1) := by decide +kernel
theorem dX5_made_53 : decode cX5_made 53 = .ok (.dup, 1) := by decide +kernel
theorem dX5_made_54 : decode cX5_made 54 = .ok (.getfield 24, 3) := by decide +kernel
theorem dX5_made_57 : decode cX5_made 57 = .ok (.iconst 1, 1) := by decide +kernel
theorem dX5_made_58 : decode cX5_made 58 = .ok (.isub, 1) := by decide +kernel
theorem dX5_made_59 : decode cX5_made 59 = .ok (.putfield 24, 3) := by decide +kernel
theorem dX5_made_62 : decode cX5_made 62 = .ok (.aload_n 0, 1) := by decide +kernel
theorem dX5_made_63 : decode cX5_made 63 = .ok (.getfield 15, 3) := by decide +kernel
theorem dX5_made_66 : decode cX5_made 66 = .ok (.iconst 0, 1) := by decide +kernel
theorem dX5_made_67 : decode cX5_made 67 = .ok (.aload_n 0, 1) := by decide +kernel
theorem dX5_made_68 : decode cX5_made 68 = .ok (.getfield 21, 3) := by decide +kernel
theorem dX5_made_71 : decode cX5_made 71 = .ok (.sipush 681, 3) := by decide +kernel
theorem dX5_made_74 : decode cX5_made 74 = .ok (.aload_n 0, 1) := by decide +kernel
theorem dX5_made_75 : decode cX5_made 75 = .ok (.getfield 24, 3) := by decide +kernel
theorem dX5_made_78 : decode cX5_made 78 = .ok (.imul, 1) := by decide +kernel
theorem dX5_made_79 : decode cX5_made 79 = .ok (.invokestatic 47, 3) := by decide +kernel
theorem dX5_made_82 : decode cX5_made 82 = .ok (.aload_n 0, 1) := by decide +kernel
theorem dX5_made_83 : decode cX5_made 83 = .ok (.dup, 1) := by decide +kernel
theorem dX5_made_84 : decode cX5_made 84 = .ok (.getfield 24, 3) := by decide +kernel
theorem dX5_made_87 : decode cX5_made 87 = .ok (.iconst 1, 1) := by decide +kernel
theorem dX5_made_88 : decode cX5_made 88 = .ok (.iadd, 1) := by decide +kernel
theorem dX5_made_89 : decode cX5_made 89 = .ok (.putfield 24, 3) := by decide +kernel
theorem dX5_made_92 : decode cX5_made 92 = .ok (.iload_n 1, 1) := by decide +kernel
theorem dX5_made_93 : decode cX5_made 93 = .ok (.ireturn, 1) := by decide +kernel
theorem dX5_isCopy_0 : decode cX5_isCopy 0 = .ok (.iload_n 1, 1) := by decide +kernel
theorem dX5_isCopy_1 : decode cX5_isCopy 1 = .ok (.iconst 0, 1) := by decide +kernel
theorem dX5_isCopy_2 : decode cX5_isCopy 2 = .ok (.aload_n 0, 1) := by decide +kernel
theorem dX5_isCopy_3 : decode cX5_isCopy 3 = .ok (.getfield 11, 3) := by decide +kernel
theorem dX5_isCopy_6 : decode cX5_isCopy 6 = .ok (.iconst 1, 1) := by decide +kernel
theorem dX5_isCopy_7 : decode cX5_isCopy 7 = .ok (.iaload, 1) := by decide +kernel
theorem dX5_isCopy_8 : decode cX5_isCopy 8 = .ok (.iconst 1, 1) := by decide +kernel
theorem dX5_isCopy_9 : decode cX5_isCopy 9 = .ok (.isub, 1) := by decide +kernel
theorem dX5_isCopy_10 : decode cX5_isCopy 10 = .ok (.invokestatic 51, 3) := by decide +kernel
theorem dX5_isCopy_13 : decode cX5_isCopy 13 = .ok (.ireturn, 1) := by decide +kernel
theorem dX5_isPatron_0 : decode cX5_isPatron 0 = .ok (.iload_n 1, 1) := by decide +kernel
theorem dX5_isPatron_1 : decode cX5_isPatron 1 = .ok (.iconst 0, 1) := by decide +kernel
theorem dX5_isPatron_2 : decode cX5_isPatron 2 = .ok (.aload_n 0, 1) := by decide +kernel
theorem dX5_isPatron_3 : decode cX5_isPatron 3 = .ok (.getfield 11, 3) := by decide +kernel
theorem dX5_isPatron_6 : decode cX5_isPatron 6 = .ok (.iconst 2, 1) := by decide +kernel
theorem dX5_isPatron_7 : decode cX5_isPatron 7 = .ok (.iaload, 1) := by decide +kernel
theorem dX5_isPatron_8 : decode cX5_isPatron 8 = .ok (.iconst 1, 1) := by decide +kernel
theorem dX5_isPatron_9 : decode cX5_isPatron 9 = .ok (.isub, 1) := by decide +kernel
theorem dX5_isPatron_10 : decode cX5_isPatron 10 = .ok (.invokestatic 51, 3) := by decide +kernel
theorem dX5_isPatron_13 : decode cX5_isPatron 13 = .ok (.ireturn, 1) := by decide +kernel
theorem dX5_isTitle_0 : decode cX5_isTitle 0 = .ok (.iload_n 0, 1) := by decide +kernel
theorem dX5_isTitle_1 : decode cX5_isTitle 1 = .ok (.iconst 0, 1) := by decide +kernel
theorem dX5_isTitle_2 : decode cX5_isTitle 2 = .ok (.iconst 5, 1) := by decide +kernel
theorem dX5_isTitle_3 : decode cX5_isTitle 3 = .ok (.invokestatic 51, 3) := by decide +kernel
theorem dX5_isTitle_6 : decode cX5_isTitle 6 = .ok (.ireturn, 1) := by decide +kernel
theorem dX5_isBranch_0 : decode cX5_isBranch 0 = .ok (.iload_n 0, 1) := by decide +kernel
theorem dX5_isBranch_1 : decode cX5_isBranch 1 = .ok (.iconst 0, 1) := by decide +kernel
theorem dX5_isBranch_2 : decode cX5_isBranch 2 = .ok (.iconst 3, 1) := by decide +kernel
theorem dX5_isBranch_3 : decode cX5_isBranch 3 = .ok (.invokestatic 51, 3) := by decide +kernel
theorem dX5_isBranch_6 : decode cX5_isBranch 6 = .ok (.ireturn, 1) := by decide +kernel
theorem dX5_of_0 : decode cX5_of 0 = .ok (.aload_n 0, 1) := by decide +kernel
theorem dX5_of_1 : decode cX5_of 1 = .ok (.getfield 11, 3) := by decide +kernel
theorem dX5_of_4 : decode cX5_of 4 = .ok (.bipush 13, 2) := by decide +kernel
theorem dX5_of_6 : decode cX5_of 6 = .ok (.bipush 12, 2) := by decide +kernel
theorem dX5_of_8 : decode cX5_of 8 = .ok (.iload_n 1, 1) := by decide +kernel
theorem dX5_of_9 : decode cX5_of 9 = .ok (.imul, 1) := by decide +kernel
theorem dX5_of_10 : decode cX5_of 10 = .ok (.iadd, 1) := by decide +kernel
theorem dX5_of_11 : decode cX5_of 11 = .ok (.iload_n 2, 1) := by decide +kernel
theorem dX5_of_12 : decode cX5_of 12 = .ok (.iadd, 1) := by decide +kernel
theorem dX5_of_13 : decode cX5_of 13 = .ok (.iaload, 1) := by decide +kernel
theorem dX5_of_14 : decode cX5_of 14 = .ok (.ireturn, 1) := by decide +kernel
theorem dX5_puts_0 : decode cX5_puts 0 = .ok (.aload_n 0, 1) := by decide +kernel
theorem dX5_puts_1 : decode cX5_puts 1 = .ok (.getfield 11, 3) := by decide +kernel
theorem dX5_puts_4 : decode cX5_puts 4 = .ok (.bipush 13, 2) := by decide +kernel
theorem dX5_puts_6 : decode cX5_puts 6 = .ok (.bipush 12, 2) := by decide +kernel
theorem dX5_puts_8 : decode cX5_puts 8 = .ok (.iload_n 1, 1) := by decide +kernel
theorem dX5_puts_9 : decode cX5_puts 9 = .ok (.imul, 1) := by decide +kernel
theorem dX5_puts_10 : decode cX5_puts 10 = .ok (.iadd, 1) := by decide +kernel
theorem dX5_puts_11 : decode cX5_puts 11 = .ok (.iload_n 2, 1) := by decide +kernel
theorem dX5_puts_12 : decode cX5_puts 12 = .ok (.iadd, 1) := by decide +kernel
theorem dX5_puts_13 : decode cX5_puts 13 = .ok (.iload_n 3, 1) := by decide +kernel
theorem dX5_puts_14 : decode cX5_puts 14 = .ok (.iastore, 1) := by decide +kernel
theorem dX5_puts_15 : decode cX5_puts 15 = .ok (.return_, 1) := by decide +kernel
theorem dX5_turns_0 : decode cX5_turns 0 = .ok (.aload_n 0, 1) := by decide +kernel
theorem dX5_turns_1 : decode cX5_turns 1 = .ok (.iload_n 1, 1) := by decide +kernel
theorem dX5_turns_2 : decode cX5_turns 2 = .ok (.iconst 3, 1) := by decide +kernel
theorem dX5_turns_3 : decode cX5_turns 3 = .ok (.iload_n 2, 1) := by decide +kernel
theorem dX5_turns_4 : decode cX5_turns 4 = .ok (.invokevirtual 55, 3) := by decide +kernel
theorem dX5_turns_7 : decode cX5_turns 7 = .ok (.aload_n 0, 1) := by decide +kernel
theorem dX5_turns_8 : decode cX5_turns 8 = .ok (.iload_n 1, 1) := by decide +kernel
theorem dX5_turns_9 : decode cX5_turns 9 = .ok (.iconst 4, 1) := by decide +kernel
theorem dX5_turns_10 : decode cX5_turns 10 = .ok (.iload_n 3, 1) := by decide +kernel
theorem dX5_turns_11 : decode cX5_turns 11 = .ok (.invokevirtual 55, 3) := by decide +kernel
theorem dX5_turns_14 : decode cX5_turns 14 = .ok (.aload_n 0, 1) := by decide +kernel
theorem dX5_turns_15 : decode cX5_turns 15 = .ok (.iload_n 1, 1) := by decide +kernel
theorem dX5_turns_16 : decode cX5_turns 16 = .ok (.iconst 5, 1) := by decide +kernel
theorem dX5_turns_17 : decode cX5_turns 17 = .ok (.iload 4, 2) := by decide +kernel
theorem dX5_turns_19 : decode cX5_turns 19 = .ok (.invokevirtual 55, 3) := by decide +kernel
theorem dX5_turns_22 : decode cX5_turns 22 = .ok (.return_, 1) := by decide +kernel
theorem dX5_hold_0 : decode cX5_hold 0 = .ok (.aload_n 0, 1) := by decide +kernel
theorem dX5_hold_1 : decode cX5_hold 1 = .ok (.getfield 11, 3) := by decide +kernel
theorem dX5_hold_4 : decode cX5_hold 4 = .ok (.sipush 285, 3) := by decide +kernel
theorem dX5_hold_7 : decode cX5_hold 7 = .ok (.iconst 4, 1) := by decide +kernel
theorem dX5_hold_8 : decode cX5_hold 8 = .ok (.iload_n 1, 1) := by decide +kernel
theorem dX5_hold_9 : decode cX5_hold 9 = .ok (.imul, 1) := by decide +kernel
theorem dX5_hold_10 : decode cX5_hold 10 = .ok (.iadd, 1) := by decide +kernel
theorem dX5_hold_11 : decode cX5_hold 11 = .ok (.iload_n 2, 1) := by decide +kernel
theorem dX5_hold_12 : decode cX5_hold 12 = .ok (.iadd, 1) := by decide +kernel
theorem dX5_hold_13 : decode cX5_hold 13 = .ok (.iaload, 1) := by decide +kernel
theorem dX5_hold_14 : decode cX5_hold 14 = .ok (.ireturn, 1) := by decide +kernel
theorem dX5_holdOf_0 : decode cX5_holdOf 0 = .ok (.iconst 0, 1) := by decide +kernel
theorem dX5_holdOf_1 : decode cX5_holdOf 1 = .ok (.istore_n 2, 1) := by decide +kernel
theorem dX5_holdOf_2 : decode cX5_holdOf 2 = .ok (.iload_n 2, 1) := by decide +kernel
theorem dX5_holdOf_3 : decode cX5_holdOf 3 = .ok (.aload_n 0, 1) := by decide +kernel
theorem dX5_holdOf_4 : decode cX5_holdOf 4 = .ok (.getfield 11, 3) := by decide +kernel
theorem dX5_holdOf_7 : decode cX5_holdOf 7 = .ok (.iconst 3, 1) := by decide +kernel
theorem dX5_holdOf_8 : decode cX5_holdOf 8 = .ok (.iaload, 1) := by decide +kernel
theorem dX5_holdOf_9 : decode cX5_holdOf 9 = .ok (.if_icmp .ge 21, 3) := by decide +kernel
theorem dX5_holdOf_12 : decode cX5_holdOf 12 = .ok (.aload_n 0, 1) := by decide +kernel
theorem dX5_holdOf_13 : decode cX5_holdOf 13 = .ok (.iload_n 2, 1) := by decide +kernel
theorem dX5_holdOf_14 : decode cX5_holdOf 14 = .ok (.iconst 3, 1) := by decide +kernel
theorem dX5_holdOf_15 : decode cX5_holdOf 15 = .ok (.invokevirtual 59, 3) := by decide +kernel
theorem dX5_holdOf_18 : decode cX5_holdOf 18 = .ok (.iload_n 1, 1) := by decide +kernel
theorem dX5_holdOf_19 : decode cX5_holdOf 19 = .ok (.if_icmp .ne 5, 3) := by decide +kernel
theorem dX5_holdOf_22 : decode cX5_holdOf 22 = .ok (.iload_n 2, 1) := by decide +kernel
theorem dX5_holdOf_23 : decode cX5_holdOf 23 = .ok (.ireturn, 1) := by decide +kernel
theorem dX5_holdOf_24 : decode cX5_holdOf 24 = .ok (.iinc 2 1, 3) := by decide +kernel
theorem dX5_holdOf_27 : decode cX5_holdOf 27 = .ok (.goto (-25), 3) := by decide +kernel
theorem dX5_holdOf_30 : decode cX5_holdOf 30 = .ok (.bipush (-2), 2) := by decide +kernel
theorem dX5_holdOf_32 : decode cX5_holdOf 32 = .ok (.ireturn, 1) := by decide +kernel
theorem dX5_holdBy_0 : decode cX5_holdBy 0 = .ok (.iconst 0, 1) := by decide +kernel
theorem dX5_holdBy_1 : decode cX5_holdBy 1 = .ok (.istore_n 3, 1) := by decide +kernel
theorem dX5_holdBy_2 : decode cX5_holdBy 2 = .ok (.iload_n 3, 1) := by decide +kernel
theorem dX5_holdBy_3 : decode cX5_holdBy 3 = .ok (.aload_n 0, 1) := by decide +kernel
theorem dX5_holdBy_4 : decode cX5_holdBy 4 = .ok (.getfield 11, 3) := by decide +kernel
theorem dX5_holdBy_7 : decode cX5_holdBy 7 = .ok (.iconst 3, 1) := by decide +kernel
theorem dX5_holdBy_8 : decode cX5_holdBy 8 = .ok (.iaload, 1) := by decide +kernel
theorem dX5_holdBy_9 : decode cX5_holdBy 9 = .ok (.if_icmp .ge 31, 3) := by decide +kernel
theorem dX5_holdBy_12 : decode cX5_holdBy 12 = .ok (.aload_n 0, 1) := by decide +kernel
theorem dX5_holdBy_13 : decode cX5_holdBy 13 = .ok (.iload_n 3, 1) := by decide +kernel
theorem dX5_holdBy_14 : decode cX5_holdBy 14 = .ok (.iconst 0, 1) := by decide +kernel
theorem dX5_holdBy_15 : decode cX5_holdBy 15 = .ok (.invokevirtual 59, 3) := by decide +kernel
theorem dX5_holdBy_18 : decode cX5_holdBy 18 = .ok (.iload_n 2, 1) := by decide +kernel
theorem dX5_holdBy_19 : decode cX5_holdBy 19 = .ok (.if_icmp .ne 15, 3) := by decide +kernel
theorem dX5_holdBy_22 : decode cX5_holdBy 22 = .ok (.aload_n 0, 1) := by decide +kernel
theorem dX5_holdBy_23 : decode cX5_holdBy 23 = .ok (.iload_n 3, 1) := by decide +kernel
theorem dX5_holdBy_24 : decode cX5_holdBy 24 = .ok (.iconst 1, 1) := by decide +kernel
theorem dX5_holdBy_25 : decode cX5_holdBy 25 = .ok (.invokevirtual 59, 3) := by decide +kernel
theorem dX5_holdBy_28 : decode cX5_holdBy 28 = .ok (.iload_n 1, 1) := by decide +kernel
theorem dX5_holdBy_29 : decode cX5_holdBy 29 = .ok (.if_icmp .ne 5, 3) := by decide +kernel
theorem dX5_holdBy_32 : decode cX5_holdBy 32 = .ok (.iload_n 3, 1) := by decide +kernel
theorem dX5_holdBy_33 : decode cX5_holdBy 33 = .ok (.ireturn, 1) := by decide +kernel
theorem dX5_holdBy_34 : decode cX5_holdBy 34 = .ok (.iinc 3 1, 3) := by decide +kernel
theorem dX5_holdBy_37 : decode cX5_holdBy 37 = .ok (.goto (-35), 3) := by decide +kernel
theorem dX5_holdBy_40 : decode cX5_holdBy 40 = .ok (.bipush (-2), 2) := by decide +kernel
theorem dX5_holdBy_42 : decode cX5_holdBy 42 = .ok (.ireturn, 1) := by decide +kernel
theorem dX5_firstWaiting_0 : decode cX5_firstWaiting 0 = .ok (.iconst 0, 1) := by decide +kernel
theorem dX5_firstWaiting_1 : decode cX5_firstWaiting 1 = .ok (.istore_n 2, 1) := by decide +kernel
theorem dX5_firstWaiting_2 : decode cX5_firstWaiting 2 = .ok (.iload_n 2, 1) := by decide +kernel
theorem dX5_firstWaiting_3 : decode cX5_firstWaiting 3 = .ok (.aload_n 0, 1) := by decide +kernel
theorem dX5_firstWaiting_4 : decode cX5_firstWaiting 4 = .ok (.getfield 11, 3) := by decide +kernel
theorem dX5_firstWaiting_7 : decode cX5_firstWaiting 7 = .ok (.iconst 3, 1) := by decide +kernel
theorem dX5_firstWaiting_8 : decode cX5_firstWaiting 8 = .ok (.iaload, 1) := by decide +kernel
theorem dX5_firstWaiting_9 : decode cX5_firstWaiting 9 = .ok (.if_icmp .ge 32, 3) := by decide +kernel
theorem dX5_firstWaiting_12 : decode cX5_firstWaiting 12 = .ok (.aload_n 0, 1) := by decide +kernel
theorem dX5_firstWaiting_13 : decode cX5_firstWaiting 13 = .ok (.iload_n 2, 1) := by decide +kernel
theorem dX5_firstWaiting_14 : decode cX5_firstWaiting 14 = .ok (.iconst 0, 1) := by decide +kernel
theorem dX5_firstWaiting_15 : decode cX5_firstWaiting 15 = .ok (.invokevirtual 59, 3) := by decide +kernel
theorem dX5_firstWaiting_18 : decode cX5_firstWaiting 18 = .ok (.iload_n 1, 1) := by decide +kernel
theorem dX5_firstWaiting_19 : decode cX5_firstWaiting 19 = .ok (.if_icmp .ne 16, 3) := by decide +kernel
theorem dX5_firstWaiting_22 : decode cX5_firstWaiting 22 = .ok (.aload_n 0, 1) := by decide +kernel
theorem dX5_firstWaiting_23 : decode cX5_firstWaiting 23 = .ok (.iload_n 2, 1) := by decide +kernel
theorem dX5_firstWaiting_24 : decode cX5_firstWaiting 24 = .ok (.iconst 3, 1) := by decide +kernel
theorem dX5_firstWaiting_25 : decode cX5_firstWaiting 25 = .ok (.invokevirtual 59, 3) := by decide +kernel
theorem dX5_firstWaiting_28 : decode cX5_firstWaiting 28 = .ok (.bipush (-2), 2) := by decide +kernel
theorem dX5_firstWaiting_30 : decode cX5_firstWaiting 30 = .ok (.if_icmp .ne 5, 3) := by decide +kernel
theorem dX5_firstWaiting_33 : decode cX5_firstWaiting 33 = .ok (.iload_n 2, 1) := by decide +kernel
theorem dX5_firstWaiting_34 : decode cX5_firstWaiting 34 = .ok (.ireturn, 1) := by decide +kernel
theorem dX5_firstWaiting_35 : decode cX5_firstWaiting 35 = .ok (.iinc 2 1, 3) := by decide +kernel
theorem dX5_firstWaiting_38 : decode cX5_firstWaiting 38 = .ok (.goto (-36), 3) := by decide +kernel
theorem dX5_firstWaiting_41 : decode cX5_firstWaiting 41 = .ok (.bipush (-2), 2) := by decide +kernel
theorem dX5_firstWaiting_43 : decode cX5_firstWaiting 43 = .ok (.ireturn, 1) := by decide +kernel
theorem dX5_holds_0 : decode cX5_holds 0 = .ok (.iconst 0, 1) := by decide +kernel
theorem dX5_holds_1 : decode cX5_holds 1 = .ok (.istore_n 2, 1) := by decide +kernel
theorem dX5_holds_2 : decode cX5_holds 2 = .ok (.iconst 0, 1) := by decide +kernel
theorem dX5_holds_3 : decode cX5_holds 3 = .ok (.istore_n 3, 1) := by decide +kernel
theorem dX5_holds_4 : decode cX5_holds 4 = .ok (.iload_n 3, 1) := by decide +kernel
theorem dX5_holds_5 : decode cX5_holds 5 = .ok (.aload_n 0, 1) := by decide +kernel
theorem dX5_holds_6 : decode cX5_holds 6 = .ok (.getfield 11, 3) := by decide +kernel
theorem dX5_holds_9 : decode cX5_holds 9 = .ok (.iconst 3, 1) := by decide +kernel
theorem dX5_holds_10 : decode cX5_holds 10 = .ok (.iaload, 1) := by decide +kernel
theorem dX5_holds_11 : decode cX5_holds 11 = .ok (.if_icmp .ge 31, 3) := by decide +kernel
theorem dX5_holds_14 : decode cX5_holds 14 = .ok (.iload_n 2, 1) := by decide +kernel
theorem dX5_holds_15 : decode cX5_holds 15 = .ok (.iload_n 1, 1) := by decide +kernel
theorem dX5_holds_16 : decode cX5_holds 16 = .ok (.ifCond .lt 13, 3) := by decide +kernel
theorem dX5_holds_19 : decode cX5_holds 19 = .ok (.aload_n 0, 1) := by decide +kernel
theorem dX5_holds_20 : decode cX5_holds 20 = .ok (.iload_n 3, 1) := by decide +kernel
theorem dX5_holds_21 : decode cX5_holds 21 = .ok (.iconst 0, 1) := by decide +kernel
theorem dX5_holds_22 : decode cX5_holds 22 = .ok (.invokevirtual 59, 3) := by decide +kernel
theorem dX5_holds_25 : decode cX5_holds 25 = .ok (.iload_n 1, 1) := by decide +kernel
theorem dX5_holds_26 : decode cX5_holds 26 = .ok (.if_icmp .ne 7, 3) := by decide +kernel
theorem dX5_holds_29 : decode cX5_holds 29 = .ok (.iconst 1, 1) := by decide +kernel
theorem dX5_holds_30 : decode cX5_holds 30 = .ok (.goto 4, 3) := by decide +kernel
theorem dX5_holds_33 : decode cX5_holds 33 = .ok (.iconst 0, 1) := by decide +kernel
theorem dX5_holds_34 : decode cX5_holds 34 = .ok (.iadd, 1) := by decide +kernel
theorem dX5_holds_35 : decode cX5_holds 35 = .ok (.istore_n 2, 1) := by decide +kernel
theorem dX5_holds_36 : decode cX5_holds 36 = .ok (.iinc 3 1, 3) := by decide +kernel
theorem dX5_holds_39 : decode cX5_holds 39 = .ok (.goto (-35), 3) := by decide +kernel
theorem dX5_holds_42 : decode cX5_holds 42 = .ok (.iload_n 2, 1) := by decide +kernel
theorem dX5_holds_43 : decode cX5_holds 43 = .ok (.ireturn, 1) := by decide +kernel
theorem dX5_waitingFor_0 : decode cX5_waitingFor 0 = .ok (.iconst 0, 1) := by decide +kernel
theorem dX5_waitingFor_1 : decode cX5_waitingFor 1 = .ok (.istore_n 2, 1) := by decide +kernel
theorem dX5_waitingFor_2 : decode cX5_waitingFor 2 = .ok (.iconst 0, 1) := by decide +kernel
theorem dX5_waitingFor_3 : decode cX5_waitingFor 3 = .ok (.istore_n 3, 1) := by decide +kernel
theorem dX5_waitingFor_4 : decode cX5_waitingFor 4 = .ok (.iload_n 3, 1) := by decide +kernel
theorem dX5_waitingFor_5 : decode cX5_waitingFor 5 = .ok (.aload_n 0, 1) := by decide +kernel
theorem dX5_waitingFor_6 : decode cX5_waitingFor 6 = .ok (.getfield 11, 3) := by decide +kernel
theorem dX5_waitingFor_9 : decode cX5_waitingFor 9 = .ok (.iconst 3, 1) := by decide +kernel
theorem dX5_waitingFor_10 : decode cX5_waitingFor 10 = .ok (.iaload, 1) := by decide +kernel
theorem dX5_waitingFor_11 : decode cX5_waitingFor 11 = .ok (.if_icmp .ge 38, 3) := by decide +kernel
theorem dX5_waitingFor_14 : decode cX5_waitingFor 14 = .ok (.iload_n 2, 1) := by decide +kernel
theorem dX5_waitingFor_15 : decode cX5_waitingFor 15 = .ok (.aload_n 0, 1) := by decide +kernel
theorem dX5_waitingFor_16 : decode cX5_waitingFor 16 = .ok (.iload_n 3, 1) := by decide +kernel
theorem dX5_waitingFor_17 : decode cX5_waitingFor 17 = .ok (.iconst 0, 1) := by decide +kernel
theorem dX5_waitingFor_18 : decode cX5_waitingFor 18 = .ok (.invokevirtual 59, 3) := by decide +kernel
theorem dX5_waitingFor_21 : decode cX5_waitingFor 21 = .ok (.iload_n 1, 1) := by decide +kernel
theorem dX5_waitingFor_22 : decode cX5_waitingFor 22 = .ok (.if_icmp .ne 18, 3) := by decide +kernel
theorem dX5_waitingFor_25 : decode cX5_waitingFor 25 = .ok (.aload_n 0, 1) := by decide +kernel
theorem dX5_waitingFor_26 : decode cX5_waitingFor 26 = .ok (.iload_n 3, 1) := by decide +kernel
theorem dX5_waitingFor_27 : decode cX5_waitingFor 27 = .ok (.iconst 3, 1) := by decide +kernel
theorem dX5_waitingFor_28 : decode cX5_waitingFor 28 = .ok (.invokevirtual 59, 3) := by decide +kernel
theorem dX5_waitingFor_31 : decode cX5_waitingFor 31 = .ok (.bipush (-2), 2) := by decide +kernel
theorem dX5_waitingFor_33 : decode cX5_waitingFor 33 = .ok (.if_icmp .ne 7, 3) := by decide +kernel
theorem dX5_waitingFor_36 : decode cX5_waitingFor 36 = .ok (.iconst 1, 1) := by decide +kernel
theorem dX5_waitingFor_37 : decode cX5_waitingFor 37 = .ok (.goto 4, 3) := by decide +kernel
theorem dX5_waitingFor_40 : decode cX5_waitingFor 40 = .ok (.iconst 0, 1) := by decide +kernel
theorem dX5_waitingFor_41 : decode cX5_waitingFor 41 = .ok (.iadd, 1) := by decide +kernel
theorem dX5_waitingFor_42 : decode cX5_waitingFor 42 = .ok (.istore_n 2, 1) := by decide +kernel
theorem dX5_waitingFor_43 : decode cX5_waitingFor 43 = .ok (.iinc 3 1, 3) := by decide +kernel
theorem dX5_waitingFor_46 : decode cX5_waitingFor 46 = .ok (.goto (-42), 3) := by decide +kernel
theorem dX5_waitingFor_49 : decode cX5_waitingFor 49 = .ok (.iload_n 2, 1) := by decide +kernel
theorem dX5_waitingFor_50 : decode cX5_waitingFor 50 = .ok (.ireturn, 1) := by decide +kernel
theorem dX5_removes_0 : decode cX5_removes 0 = .ok (.sipush 285, 3) := by decide +kernel
theorem dX5_removes_3 : decode cX5_removes 3 = .ok (.iconst 4, 1) := by decide +kernel
theorem dX5_removes_4 : decode cX5_removes 4 = .ok (.iload_n 1, 1) := by decide +kernel
theorem dX5_removes_5 : decode cX5_removes 5 = .ok (.imul, 1) := by decide +kernel
theorem dX5_removes_6 : decode cX5_removes 6 = .ok (.iadd, 1) := by decide +kernel
theorem dX5_removes_7 : decode cX5_removes 7 = .ok (.istore_n 2, 1) := by decide +kernel
theorem dX5_removes_8 : decode cX5_removes 8 = .ok (.iload_n 2, 1) := by decide +kernel
theorem dX5_removes_9 : decode cX5_removes 9 = .ok (.iconst 4, 1) := by decide +kernel
theorem dX5_removes_10 : decode cX5_removes 10 = .ok (.iadd, 1) := by decide +kernel
theorem dX5_removes_11 : decode cX5_removes 11 = .ok (.sipush 381, 3) := by decide +kernel
theorem dX5_removes_14 : decode cX5_removes 14 = .ok (.if_icmp .ge 23, 3) := by decide +kernel
theorem dX5_removes_17 : decode cX5_removes 17 = .ok (.aload_n 0, 1) := by decide +kernel
theorem dX5_removes_18 : decode cX5_removes 18 = .ok (.getfield 11, 3) := by decide +kernel
theorem dX5_removes_21 : decode cX5_removes 21 = .ok (.iload_n 2, 1) := by decide +kernel
theorem dX5_removes_22 : decode cX5_removes 22 = .ok (.aload_n 0, 1) := by decide +kernel
theorem dX5_removes_23 : decode cX5_removes 23 = .ok (.getfield 11, 3) := by decide +kernel
theorem dX5_removes_26 : decode cX5_removes 26 = .ok (.iload_n 2, 1) := by decide +kernel
theorem dX5_removes_27 : decode cX5_removes 27 = .ok (.iconst 4, 1) := by decide +kernel
theorem dX5_removes_28 : decode cX5_removes 28 = .ok (.iadd, 1) := by decide +kernel
theorem dX5_removes_29 : decode cX5_removes 29 = .ok (.iaload, 1) := by decide +kernel
theorem dX5_removes_30 : decode cX5_removes 30 = .ok (.iastore, 1) := by decide +kernel
theorem dX5_removes_31 : decode cX5_removes 31 = .ok (.iinc 2 1, 3) := by decide +kernel
theorem dX5_removes_34 : decode cX5_removes 34 = .ok (.goto (-26), 3) := by decide +kernel
theorem dX5_removes_37 : decode cX5_removes 37 = .ok (.aload_n 0, 1) := by decide +kernel
theorem dX5_removes_38 : decode cX5_removes 38 = .ok (.getfield 11, 3) := by decide +kernel
theorem dX5_removes_41 : decode cX5_removes 41 = .ok (.iconst 3, 1) := by decide +kernel
theorem dX5_removes_42 : decode cX5_removes 42 = .ok (.dup2, 1) := by decide +kernel
theorem dX5_removes_43 : decode cX5_removes 43 = .ok (.iaload, 1) := by decide +kernel
theorem dX5_removes_44 : decode cX5_removes 44 = .ok (.iconst 1, 1) := by decide +kernel
theorem dX5_removes_45 : decode cX5_removes 45 = .ok (.isub, 1) := by decide +kernel
theorem dX5_removes_46 : decode cX5_removes 46 = .ok (.iastore, 1) := by decide +kernel
theorem dX5_removes_47 : decode cX5_removes 47 = .ok (.return_, 1) := by decide +kernel
theorem dX5_assigns_0 : decode cX5_assigns 0 = .ok (.aload_n 0, 1) := by decide +kernel
theorem dX5_assigns_1 : decode cX5_assigns 1 = .ok (.getfield 11, 3) := by decide +kernel
theorem dX5_assigns_4 : decode cX5_assigns 4 = .ok (.sipush 285, 3) := by decide +kernel
theorem dX5_assigns_7 : decode cX5_assigns 7 = .ok (.iconst 4, 1) := by decide +kernel
theorem dX5_assigns_8 : decode cX5_assigns 8 = .ok (.iload_n 3, 1) := by decide +kernel
theorem dX5_assigns_9 : decode cX5_assigns 9 = .ok (.imul, 1) := by decide +kernel
theorem dX5_assigns_10 : decode cX5_assigns 10 = .ok (.iadd, 1) := by decide +kernel
theorem dX5_assigns_11 : decode cX5_assigns 11 = .ok (.iconst 3, 1) := by decide +kernel
theorem dX5_assigns_12 : decode cX5_assigns 12 = .ok (.iadd, 1) := by decide +kernel
theorem dX5_assigns_13 : decode cX5_assigns 13 = .ok (.iload_n 1, 1) := by decide +kernel
theorem dX5_assigns_14 : decode cX5_assigns 14 = .ok (.iastore, 1) := by decide +kernel
theorem dX5_assigns_15 : decode cX5_assigns 15 = .ok (.aload_n 0, 1) := by decide +kernel
theorem dX5_assigns_16 : decode cX5_assigns 16 = .ok (.iload_n 3, 1) := by decide +kernel
theorem dX5_assigns_17 : decode cX5_assigns 17 = .ok (.iconst 2, 1) := by decide +kernel
theorem dX5_assigns_18 : decode cX5_assigns 18 = .ok (.invokevirtual 59, 3) := by decide +kernel
theorem dX5_assigns_21 : decode cX5_assigns 21 = .ok (.istore 4, 2) := by decide +kernel
theorem dX5_assigns_23 : decode cX5_assigns 23 = .ok (.iload 4, 2) := by decide +kernel
theorem dX5_assigns_25 : decode cX5_assigns 25 = .ok (.iload_n 2, 1) := by decide +kernel
theorem dX5_assigns_26 : decode cX5_assigns 26 = .ok (.if_icmp .ne 28, 3) := by decide +kernel
theorem dX5_assigns_29 : decode cX5_assigns 29 = .ok (.aload_n 0, 1) := by decide +kernel
theorem dX5_assigns_30 : decode cX5_assigns 30 = .ok (.iload_n 1, 1) := by decide +kernel
theorem dX5_assigns_31 : decode cX5_assigns 31 = .ok (.iconst 3, 1) := by decide +kernel
theorem dX5_assigns_32 : decode cX5_assigns 32 = .ok (.iload 4, 2) := by decide +kernel
theorem dX5_assigns_34 : decode cX5_assigns 34 = .ok (.aload_n 0, 1) := by decide +kernel
theorem dX5_assigns_35 : decode cX5_assigns 35 = .ok (.getfield 11, 3) := by decide +kernel
theorem dX5_assigns_38 : decode cX5_assigns 38 = .ok (.iconst 0, 1) := by decide +kernel
theorem dX5_assigns_39 : decode cX5_assigns 39 = .ok (.iaload, 1) := by decide +kernel
theorem dX5_assigns_40 : decode cX5_assigns 40 = .ok (.aload_n 0, 1) := by decide +kernel
theorem dX5_assigns_41 : decode cX5_assigns 41 = .ok (.getfield 11, 3) := by decide +kernel
theorem dX5_assigns_44 : decode cX5_assigns 44 = .ok (.bipush 10, 2) := by decide +kernel
theorem dX5_assigns_46 : decode cX5_assigns 46 = .ok (.iaload, 1) := by decide +kernel
theorem dX5_assigns_47 : decode cX5_assigns 47 = .ok (.iadd, 1) := by decide +kernel
theorem dX5_assigns_48 : decode cX5_assigns 48 = .ok (.invokevirtual 63, 3) := by decide +kernel
theorem dX5_assigns_51 : decode cX5_assigns 51 = .ok (.goto 25, 3) := by decide +kernel
theorem dX5_assigns_54 : decode cX5_assigns 54 = .ok (.aload_n 0, 1) := by decide +kernel
theorem dX5_assigns_55 : decode cX5_assigns 55 = .ok (.iload_n 1, 1) := by decide +kernel
theorem dX5_assigns_56 : decode cX5_assigns 56 = .ok (.iconst 2, 1) := by decide +kernel
theorem dX5_assigns_57 : decode cX5_assigns 57 = .ok (.iload 4, 2) := by decide +kernel
theorem dX5_assigns_59 : decode cX5_assigns 59 = .ok (.aload_n 0, 1) := by decide +kernel
theorem dX5_assigns_60 : decode cX5_assigns 60 = .ok (.getfield 11, 3) := by decide +kernel
theorem dX5_assigns_63 : decode cX5_assigns 63 = .ok (.iconst 0, 1) := by decide +kernel
theorem dX5_assigns_64 : decode cX5_assigns 64 = .ok (.iaload, 1) := by decide +kernel
theorem dX5_assigns_65 : decode cX5_assigns 65 = .ok (.iload 4, 2) := by decide +kernel
theorem dX5_assigns_67 : decode cX5_assigns 67 = .ok (.iload_n 2, 1) := by decide +kernel
theorem dX5_assigns_68 : decode cX5_assigns 68 = .ok (.isub, 1) := by decide +kernel
theorem dX5_assigns_69 : decode cX5_assigns 69 = .ok (.invokestatic 67, 3) := by decide +kernel
theorem dX5_assigns_72 : decode cX5_assigns 72 = .ok (.iadd, 1) := by decide +kernel
theorem dX5_assigns_73 : decode cX5_assigns 73 = .ok (.invokevirtual 63, 3) := by decide +kernel
theorem dX5_assigns_76 : decode cX5_assigns 76 = .ok (.return_, 1) := by decide +kernel
theorem dX5_frees_0 : decode cX5_frees 0 = .ok (.aload_n 0, 1) := by decide +kernel
theorem dX5_frees_1 : decode cX5_frees 1 = .ok (.aload_n 0, 1) := by decide +kernel
theorem dX5_frees_2 : decode cX5_frees 2 = .ok (.iload_n 1, 1) := by decide +kernel
theorem dX5_frees_3 : decode cX5_frees 3 = .ok (.iconst 0, 1) := by decide +kernel
theorem dX5_frees_4 : decode cX5_frees 4 = .ok (.invokevirtual 73, 3) := by decide +kernel
theorem dX5_frees_7 : decode cX5_frees 7 = .ok (.invokevirtual 76, 3) := by decide +kernel
theorem dX5_frees_10 : decode cX5_frees 10 = .ok (.istore_n 3, 1) := by decide +kernel
theorem dX5_frees_11 : decode cX5_frees 11 = .ok (.aload_n 0, 1) := by decide +kernel
theorem dX5_frees_12 : decode cX5_frees 12 = .ok (.iload_n 1, 1) := by decide +kernel
theorem dX5_frees_13 : decode cX5_frees 13 = .ok (.iconst 1, 1) := by decide +kernel
theorem dX5_frees_14 : decode cX5_frees 14 = .ok (.invokevirtual 73, 3) := by decide +kernel
theorem dX5_frees_17 : decode cX5_frees 17 = .ok (.istore 4, 2) := by decide +kernel
theorem dX5_frees_19 : decode cX5_frees 19 = .ok (.iload_n 3, 1) := by decide +kernel
theorem dX5_frees_20 : decode cX5_frees 20 = .ok (.ifCond .lt 13, 3) := by decide +kernel
theorem dX5_frees_23 : decode cX5_frees 23 = .ok (.aload_n 0, 1) := by decide +kernel
theorem dX5_frees_24 : decode cX5_frees 24 = .ok (.iload_n 1, 1) := by decide +kernel
theorem dX5_frees_25 : decode cX5_frees 25 = .ok (.iload_n 2, 1) := by decide +kernel
theorem dX5_frees_26 : decode cX5_frees 26 = .ok (.iload_n 3, 1) := by decide +kernel
theorem dX5_frees_27 : decode cX5_frees 27 = .ok (.invokevirtual 79, 3) := by decide +kernel
theorem dX5_frees_30 : decode cX5_frees 30 = .ok (.goto 52, 3) := by decide +kernel
theorem dX5_frees_33 : decode cX5_frees 33 = .ok (.aload_n 0, 1) := by decide +kernel
theorem dX5_frees_34 : decode cX5_frees 34 = .ok (.iload_n 1, 1) := by decide +kernel
theorem dX5_frees_35 : decode cX5_frees 35 = .ok (.iconst 2, 1) := by decide +kernel
theorem dX5_frees_36 : decode cX5_frees 36 = .ok (.invokevirtual 73, 3) := by decide +kernel
theorem dX5_frees_39 : decode cX5_frees 39 = .ok (.iconst 1, 1) := by decide +kernel
theorem dX5_frees_40 : decode cX5_frees 40 = .ok (.if_icmp .eq 9, 3) := by decide +kernel
theorem dX5_frees_43 : decode cX5_frees 43 = .ok (.iload 4, 2) := by decide +kernel
theorem dX5_frees_45 : decode cX5_frees 45 = .ok (.iload_n 2, 1) := by decide +kernel
theorem dX5_frees_46 : decode cX5_frees 46 = .ok (.if_icmp .ne 14, 3) := by decide +kernel
theorem dX5_frees_49 : decode cX5_frees 49 = .ok (.aload_n 0, 1) := by decide +kernel
theorem dX5_frees_50 : decode cX5_frees 50 = .ok (.iload_n 1, 1) := by decide +kernel
theorem dX5_frees_51 : decode cX5_frees 51 = .ok (.iconst 0, 1) := by decide +kernel
theorem dX5_frees_52 : decode cX5_frees 52 = .ok (.iload_n 2, 1) := by decide +kernel
theorem dX5_frees_53 : decode cX5_frees 53 = .ok (.iconst 0, 1) := by decide +kernel
theorem dX5_frees_54 : decode cX5_frees 54 = .ok (.invokevirtual 63, 3) := by decide +kernel
theorem dX5_frees_57 : decode cX5_frees 57 = .ok (.goto 25, 3) := by decide +kernel
theorem dX5_frees_60 : decode cX5_frees 60 = .ok (.aload_n 0, 1) := by decide +kernel
theorem dX5_frees_61 : decode cX5_frees 61 = .ok (.iload_n 1, 1) := by decide +kernel
theorem dX5_frees_62 : decode cX5_frees 62 = .ok (.iconst 2, 1) := by decide +kernel
theorem dX5_frees_63 : decode cX5_frees 63 = .ok (.iload 4, 2) := by decide +kernel
theorem dX5_frees_65 : decode cX5_frees 65 = .ok (.aload_n 0, 1) := by decide +kernel
theorem dX5_frees_66 : decode cX5_frees 66 = .ok (.getfield 11, 3) := by decide +kernel
theorem dX5_frees_69 : decode cX5_frees 69 = .ok (.iconst 0, 1) := by decide +kernel
theorem dX5_frees_70 : decode cX5_frees 70 = .ok (.iaload, 1) := by decide +kernel
theorem dX5_frees_71 : decode cX5_frees 71 = .ok (.iload 4, 2) := by decide +kernel
theorem dX5_frees_73 : decode cX5_frees 73 = .ok (.iload_n 2, 1) := by decide +kernel
theorem dX5_frees_74 : decode cX5_frees 74 = .ok (.isub, 1) := by decide +kernel
theorem dX5_frees_75 : decode cX5_frees 75 = .ok (.invokestatic 67, 3) := by decide +kernel
theorem dX5_frees_78 : decode cX5_frees 78 = .ok (.iadd, 1) := by decide +kernel
theorem dX5_frees_79 : decode cX5_frees 79 = .ok (.invokevirtual 63, 3) := by decide +kernel
theorem dX5_frees_82 : decode cX5_frees 82 = .ok (.return_, 1) := by decide +kernel
theorem dX5_owes_0 : decode cX5_owes 0 = .ok (.iload_n 3, 1) := by decide +kernel
theorem dX5_owes_1 : decode cX5_owes 1 = .ok (.ifCond .ne 4, 3) := by decide +kernel
theorem dX5_owes_4 : decode cX5_owes 4 = .ok (.return_, 1) := by decide +kernel
theorem dX5_owes_5 : decode cX5_owes 5 = .ok (.aload_n 0, 1) := by decide +kernel
theorem dX5_owes_6 : decode cX5_owes 6 = .ok (.getfield 11, 3) := by decide +kernel
theorem dX5_owes_9 : decode cX5_owes 9 = .ok (.iconst 4, 1) := by decide +kernel
theorem dX5_owes_10 : decode cX5_owes 10 = .ok (.iaload, 1) := by decide +kernel
theorem dX5_owes_11 : decode cX5_owes 11 = .ok (.bipush 60, 2) := by decide +kernel
theorem dX5_owes_13 : decode cX5_owes 13 = .ok (.if_icmp .ne 50, 3) := by decide +kernel
theorem dX5_owes_16 : decode cX5_owes 16 = .ok (.sipush 381, 3) := by decide +kernel
theorem dX5_owes_19 : decode cX5_owes 19 = .ok (.istore 5, 2) := by decide +kernel
theorem dX5_owes_21 : decode cX5_owes 21 = .ok (.iload 5, 2) := by decide +kernel
theorem dX5_owes_23 : decode cX5_owes 23 = .ok (.iconst 5, 1) := by decide +kernel
theorem dX5_owes_24 : decode cX5_owes 24 = .ok (.iadd, 1) := by decide +kernel
theorem dX5_owes_25 : decode cX5_owes 25 = .ok (.sipush 681, 3) := by decide +kernel
theorem dX5_owes_28 : decode cX5_owes 28 = .ok (.if_icmp .ge 25, 3) := by decide +kernel
theorem dX5_owes_31 : decode cX5_owes 31 = .ok (.aload_n 0, 1) := by decide +kernel
theorem dX5_owes_32 : decode cX5_owes 32 = .ok (.getfield 11, 3) := by decide +kernel
theorem dX5_owes_35 : decode cX5_owes 35 = .ok (.iload 5, 2) := by decide +kernel
theorem dX5_owes_37 : decode cX5_owes 37 = .ok (.aload_n 0, 1) := by decide +kernel
theorem dX5_owes_38 : decode cX5_owes 38 = .ok (.getfield 11, 3) := by decide +kernel
theorem dX5_owes_41 : decode cX5_owes 41 = .ok (.iload 5, 2) := by decide +kernel
theorem dX5_owes_43 : decode cX5_owes 43 = .ok (.iconst 5, 1) := by decide +kernel
theorem dX5_owes_44 : decode cX5_owes 44 = .ok (.iadd, 1) := by decide +kernel
theorem dX5_owes_45 : decode cX5_owes 45 = .ok (.iaload, 1) := by decide +kernel
theorem dX5_owes_46 : decode cX5_owes 46 = .ok (.iastore, 1) := by decide +kernel
theorem dX5_owes_47 : decode cX5_owes 47 = .ok (.iinc 5 1, 3) := by decide +kernel
theorem dX5_owes_50 : decode cX5_owes 50 = .ok (.goto (-29), 3) := by decide +kernel
theorem dX5_owes_53 : decode cX5_owes 53 = .ok (.aload_n 0, 1) := by decide +kernel
theorem dX5_owes_54 : decode cX5_owes 54 = .ok (.getfield 11, 3) := by decide +kernel
theorem dX5_owes_57 : decode cX5_owes 57 = .ok (.iconst 4, 1) := by decide +kernel
theorem dX5_owes_58 : decode cX5_owes 58 = .ok (.dup2, 1) := by decide +kernel
theorem dX5_owes_59 : decode cX5_owes 59 = .ok (.iaload, 1) := by decide +kernel
theorem dX5_owes_60 : decode cX5_owes 60 = .ok (.iconst 1, 1) := by decide +kernel
theorem dX5_owes_61 : decode cX5_owes 61 = .ok (.isub, 1) := by decide +kernel
theorem dX5_owes_62 : decode cX5_owes 62 = .ok (.iastore, 1) := by decide +kernel
theorem dX5_owes_63 : decode cX5_owes 63 = .ok (.sipush 381, 3) := by decide +kernel
theorem dX5_owes_66 : decode cX5_owes 66 = .ok (.iconst 5, 1) := by decide +kernel
theorem dX5_owes_67 : decode cX5_owes 67 = .ok (.aload_n 0, 1) := by decide +kernel
theorem dX5_owes_68 : decode cX5_owes 68 = .ok (.getfield 11, 3) := by decide +kernel
theorem dX5_owes_71 : decode cX5_owes 71 = .ok (.iconst 4, 1) := by decide +kernel
theorem dX5_owes_72 : decode cX5_owes 72 = .ok (.iaload, 1) := by decide +kernel
theorem dX5_owes_73 : decode cX5_owes 73 = .ok (.imul, 1) := by decide +kernel
theorem dX5_owes_74 : decode cX5_owes 74 = .ok (.iadd, 1) := by decide +kernel
theorem dX5_owes_75 : decode cX5_owes 75 = .ok (.istore 5, 2) := by decide +kernel
theorem dX5_owes_77 : decode cX5_owes 77 = .ok (.aload_n 0, 1) := by decide +kernel
theorem dX5_owes_78 : decode cX5_owes 78 = .ok (.getfield 11, 3) := by decide +kernel
theorem dX5_owes_81 : decode cX5_owes 81 = .ok (.iload 5, 2) := by decide +kernel
theorem dX5_owes_83 : decode cX5_owes 83 = .ok (.iload_n 1, 1) := by decide +kernel
theorem dX5_owes_84 : decode cX5_owes 84 = .ok (.iastore, 1) := by decide +kernel
theorem dX5_owes_85 : decode cX5_owes 85 = .ok (.aload_n 0, 1) := by decide +kernel
theorem dX5_owes_86 : decode cX5_owes 86 = .ok (.getfield 11, 3) := by decide +kernel
theorem dX5_owes_89 : decode cX5_owes 89 = .ok (.iload 5, 2) := by decide +kernel
theorem dX5_owes_91 : decode cX5_owes 91 = .ok (.iconst 1, 1) := by decide +kernel
theorem dX5_owes_92 : decode cX5_owes 92 = .ok (.iadd, 1) := by decide +kernel
theorem dX5_owes_93 : decode cX5_owes 93 = .ok (.iload_n 2, 1) := by decide +kernel
theorem dX5_owes_94 : decode cX5_owes 94 = .ok (.iastore, 1) := by decide +kernel
theorem dX5_owes_95 : decode cX5_owes 95 = .ok (.aload_n 0, 1) := by decide +kernel
theorem dX5_owes_96 : decode cX5_owes 96 = .ok (.getfield 11, 3) := by decide +kernel
theorem dX5_owes_99 : decode cX5_owes 99 = .ok (.iload 5, 2) := by decide +kernel
theorem dX5_owes_101 : decode cX5_owes 101 = .ok (.iconst 2, 1) := by decide +kernel
theorem dX5_owes_102 : decode cX5_owes 102 = .ok (.iadd, 1) := by decide +kernel
theorem dX5_owes_103 : decode cX5_owes 103 = .ok (.iload_n 3, 1) := by decide +kernel
theorem dX5_owes_104 : decode cX5_owes 104 = .ok (.iastore, 1) := by decide +kernel
theorem dX5_owes_105 : decode cX5_owes 105 = .ok (.aload_n 0, 1) := by decide +kernel
theorem dX5_owes_106 : decode cX5_owes 106 = .ok (.getfield 11, 3) := by decide +kernel
theorem dX5_owes_109 : decode cX5_owes 109 = .ok (.iload 5, 2) := by decide +kernel
theorem dX5_owes_111 : decode cX5_owes 111 = .ok (.iconst 3, 1) := by decide +kernel
theorem dX5_owes_112 : decode cX5_owes 112 = .ok (.iadd, 1) := by decide +kernel
theorem dX5_owes_113 : decode cX5_owes 113 = .ok (.iload 4, 2) := by decide +kernel
theorem dX5_owes_115 : decode cX5_owes 115 = .ok (.iastore, 1) := by decide +kernel
theorem dX5_owes_116 : decode cX5_owes 116 = .ok (.aload_n 0, 1) := by decide +kernel
theorem dX5_owes_117 : decode cX5_owes 117 = .ok (.getfield 11, 3) := by decide +kernel
theorem dX5_owes_120 : decode cX5_owes 120 = .ok (.iload 5, 2) := by decide +kernel
theorem dX5_owes_122 : decode cX5_owes 122 = .ok (.iconst 4, 1) := by decide +kernel
theorem dX5_owes_123 : decode cX5_owes 123 = .ok (.iadd, 1) := by decide +kernel
theorem dX5_owes_124 : decode cX5_owes 124 = .ok (.aload_n 0, 1) := by decide +kernel
theorem dX5_owes_125 : decode cX5_owes 125 = .ok (.getfield 11, 3) := by decide +kernel
theorem dX5_owes_128 : decode cX5_owes 128 = .ok (.iconst 0, 1) := by decide +kernel
theorem dX5_owes_129 : decode cX5_owes 129 = .ok (.iaload, 1) := by decide +kernel
theorem dX5_owes_130 : decode cX5_owes 130 = .ok (.iastore, 1) := by decide +kernel
theorem dX5_owes_131 : decode cX5_owes 131 = .ok (.aload_n 0, 1) := by decide +kernel
theorem dX5_owes_132 : decode cX5_owes 132 = .ok (.getfield 11, 3) := by decide +kernel
theorem dX5_owes_135 : decode cX5_owes 135 = .ok (.iconst 4, 1) := by decide +kernel
theorem dX5_owes_136 : decode cX5_owes 136 = .ok (.dup2, 1) := by decide +kernel
theorem dX5_owes_137 : decode cX5_owes 137 = .ok (.iaload, 1) := by decide +kernel
theorem dX5_owes_138 : decode cX5_owes 138 = .ok (.iconst 1, 1) := by decide +kernel
theorem dX5_owes_139 : decode cX5_owes 139 = .ok (.iadd, 1) := by decide +kernel
theorem dX5_owes_140 : decode cX5_owes 140 = .ok (.iastore, 1) := by decide +kernel
theorem dX5_owes_141 : decode cX5_owes 141 = .ok (.aload_n 0, 1) := by decide +kernel
theorem dX5_owes_142 : decode cX5_owes 142 = .ok (.getfield 11, 3) := by decide +kernel
theorem dX5_owes_145 : decode cX5_owes 145 = .ok (.sipush 253, 3) := by decide +kernel
theorem dX5_owes_148 : decode cX5_owes 148 = .ok (.iconst 4, 1) := by decide +kernel
theorem dX5_owes_149 : decode cX5_owes 149 = .ok (.iload_n 2, 1) := by decide +kernel
theorem dX5_owes_150 : decode cX5_owes 150 = .ok (.imul, 1) := by decide +kernel
theorem dX5_owes_151 : decode cX5_owes 151 = .ok (.iadd, 1) := by decide +kernel
theorem dX5_owes_152 : decode cX5_owes 152 = .ok (.dup2, 1) := by decide +kernel
theorem dX5_owes_153 : decode cX5_owes 153 = .ok (.iaload, 1) := by decide +kernel
theorem dX5_owes_154 : decode cX5_owes 154 = .ok (.iload_n 3, 1) := by decide +kernel
theorem dX5_owes_155 : decode cX5_owes 155 = .ok (.iadd, 1) := by decide +kernel
theorem dX5_owes_156 : decode cX5_owes 156 = .ok (.iastore, 1) := by decide +kernel
theorem dX5_owes_157 : decode cX5_owes 157 = .ok (.aload_n 0, 1) := by decide +kernel
theorem dX5_owes_158 : decode cX5_owes 158 = .ok (.getfield 11, 3) := by decide +kernel
theorem dX5_owes_161 : decode cX5_owes 161 = .ok (.sipush 253, 3) := by decide +kernel
theorem dX5_owes_164 : decode cX5_owes 164 = .ok (.iconst 4, 1) := by decide +kernel
theorem dX5_owes_165 : decode cX5_owes 165 = .ok (.iload_n 2, 1) := by decide +kernel
theorem dX5_owes_166 : decode cX5_owes 166 = .ok (.imul, 1) := by decide +kernel
theorem dX5_owes_167 : decode cX5_owes 167 = .ok (.iadd, 1) := by decide +kernel
theorem dX5_owes_168 : decode cX5_owes 168 = .ok (.iload_n 3, 1) := by decide +kernel
theorem dX5_owes_169 : decode cX5_owes 169 = .ok (.ifCond .le 7, 3) := by decide +kernel
theorem dX5_owes_172 : decode cX5_owes 172 = .ok (.iconst 2, 1) := by decide +kernel
theorem dX5_owes_173 : decode cX5_owes 173 = .ok (.goto 4, 3) := by decide +kernel
theorem dX5_owes_176 : decode cX5_owes 176 = .ok (.iconst 3, 1) := by decide +kernel
theorem dX5_owes_177 : decode cX5_owes 177 = .ok (.iadd, 1) := by decide +kernel
theorem dX5_owes_178 : decode cX5_owes 178 = .ok (.dup2, 1) := by decide +kernel
theorem dX5_owes_179 : decode cX5_owes 179 = .ok (.iaload, 1) := by decide +kernel
theorem dX5_owes_180 : decode cX5_owes 180 = .ok (.iload_n 3, 1) := by decide +kernel
theorem dX5_owes_181 : decode cX5_owes 181 = .ok (.invokestatic 67, 3) := by decide +kernel
theorem dX5_owes_184 : decode cX5_owes 184 = .ok (.iadd, 1) := by decide +kernel
theorem dX5_owes_185 : decode cX5_owes 185 = .ok (.iastore, 1) := by decide +kernel
theorem dX5_owes_186 : decode cX5_owes 186 = .ok (.return_, 1) := by decide +kernel
theorem dX5_late_0 : decode cX5_late 0 = .ok (.iconst 0, 1) := by decide +kernel
theorem dX5_late_1 : decode cX5_late 1 = .ok (.aload_n 0, 1) := by decide +kernel
theorem dX5_late_2 : decode cX5_late 2 = .ok (.getfield 11, 3) := by decide +kernel
theorem dX5_late_5 : decode cX5_late 5 = .ok (.iconst 0, 1) := by decide +kernel
theorem dX5_late_6 : decode cX5_late 6 = .ok (.iaload, 1) := by decide +kernel
theorem dX5_late_7 : decode cX5_late 7 = .ok (.aload_n 0, 1) := by decide +kernel
theorem dX5_late_8 : decode cX5_late 8 = .ok (.iload_n 1, 1) := by decide +kernel
theorem dX5_late_9 : decode cX5_late 9 = .ok (.iconst 5, 1) := by decide +kernel
theorem dX5_late_10 : decode cX5_late 10 = .ok (.invokevirtual 73, 3) := by decide +kernel
theorem dX5_late_13 : decode cX5_late 13 = .ok (.isub, 1) := by decide +kernel
theorem dX5_late_14 : decode cX5_late 14 = .ok (.invokestatic 82, 3) := by decide +kernel
theorem dX5_late_17 : decode cX5_late 17 = .ok (.i2l, 1) := by decide +kernel
theorem dX5_late_18 : decode cX5_late 18 = .ok (.lstore_n 2, 1) := by decide +kernel
theorem dX5_late_19 : decode cX5_late 19 = .ok (.aload_n 0, 1) := by decide +kernel
theorem dX5_late_20 : decode cX5_late 20 = .ok (.getfield 11, 3) := by decide +kernel
theorem dX5_late_23 : decode cX5_late 23 = .ok (.bipush 8, 2) := by decide +kernel
theorem dX5_late_25 : decode cX5_late 25 = .ok (.iaload, 1) := by decide +kernel
theorem dX5_late_26 : decode cX5_late 26 = .ok (.i2l, 1) := by decide +kernel
theorem dX5_late_27 : decode cX5_late 27 = .ok (.lload_n 2, 1) := by decide +kernel
theorem dX5_late_28 : decode cX5_late 28 = .ok (.aload_n 0, 1) := by decide +kernel
theorem dX5_late_29 : decode cX5_late 29 = .ok (.getfield 11, 3) := by decide +kernel
theorem dX5_late_32 : decode cX5_late 32 = .ok (.bipush 7, 2) := by decide +kernel
theorem dX5_late_34 : decode cX5_late 34 = .ok (.iaload, 1) := by decide +kernel
theorem dX5_late_35 : decode cX5_late 35 = .ok (.i2l, 1) := by decide +kernel
theorem dX5_late_36 : decode cX5_late 36 = .ok (.lmul, 1) := by decide +kernel
theorem dX5_late_37 : decode cX5_late 37 = .ok (.invokestatic 85, 3) := by decide +kernel
theorem dX5_late_40 : decode cX5_late 40 = .ok (.l2i, 1) := by decide +kernel
theorem dX5_late_41 : decode cX5_late 41 = .ok (.ireturn, 1) := by decide +kernel
theorem dX5_isBarred_0 : decode cX5_isBarred 0 = .ok (.aload_n 0, 1) := by decide +kernel
theorem dX5_isBarred_1 : decode cX5_isBarred 1 = .ok (.getfield 11, 3) := by decide +kernel
theorem dX5_isBarred_4 : decode cX5_isBarred 4 = .ok (.sipush 253, 3) := by decide +kernel
theorem dX5_isBarred_7 : decode cX5_isBarred 7 = .ok (.iconst 4, 1) := by decide +kernel
theorem dX5_isBarred_8 : decode cX5_isBarred 8 = .ok (.iload_n 1, 1) := by decide +kernel
theorem dX5_isBarred_9 : decode cX5_isBarred 9 = .ok (.imul, 1) := by decide +kernel
theorem dX5_isBarred_10 : decode cX5_isBarred 10 = .ok (.iadd, 1) := by decide +kernel
theorem dX5_isBarred_11 : decode cX5_isBarred 11 = .ok (.iaload, 1) := by decide +kernel
theorem dX5_isBarred_12 : decode cX5_isBarred 12 = .ok (.aload_n 0, 1) := by decide +kernel
theorem dX5_isBarred_13 : decode cX5_isBarred 13 = .ok (.getfield 11, 3) := by decide +kernel
theorem dX5_isBarred_16 : decode cX5_isBarred 16 = .ok (.bipush 9, 2) := by decide +kernel
theorem dX5_isBarred_18 : decode cX5_isBarred 18 = .ok (.iaload, 1) := by decide +kernel
theorem dX5_isBarred_19 : decode cX5_isBarred 19 = .ok (.if_icmp .lt 7, 3) := by decide +kernel
theorem dX5_isBarred_22 : decode cX5_isBarred 22 = .ok (.iconst 1, 1) := by decide +kernel
theorem dX5_isBarred_23 : decode cX5_isBarred 23 = .ok (.goto 4, 3) := by decide +kernel
theorem dX5_isBarred_26 : decode cX5_isBarred 26 = .ok (.iconst 0, 1) := by decide +kernel
theorem dX5_isBarred_27 : decode cX5_isBarred 27 = .ok (.ireturn, 1) := by decide +kernel
theorem dX5_loans_0 : decode cX5_loans 0 = .ok (.iconst 0, 1) := by decide +kernel
theorem dX5_loans_1 : decode cX5_loans 1 = .ok (.istore_n 2, 1) := by decide +kernel
theorem dX5_loans_2 : decode cX5_loans 2 = .ok (.iconst 0, 1) := by decide +kernel
theorem dX5_loans_3 : decode cX5_loans 3 = .ok (.istore_n 3, 1) := by decide +kernel
theorem dX5_loans_4 : decode cX5_loans 4 = .ok (.iload_n 3, 1) := by decide +kernel
theorem dX5_loans_5 : decode cX5_loans 5 = .ok (.aload_n 0, 1) := by decide +kernel
theorem dX5_loans_6 : decode cX5_loans 6 = .ok (.getfield 11, 3) := by decide +kernel
theorem dX5_loans_9 : decode cX5_loans 9 = .ok (.iconst 1, 1) := by decide +kernel
theorem dX5_loans_10 : decode cX5_loans 10 = .ok (.iaload, 1) := by decide +kernel
theorem dX5_loans_11 : decode cX5_loans 11 = .ok (.if_icmp .ge 37, 3) := by decide +kernel
theorem dX5_loans_14 : decode cX5_loans 14 = .ok (.iload_n 2, 1) := by decide +kernel
theorem dX5_loans_15 : decode cX5_loans 15 = .ok (.aload_n 0, 1) := by decide +kernel
theorem dX5_loans_16 : decode cX5_loans 16 = .ok (.iload_n 3, 1) := by decide +kernel
theorem dX5_loans_17 : decode cX5_loans 17 = .ok (.iconst 3, 1) := by decide +kernel
theorem dX5_loans_18 : decode cX5_loans 18 = .ok (.invokevirtual 73, 3) := by decide +kernel
theorem dX5_loans_21 : decode cX5_loans 21 = .ok (.iconst 1, 1) := by decide +kernel
theorem dX5_loans_22 : decode cX5_loans 22 = .ok (.if_icmp .ne 17, 3) := by decide +kernel
theorem dX5_loans_25 : decode cX5_loans 25 = .ok (.aload_n 0, 1) := by decide +kernel
theorem dX5_loans_26 : decode cX5_loans 26 = .ok (.iload_n 3, 1) := by decide +kernel
theorem dX5_loans_27 : decode cX5_loans 27 = .ok (.iconst 4, 1) := by decide +kernel
theorem dX5_loans_28 : decode cX5_loans 28 = .ok (.invokevirtual 73, 3) := by decide +kernel
theorem dX5_loans_31 : decode cX5_loans 31 = .ok (.iload_n 1, 1) := by decide +kernel
theorem dX5_loans_32 : decode cX5_loans 32 = .ok (.if_icmp .ne 7, 3) := by decide +kernel
theorem dX5_loans_35 : decode cX5_loans 35 = .ok (.iconst 1, 1) := by decide +kernel
theorem dX5_loans_36 : decode cX5_loans 36 = .ok (.goto 4, 3) := by decide +kernel
theorem dX5_loans_39 : decode cX5_loans 39 = .ok (.iconst 0, 1) := by decide +kernel
theorem dX5_loans_40 : decode cX5_loans 40 = .ok (.iadd, 1) := by decide +kernel
theorem dX5_loans_41 : decode cX5_loans 41 = .ok (.istore_n 2, 1) := by decide +kernel
theorem dX5_loans_42 : decode cX5_loans 42 = .ok (.iinc 3 1, 3) := by decide +kernel
theorem dX5_loans_45 : decode cX5_loans 45 = .ok (.goto (-41), 3) := by decide +kernel
theorem dX5_loans_48 : decode cX5_loans 48 = .ok (.iload_n 2, 1) := by decide +kernel
theorem dX5_loans_49 : decode cX5_loans 49 = .ok (.ireturn, 1) := by decide +kernel
theorem dX5_addCopy_0 : decode cX5_addCopy 0 = .ok (.iload_n 1, 1) := by decide +kernel
theorem dX5_addCopy_1 : decode cX5_addCopy 1 = .ok (.invokestatic 89, 3) := by decide +kernel
theorem dX5_addCopy_4 : decode cX5_addCopy 4 = .ok (.ifCond .eq 10, 3) := by decide +kernel
theorem dX5_addCopy_7 : decode cX5_addCopy 7 = .ok (.iload_n 2, 1) := by decide +kernel
theorem dX5_addCopy_8 : decode cX5_addCopy 8 = .ok (.invokestatic 93, 3) := by decide +kernel
theorem dX5_addCopy_11 : decode cX5_addCopy 11 = .ok (.ifCond .ne 5, 3) := by decide +kernel
theorem dX5_addCopy_14 : decode cX5_addCopy 14 = .ok (.iconst (-1), 1) := by decide +kernel
theorem dX5_addCopy_15 : decode cX5_addCopy 15 = .ok (.ireturn, 1) := by decide +kernel
theorem dX5_addCopy_16 : decode cX5_addCopy 16 = .ok (.aload_n 0, 1) := by decide +kernel
theorem dX5_addCopy_17 : decode cX5_addCopy 17 = .ok (.getfield 11, 3) := by decide +kernel
theorem dX5_addCopy_20 : decode cX5_addCopy 20 = .ok (.iconst 1, 1) := by decide +kernel
theorem dX5_addCopy_21 : decode cX5_addCopy 21 = .ok (.iaload, 1) := by decide +kernel
theorem dX5_addCopy_22 : decode cX5_addCopy 22 = .ok (.bipush 20, 2) := by decide +kernel
theorem dX5_addCopy_24 : decode cX5_addCopy 24 = .ok (.if_icmp .ne 6, 3) := by decide +kernel
theorem dX5_addCopy_27 : decode cX5_addCopy 27 = .ok (.bipush (-3), 2) := by decide +kernel
theorem dX5_addCopy_29 : decode cX5_addCopy 29 = .ok (.ireturn, 1) := by decide +kernel
theorem dX5_addCopy_30 : decode cX5_addCopy 30 = .ok (.aload_n 0, 1) := by decide +kernel
theorem dX5_addCopy_31 : decode cX5_addCopy 31 = .ok (.invokevirtual 96, 3) := by decide +kernel
theorem dX5_addCopy_34 : decode cX5_addCopy 34 = .ok (.aload_n 0, 1) := by decide +kernel
theorem dX5_addCopy_35 : decode cX5_addCopy 35 = .ok (.getfield 11, 3) := by decide +kernel
theorem dX5_addCopy_38 : decode cX5_addCopy 38 = .ok (.iconst 1, 1) := by decide +kernel
theorem dX5_addCopy_39 : decode cX5_addCopy 39 = .ok (.iaload, 1) := by decide +kernel
theorem dX5_addCopy_40 : decode cX5_addCopy 40 = .ok (.istore_n 3, 1) := by decide +kernel
theorem dX5_addCopy_41 : decode cX5_addCopy 41 = .ok (.iconst 0, 1) := by decide +kernel
theorem dX5_addCopy_42 : decode cX5_addCopy 42 = .ok (.istore 4, 2) := by decide +kernel
theorem dX5_addCopy_44 : decode cX5_addCopy 44 = .ok (.iload 4, 2) := by decide +kernel
theorem dX5_addCopy_46 : decode cX5_addCopy 46 = .ok (.bipush 12, 2) := by decide +kernel
theorem dX5_addCopy_48 : decode cX5_addCopy 48 = .ok (.if_icmp .ge 17, 3) := by decide +kernel
theorem dX5_addCopy_51 : decode cX5_addCopy 51 = .ok (.aload_n 0, 1) := by decide +kernel
theorem dX5_addCopy_52 : decode cX5_addCopy 52 = .ok (.iload_n 3, 1) := by decide +kernel
theorem dX5_addCopy_53 : decode cX5_addCopy 53 = .ok (.iload 4, 2) := by decide +kernel
theorem dX5_addCopy_55 : decode cX5_addCopy 55 = .ok (.iconst 0, 1) := by decide +kernel
theorem dX5_addCopy_56 : decode cX5_addCopy 56 = .ok (.invokevirtual 55, 3) := by decide +kernel
theorem dX5_addCopy_59 : decode cX5_addCopy 59 = .ok (.iinc 4 1, 3) := by decide +kernel
theorem dX5_addCopy_62 : decode cX5_addCopy 62 = .ok (.goto (-18), 3) := by decide +kernel
theorem dX5_addCopy_65 : decode cX5_addCopy 65 = .ok (.aload_n 0, 1) := by decide +kernel
theorem dX5_addCopy_66 : decode cX5_addCopy 66 = .ok (.iload_n 3, 1) := by decide +kernel
theorem dX5_addCopy_67 : decode cX5_addCopy 67 = .ok (.iconst 0, 1) := by decide +kernel
theorem dX5_addCopy_68 : decode cX5_addCopy 68 = .ok (.iload_n 1, 1) := by decide +kernel
theorem dX5_addCopy_69 : decode cX5_addCopy 69 = .ok (.invokevirtual 55, 3) := by decide +kernel
theorem dX5_addCopy_72 : decode cX5_addCopy 72 = .ok (.aload_n 0, 1) := by decide +kernel
theorem dX5_addCopy_73 : decode cX5_addCopy 73 = .ok (.iload_n 3, 1) := by decide +kernel
theorem dX5_addCopy_74 : decode cX5_addCopy 74 = .ok (.iconst 1, 1) := by decide +kernel
theorem dX5_addCopy_75 : decode cX5_addCopy 75 = .ok (.iload_n 2, 1) := by decide +kernel
theorem dX5_addCopy_76 : decode cX5_addCopy 76 = .ok (.invokevirtual 55, 3) := by decide +kernel
theorem dX5_addCopy_79 : decode cX5_addCopy 79 = .ok (.aload_n 0, 1) := by decide +kernel
theorem dX5_addCopy_80 : decode cX5_addCopy 80 = .ok (.getfield 11, 3) := by decide +kernel
theorem dX5_addCopy_83 : decode cX5_addCopy 83 = .ok (.iconst 1, 1) := by decide +kernel
theorem dX5_addCopy_84 : decode cX5_addCopy 84 = .ok (.dup2, 1) := by decide +kernel
theorem dX5_addCopy_85 : decode cX5_addCopy 85 = .ok (.iaload, 1) := by decide +kernel
theorem dX5_addCopy_86 : decode cX5_addCopy 86 = .ok (.iconst 1, 1) := by decide +kernel
theorem dX5_addCopy_87 : decode cX5_addCopy 87 = .ok (.iadd, 1) := by decide +kernel
theorem dX5_addCopy_88 : decode cX5_addCopy 88 = .ok (.iastore, 1) := by decide +kernel
theorem dX5_addCopy_89 : decode cX5_addCopy 89 = .ok (.aload_n 0, 1) := by decide +kernel
theorem dX5_addCopy_90 : decode cX5_addCopy 90 = .ok (.iload_n 3, 1) := by decide +kernel
theorem dX5_addCopy_91 : decode cX5_addCopy 91 = .ok (.iload_n 2, 1) := by decide +kernel
theorem dX5_addCopy_92 : decode cX5_addCopy 92 = .ok (.invokevirtual 99, 3) := by decide +kernel
theorem dX5_addCopy_95 : decode cX5_addCopy 95 = .ok (.aload_n 0, 1) := by decide +kernel
theorem dX5_addCopy_96 : decode cX5_addCopy 96 = .ok (.iload_n 3, 1) := by decide +kernel
theorem dX5_addCopy_97 : decode cX5_addCopy 97 = .ok (.invokevirtual 103, 3) := by decide +kernel
theorem dX5_addCopy_100 : decode cX5_addCopy 100 = .ok (.ireturn, 1) := by decide +kernel
theorem dX5_addPatron_0 : decode cX5_addPatron 0 = .ok (.aload_n 0, 1) := by decide +kernel
theorem dX5_addPatron_1 : decode cX5_addPatron 1 = .ok (.getfield 11, 3) := by decide +kernel
theorem dX5_addPatron_4 : decode cX5_addPatron 4 = .ok (.iconst 2, 1) := by decide +kernel
theorem dX5_addPatron_5 : decode cX5_addPatron 5 = .ok (.iaload, 1) := by decide +kernel
theorem dX5_addPatron_6 : decode cX5_addPatron 6 = .ok (.bipush 8, 2) := by decide +kernel
theorem dX5_addPatron_8 : decode cX5_addPatron 8 = .ok (.if_icmp .ne 6, 3) := by decide +kernel
theorem dX5_addPatron_11 : decode cX5_addPatron 11 = .ok (.bipush (-3), 2) := by decide +kernel
theorem dX5_addPatron_13 : decode cX5_addPatron 13 = .ok (.ireturn, 1) := by decide +kernel
theorem dX5_addPatron_14 : decode cX5_addPatron 14 = .ok (.aload_n 0, 1) := by decide +kernel
theorem dX5_addPatron_15 : decode cX5_addPatron 15 = .ok (.invokevirtual 96, 3) := by decide +kernel
theorem dX5_addPatron_18 : decode cX5_addPatron 18 = .ok (.aload_n 0, 1) := by decide +kernel
theorem dX5_addPatron_19 : decode cX5_addPatron 19 = .ok (.getfield 11, 3) := by decide +kernel
theorem dX5_addPatron_22 : decode cX5_addPatron 22 = .ok (.iconst 2, 1) := by decide +kernel
theorem dX5_addPatron_23 : decode cX5_addPatron 23 = .ok (.iaload, 1) := by decide +kernel
theorem dX5_addPatron_24 : decode cX5_addPatron 24 = .ok (.istore_n 1, 1) := by decide +kernel
theorem dX5_addPatron_25 : decode cX5_addPatron 25 = .ok (.iconst 0, 1) := by decide +kernel
theorem dX5_addPatron_26 : decode cX5_addPatron 26 = .ok (.istore_n 2, 1) := by decide +kernel
theorem dX5_addPatron_27 : decode cX5_addPatron 27 = .ok (.iload_n 2, 1) := by decide +kernel
theorem dX5_addPatron_28 : decode cX5_addPatron 28 = .ok (.iconst 4, 1) := by decide +kernel
theorem dX5_addPatron_29 : decode cX5_addPatron 29 = .ok (.if_icmp .ge 24, 3) := by decide +kernel
theorem dX5_addPatron_32 : decode cX5_addPatron 32 = .ok (.aload_n 0, 1) := by decide +kernel
theorem dX5_addPatron_33 : decode cX5_addPatron 33 = .ok (.getfield 11, 3) := by decide +kernel
theorem dX5_addPatron_36 : decode cX5_addPatron 36 = .ok (.sipush 253, 3) := by decide +kernel
theorem dX5_addPatron_39 : decode cX5_addPatron 39 = .ok (.iconst 4, 1) := by decide +kernel
theorem dX5_addPatron_40 : decode cX5_addPatron 40 = .ok (.iload_n 1, 1) := by decide +kernel
theorem dX5_addPatron_41 : decode cX5_addPatron 41 = .ok (.imul, 1) := by decide +kernel
theorem dX5_addPatron_42 : decode cX5_addPatron 42 = .ok (.iadd, 1) := by decide +kernel
theorem dX5_addPatron_43 : decode cX5_addPatron 43 = .ok (.iload_n 2, 1) := by decide +kernel
theorem dX5_addPatron_44 : decode cX5_addPatron 44 = .ok (.iadd, 1) := by decide +kernel
theorem dX5_addPatron_45 : decode cX5_addPatron 45 = .ok (.iconst 0, 1) := by decide +kernel
theorem dX5_addPatron_46 : decode cX5_addPatron 46 = .ok (.iastore, 1) := by decide +kernel
theorem dX5_addPatron_47 : decode cX5_addPatron 47 = .ok (.iinc 2 1, 3) := by decide +kernel
theorem dX5_addPatron_50 : decode cX5_addPatron 50 = .ok (.goto (-23), 3) := by decide +kernel
theorem dX5_addPatron_53 : decode cX5_addPatron 53 = .ok (.aload_n 0, 1) := by decide +kernel
theorem dX5_addPatron_54 : decode cX5_addPatron 54 = .ok (.getfield 11, 3) := by decide +kernel
theorem dX5_addPatron_57 : decode cX5_addPatron 57 = .ok (.iconst 2, 1) := by decide +kernel
theorem dX5_addPatron_58 : decode cX5_addPatron 58 = .ok (.dup2, 1) := by decide +kernel
theorem dX5_addPatron_59 : decode cX5_addPatron 59 = .ok (.iaload, 1) := by decide +kernel
theorem dX5_addPatron_60 : decode cX5_addPatron 60 = .ok (.iconst 1, 1) := by decide +kernel
theorem dX5_addPatron_61 : decode cX5_addPatron 61 = .ok (.iadd, 1) := by decide +kernel
theorem dX5_addPatron_62 : decode cX5_addPatron 62 = .ok (.iastore, 1) := by decide +kernel
theorem dX5_addPatron_63 : decode cX5_addPatron 63 = .ok (.aload_n 0, 1) := by decide +kernel
theorem dX5_addPatron_64 : decode cX5_addPatron 64 = .ok (.iload_n 1, 1) := by decide +kernel
theorem dX5_addPatron_65 : decode cX5_addPatron 65 = .ok (.invokevirtual 103, 3) := by decide +kernel
theorem dX5_addPatron_68 : decode cX5_addPatron 68 = .ok (.ireturn, 1) := by decide +kernel
theorem dX5_least_0 : decode cX5_least 0 = .ok (.iload_n 0, 1) := by decide +kernel
theorem dX5_least_1 : decode cX5_least 1 = .ok (.ifCond .eq 19, 3) := by decide +kernel
theorem dX5_least_4 : decode cX5_least 4 = .ok (.iload_n 0, 1) := by decide +kernel
theorem dX5_least_5 : decode cX5_least 5 = .ok (.iconst 1, 1) := by decide +kernel
theorem dX5_least_6 : decode cX5_least 6 = .ok (.if_icmp .eq 14, 3) := by decide +kernel
theorem dX5_least_9 : decode cX5_least 9 = .ok (.iload_n 0, 1) := by decide +kernel
theorem dX5_least_10 : decode cX5_least 10 = .ok (.iconst 4, 1) := by decide +kernel
theorem dX5_least_11 : decode cX5_least 11 = .ok (.if_icmp .eq 9, 3) := by decide +kernel
theorem dX5_least_14 : decode cX5_least 14 = .ok (.iload_n 0, 1) := by decide +kernel
theorem dX5_least_15 : decode cX5_least 15 = .ok (.bipush 7, 2) := by decide +kernel
theorem dX5_least_17 : decode cX5_least 17 = .ok (.if_icmp .ne 7, 3) := by decide +kernel
theorem dX5_least_20 : decode cX5_least 20 = .ok (.iconst 1, 1) := by decide +kernel
theorem dX5_least_21 : decode cX5_least 21 = .ok (.goto 4, 3) := by decide +kernel
theorem dX5_least_24 : decode cX5_least 24 = .ok (.iconst 0, 1) := by decide +kernel
theorem dX5_least_25 : decode cX5_least 25 = .ok (.ireturn, 1) := by decide +kernel
theorem dX5_most_0 : decode cX5_most 0 = .ok (.iload_n 0, 1) := by decide +kernel
theorem dX5_most_1 : decode cX5_most 1 = .ok (.tableswitch 66 0 6 #[43, 46, 49, 53, 57, 60, 63], 43) := by decide +kernel
theorem dX5_most_44 : decode cX5_most 44 = .ok (.bipush 60, 2) := by decide +kernel
theorem dX5_most_46 : decode cX5_most 46 = .ok (.ireturn, 1) := by decide +kernel
theorem dX5_most_47 : decode cX5_most 47 = .ok (.bipush 20, 2) := by decide +kernel
theorem dX5_most_49 : decode cX5_most 49 = .ok (.ireturn, 1) := by decide +kernel
theorem dX5_most_50 : decode cX5_most 50 = .ok (.sipush 1000, 3) := by decide +kernel
theorem dX5_most_53 : decode cX5_most 53 = .ok (.ireturn, 1) := by decide +kernel
theorem dX5_most_54 : decode cX5_most 54 = .ok (.sipush 10000, 3) := by decide +kernel
theorem dX5_most_57 : decode cX5_most 57 = .ok (.ireturn, 1) := by decide +kernel
theorem dX5_most_58 : decode cX5_most 58 = .ok (.ldc 106, 2) := by decide +kernel
theorem dX5_most_60 : decode cX5_most 60 = .ok (.ireturn, 1) := by decide +kernel
theorem dX5_most_61 : decode cX5_most 61 = .ok (.bipush 30, 2) := by decide +kernel
theorem dX5_most_63 : decode cX5_most 63 = .ok (.ireturn, 1) := by decide +kernel
theorem dX5_most_64 : decode cX5_most 64 = .ok (.ldc 106, 2) := by decide +kernel
theorem dX5_most_66 : decode cX5_most 66 = .ok (.ireturn, 1) := by decide +kernel
theorem dX5_most_67 : decode cX5_most 67 = .ok (.sipush 365, 3) := by decide +kernel
theorem dX5_most_70 : decode cX5_most 70 = .ok (.ireturn, 1) := by decide +kernel
theorem dX5_set_0 : decode cX5_set 0 = .ok (.iload_n 1, 1) := by decide +kernel
theorem dX5_set_1 : decode cX5_set 1 = .ok (.iconst 0, 1) := by decide +kernel
theorem dX5_set_2 : decode cX5_set 2 = .ok (.bipush 7, 2) := by decide +kernel
theorem dX5_set_4 : decode cX5_set 4 = .ok (.invokestatic 51, 3) := by decide +kernel
theorem dX5_set_7 : decode cX5_set 7 = .ok (.ifCond .eq 18, 3) := by decide +kernel
theorem dX5_set_10 : decode cX5_set 10 = .ok (.iload_n 2, 1) := by decide +kernel
theorem dX5_set_11 : decode cX5_set 11 = .ok (.iload_n 1, 1) := by decide +kernel
theorem dX5_set_12 : decode cX5_set 12 = .ok (.invokestatic 107, 3) := by decide +kernel
theorem dX5_set_15 : decode cX5_set 15 = .ok (.iload_n 1, 1) := by decide +kernel
theorem dX5_set_16 : decode cX5_set 16 = .ok (.invokestatic 110, 3) := by decide +kernel
theorem dX5_set_19 : decode cX5_set 19 = .ok (.invokestatic 51, 3) := by decide +kernel
theorem dX5_set_22 : decode cX5_set 22 = .ok (.ifCond .ne 5, 3) := by decide +kernel
theorem dX5_set_25 : decode cX5_set 25 = .ok (.iconst (-1), 1) := by decide +kernel
theorem dX5_set_26 : decode cX5_set 26 = .ok (.ireturn, 1) := by decide +kernel
theorem dX5_set_27 : decode cX5_set 27 = .ok (.aload_n 0, 1) := by decide +kernel
theorem dX5_set_28 : decode cX5_set 28 = .ok (.invokevirtual 96, 3) := by decide +kernel
theorem dX5_set_31 : decode cX5_set 31 = .ok (.aload_n 0, 1) := by decide +kernel
theorem dX5_set_32 : decode cX5_set 32 = .ok (.getfield 11, 3) := by decide +kernel
theorem dX5_set_35 : decode cX5_set 35 = .ok (.iconst 5, 1) := by decide +kernel
theorem dX5_set_36 : decode cX5_set 36 = .ok (.iload_n 1, 1) := by decide +kernel
theorem dX5_set_37 : decode cX5_set 37 = .ok (.iadd, 1) := by decide +kernel
theorem dX5_set_38 : decode cX5_set 38 = .ok (.iaload, 1) := by decide +kernel
theorem dX5_set_39 : decode cX5_set 39 = .ok (.istore_n 3, 1) := by decide +kernel
theorem dX5_set_40 : decode cX5_set 40 = .ok (.aload_n 0, 1) := by decide +kernel
theorem dX5_set_41 : decode cX5_set 41 = .ok (.getfield 11, 3) := by decide +kernel
theorem dX5_set_44 : decode cX5_set 44 = .ok (.iconst 5, 1) := by decide +kernel
theorem dX5_set_45 : decode cX5_set 45 = .ok (.iload_n 1, 1) := by decide +kernel
theorem dX5_set_46 : decode cX5_set 46 = .ok (.iadd, 1) := by decide +kernel
theorem dX5_set_47 : decode cX5_set 47 = .ok (.iload_n 2, 1) := by decide +kernel
theorem dX5_set_48 : decode cX5_set 48 = .ok (.iastore, 1) := by decide +kernel
theorem dX5_set_49 : decode cX5_set 49 = .ok (.aload_n 0, 1) := by decide +kernel
theorem dX5_set_50 : decode cX5_set 50 = .ok (.iload_n 3, 1) := by decide +kernel
theorem dX5_set_51 : decode cX5_set 51 = .ok (.invokevirtual 103, 3) := by decide +kernel
theorem dX5_set_54 : decode cX5_set 54 = .ok (.ireturn, 1) := by decide +kernel
theorem dX5_setting_0 : decode cX5_setting 0 = .ok (.iload_n 1, 1) := by decide +kernel
theorem dX5_setting_1 : decode cX5_setting 1 = .ok (.iconst 0, 1) := by decide +kernel
theorem dX5_setting_2 : decode cX5_setting 2 = .ok (.bipush 7, 2) := by decide +kernel
theorem dX5_setting_4 : decode cX5_setting 4 = .ok (.invokestatic 51, 3) := by decide +kernel
theorem dX5_setting_7 : decode cX5_setting 7 = .ok (.ifCond .eq 14, 3) := by decide +kernel
theorem dX5_setting_10 : decode cX5_setting 10 = .ok (.aload_n 0, 1) := by decide +kernel
theorem dX5_setting_11 : decode cX5_setting 11 = .ok (.getfield 11, 3) := by decide +kernel
theorem dX5_setting_14 : decode cX5_setting 14 = .ok (.iconst 5, 1) := by decide +kernel
theorem dX5_setting_15 : decode cX5_setting 15 = .ok (.iload_n 1, 1) := by decide +kernel
theorem dX5_setting_16 : decode cX5_setting 16 = .ok (.iadd, 1) := by decide +kernel
theorem dX5_setting_17 : decode cX5_setting 17 = .ok (.iaload, 1) := by decide +kernel
theorem dX5_setting_18 : decode cX5_setting 18 = .ok (.goto 4, 3) := by decide +kernel
theorem dX5_setting_21 : decode cX5_setting 21 = .ok (.iconst (-1), 1) := by decide +kernel
theorem dX5_setting_22 : decode cX5_setting 22 = .ok (.ireturn, 1) := by decide +kernel
theorem dX5_setFloating_0 : decode cX5_setFloating 0 = .ok (.aload_n 0, 1) := by decide +kernel
theorem dX5_setFloating_1 : decode cX5_setFloating 1 = .ok (.iload_n 1, 1) := by decide +kernel
theorem dX5_setFloating_2 : decode cX5_setFloating 2 = .ok (.invokevirtual 113, 3) := by decide +kernel
theorem dX5_setFloating_5 : decode cX5_setFloating 5 = .ok (.ifCond .ne 5, 3) := by decide +kernel
theorem dX5_setFloating_8 : decode cX5_setFloating 8 = .ok (.iconst (-1), 1) := by decide +kernel
theorem dX5_setFloating_9 : decode cX5_setFloating 9 = .ok (.ireturn, 1) := by decide +kernel
theorem dX5_setFloating_10 : decode cX5_setFloating 10 = .ok (.aload_n 0, 1) := by decide +kernel
theorem dX5_setFloating_11 : decode cX5_setFloating 11 = .ok (.invokevirtual 96, 3) := by decide +kernel
theorem dX5_setFloating_14 : decode cX5_setFloating 14 = .ok (.aload_n 0, 1) := by decide +kernel
theorem dX5_setFloating_15 : decode cX5_setFloating 15 = .ok (.iload_n 1, 1) := by decide +kernel
theorem dX5_setFloating_16 : decode cX5_setFloating 16 = .ok (.iconst 2, 1) := by decide +kernel
theorem dX5_setFloating_17 : decode cX5_setFloating 17 = .ok (.invokevirtual 73, 3) := by decide +kernel
theorem dX5_setFloating_20 : decode cX5_setFloating 20 = .ok (.istore_n 3, 1) := by decide +kernel
theorem dX5_setFloating_21 : decode cX5_setFloating 21 = .ok (.aload_n 0, 1) := by decide +kernel
theorem dX5_setFloating_22 : decode cX5_setFloating 22 = .ok (.iload_n 1, 1) := by decide +kernel
theorem dX5_setFloating_23 : decode cX5_setFloating 23 = .ok (.iconst 2, 1) := by decide +kernel
theorem dX5_setFloating_24 : decode cX5_setFloating 24 = .ok (.iload_n 2, 1) := by decide +kernel
theorem dX5_setFloating_25 : decode cX5_setFloating 25 = .ok (.ifCond .eq 7, 3) := by decide +kernel
theorem dX5_setFloating_28 : decode cX5_setFloating 28 = .ok (.iconst 1, 1) := by decide +kernel
theorem dX5_setFloating_29 : decode cX5_setFloating 29 = .ok (.goto 4, 3) := by decide +kernel
theorem dX5_setFloating_32 : decode cX5_setFloating 32 = .ok (.iconst 0, 1) := by decide +kernel
theorem dX5_setFloating_33 : decode cX5_setFloating 33 = .ok (.invokevirtual 55, 3) := by decide +kernel
theorem dX5_setFloating_36 : decode cX5_setFloating 36 = .ok (.aload_n 0, 1) := by decide +kernel
theorem dX5_setFloating_37 : decode cX5_setFloating 37 = .ok (.iload_n 3, 1) := by decide +kernel
theorem dX5_setFloating_38 : decode cX5_setFloating 38 = .ok (.invokevirtual 103, 3) := by decide +kernel
theorem dX5_setFloating_41 : decode cX5_setFloating 41 = .ok (.ireturn, 1) := by decide +kernel
theorem dX5_copyCount_0 : decode cX5_copyCount 0 = .ok (.iload_n 1, 1) := by decide +kernel
theorem dX5_copyCount_1 : decode cX5_copyCount 1 = .ok (.iconst (-1), 1) := by decide +kernel
theorem dX5_copyCount_2 : decode cX5_copyCount 2 = .ok (.iconst 5, 1) := by decide +kernel
theorem dX5_copyCount_3 : decode cX5_copyCount 3 = .ok (.invokestatic 51, 3) := by decide +kernel
theorem dX5_copyCount_6 : decode cX5_copyCount 6 = .ok (.ifCond .ne 5, 3) := by decide +kernel
theorem dX5_copyCount_9 : decode cX5_copyCount 9 = .ok (.iconst (-1), 1) := by decide +kernel
theorem dX5_copyCount_10 : decode cX5_copyCount 10 = .ok (.ireturn, 1) := by decide +kernel
theorem dX5_copyCount_11 : decode cX5_copyCount 11 = .ok (.iconst 0, 1) := by decide +kernel
theorem dX5_copyCount_12 : decode cX5_copyCount 12 = .ok (.istore_n 2, 1) := by decide +kernel
theorem dX5_copyCount_13 : decode cX5_copyCount 13 = .ok (.iconst 0, 1) := by decide +kernel
theorem dX5_copyCount_14 : decode cX5_copyCount 14 = .ok (.istore_n 3, 1) := by decide +kernel
theorem dX5_copyCount_15 : decode cX5_copyCount 15 = .ok (.iload_n 3, 1) := by decide +kernel
theorem dX5_copyCount_16 : decode cX5_copyCount 16 = .ok (.aload_n 0, 1) := by decide +kernel
theorem dX5_copyCount_17 : decode cX5_copyCount 17 = .ok (.getfield 11, 3) := by decide +kernel
theorem dX5_copyCount_20 : decode cX5_copyCount 20 = .ok (.iconst 1, 1) := by decide +kernel
theorem dX5_copyCount_21 : decode cX5_copyCount 21 = .ok (.iaload, 1) := by decide +kernel
theorem dX5_copyCount_22 : decode cX5_copyCount 22 = .ok (.if_icmp .ge 31, 3) := by decide +kernel
theorem dX5_copyCount_25 : decode cX5_copyCount 25 = .ok (.iload_n 2, 1) := by decide +kernel
theorem dX5_copyCount_26 : decode cX5_copyCount 26 = .ok (.iload_n 1, 1) := by decide +kernel
theorem dX5_copyCount_27 : decode cX5_copyCount 27 = .ok (.ifCond .lt 13, 3) := by decide +kernel
theorem dX5_copyCount_30 : decode cX5_copyCount 30 = .ok (.aload_n 0, 1) := by decide +kernel
theorem dX5_copyCount_31 : decode cX5_copyCount 31 = .ok (.iload_n 3, 1) := by decide +kernel
theorem dX5_copyCount_32 : decode cX5_copyCount 32 = .ok (.iconst 3, 1) := by decide +kernel
theorem dX5_copyCount_33 : decode cX5_copyCount 33 = .ok (.invokevirtual 73, 3) := by decide +kernel
theorem dX5_copyCount_36 : decode cX5_copyCount 36 = .ok (.iload_n 1, 1) := by decide +kernel
theorem dX5_copyCount_37 : decode cX5_copyCount 37 = .ok (.if_icmp .ne 7, 3) := by decide +kernel
theorem dX5_copyCount_40 : decode cX5_copyCount 40 = .ok (.iconst 1, 1) := by decide +kernel
theorem dX5_copyCount_41 : decode cX5_copyCount 41 = .ok (.goto 4, 3) := by decide +kernel
theorem dX5_copyCount_44 : decode cX5_copyCount 44 = .ok (.iconst 0, 1) := by decide +kernel
theorem dX5_copyCount_45 : decode cX5_copyCount 45 = .ok (.iadd, 1) := by decide +kernel
theorem dX5_copyCount_46 : decode cX5_copyCount 46 = .ok (.istore_n 2, 1) := by decide +kernel
theorem dX5_copyCount_47 : decode cX5_copyCount 47 = .ok (.iinc 3 1, 3) := by decide +kernel
theorem dX5_copyCount_50 : decode cX5_copyCount 50 = .ok (.goto (-35), 3) := by decide +kernel
theorem dX5_copyCount_53 : decode cX5_copyCount 53 = .ok (.iload_n 2, 1) := by decide +kernel
theorem dX5_copyCount_54 : decode cX5_copyCount 54 = .ok (.ireturn, 1) := by decide +kernel
theorem dX5_copy_0 : decode cX5_copy 0 = .ok (.aload_n 0, 1) := by decide +kernel
theorem dX5_copy_1 : decode cX5_copy 1 = .ok (.iload_n 1, 1) := by decide +kernel
theorem dX5_copy_2 : decode cX5_copy 2 = .ok (.invokevirtual 113, 3) := by decide +kernel
theorem dX5_copy_5 : decode cX5_copy 5 = .ok (.ifCond .eq 13, 3) := by decide +kernel
theorem dX5_copy_8 : decode cX5_copy 8 = .ok (.iload_n 2, 1) := by decide +kernel
theorem dX5_copy_9 : decode cX5_copy 9 = .ok (.iconst 0, 1) := by decide +kernel
theorem dX5_copy_10 : decode cX5_copy 10 = .ok (.bipush 9, 2) := by decide +kernel
theorem dX5_copy_12 : decode cX5_copy 12 = .ok (.invokestatic 51, 3) := by decide +kernel
theorem dX5_copy_15 : decode cX5_copy 15 = .ok (.ifCond .ne 5, 3) := by decide +kernel
theorem dX5_copy_18 : decode cX5_copy 18 = .ok (.iconst (-1), 1) := by decide +kernel
theorem dX5_copy_19 : decode cX5_copy 19 = .ok (.ireturn, 1) := by decide +kernel
theorem dX5_copy_20 : decode cX5_copy 20 = .ok (.iload_n 2, 1) := by decide +kernel
theorem dX5_copy_21 : decode cX5_copy 21 = .ok (.iconst 5, 1) := by decide +kernel
theorem dX5_copy_22 : decode cX5_copy 22 = .ok (.if_icmp .ge 10, 3) := by decide +kernel
theorem dX5_copy_25 : decode cX5_copy 25 = .ok (.aload_n 0, 1) := by decide +kernel
theorem dX5_copy_26 : decode cX5_copy 26 = .ok (.iload_n 1, 1) := by decide +kernel
theorem dX5_copy_27 : decode cX5_copy 27 = .ok (.iload_n 2, 1) := by decide +kernel
theorem dX5_copy_28 : decode cX5_copy 28 = .ok (.invokevirtual 73, 3) := by decide +kernel
theorem dX5_copy_31 : decode cX5_copy 31 = .ok (.ireturn, 1) := by decide +kernel
theorem dX5_copy_32 : decode cX5_copy 32 = .ok (.aload_n 0, 1) := by decide +kernel
theorem dX5_copy_33 : decode cX5_copy 33 = .ok (.iload_n 1, 1) := by decide +kernel
theorem dX5_copy_34 : decode cX5_copy 34 = .ok (.iconst 3, 1) := by decide +kernel
theorem dX5_copy_35 : decode cX5_copy 35 = .ok (.invokevirtual 73, 3) := by decide +kernel
theorem dX5_copy_38 : decode cX5_copy 38 = .ok (.istore_n 3, 1) := by decide +kernel
theorem dX5_copy_39 : decode cX5_copy 39 = .ok (.iload_n 2, 1) := by decide +kernel
theorem dX5_copy_40 : decode cX5_copy 40 = .ok (.iconst 5, 1) := by decide +kernel
theorem dX5_copy_41 : decode cX5_copy 41 = .ok (.if_icmp .ne 43, 3) := by decide +kernel
theorem dX5_copy_44 : decode cX5_copy 44 = .ok (.iload_n 3, 1) := by decide +kernel
theorem dX5_copy_45 : decode cX5_copy 45 = .ok (.iconst 2, 1) := by decide +kernel
theorem dX5_copy_46 : decode cX5_copy 46 = .ok (.if_icmp .eq 8, 3) := by decide +kernel
theorem dX5_copy_49 : decode cX5_copy 49 = .ok (.iload_n 3, 1) := by decide +kernel
theorem dX5_copy_50 : decode cX5_copy 50 = .ok (.iconst 3, 1) := by decide +kernel
theorem dX5_copy_51 : decode cX5_copy 51 = .ok (.if_icmp .ne 11, 3) := by decide +kernel
theorem dX5_copy_54 : decode cX5_copy 54 = .ok (.aload_n 0, 1) := by decide +kernel
theorem dX5_copy_55 : decode cX5_copy 55 = .ok (.iload_n 1, 1) := by decide +kernel
theorem dX5_copy_56 : decode cX5_copy 56 = .ok (.invokevirtual 116, 3) := by decide +kernel
theorem dX5_copy_59 : decode cX5_copy 59 = .ok (.goto 5, 3) := by decide +kernel
theorem dX5_copy_62 : decode cX5_copy 62 = .ok (.bipush (-2), 2) := by decide +kernel
theorem dX5_copy_64 : decode cX5_copy 64 = .ok (.istore 4, 2) := by decide +kernel
theorem dX5_copy_66 : decode cX5_copy 66 = .ok (.iload 4, 2) := by decide +kernel
theorem dX5_copy_68 : decode cX5_copy 68 = .ok (.ifCond .ge 8, 3) := by decide +kernel
theorem dX5_copy_71 : decode cX5_copy 71 = .ok (.bipush (-2), 2) := by decide +kernel
theorem dX5_copy_73 : decode cX5_copy 73 = .ok (.goto 10, 3) := by decide +kernel
theorem dX5_copy_76 : decode cX5_copy 76 = .ok (.aload_n 0, 1) := by decide +kernel
theorem dX5_copy_77 : decode cX5_copy 77 = .ok (.iload 4, 2) := by decide +kernel
theorem dX5_copy_79 : decode cX5_copy 79 = .ok (.iconst 1, 1) := by decide +kernel
theorem dX5_copy_80 : decode cX5_copy 80 = .ok (.invokevirtual 59, 3) := by decide +kernel
theorem dX5_copy_83 : decode cX5_copy 83 = .ok (.ireturn, 1) := by decide +kernel
theorem dX5_copy_84 : decode cX5_copy 84 = .ok (.iload_n 2, 1) := by decide +kernel
theorem dX5_copy_85 : decode cX5_copy 85 = .ok (.bipush 6, 2) := by decide +kernel
theorem dX5_copy_87 : decode cX5_copy 87 = .ok (.if_icmp .ne 24, 3) := by decide +kernel
theorem dX5_copy_90 : decode cX5_copy 90 = .ok (.iload_n 3, 1) := by decide +kernel
theorem dX5_copy_91 : decode cX5_copy 91 = .ok (.ifCond .eq 8, 3) := by decide +kernel
theorem dX5_copy_94 : decode cX5_copy 94 = .ok (.iload_n 3, 1) := by decide +kernel
theorem dX5_copy_95 : decode cX5_copy 95 = .ok (.iconst 5, 1) := by decide +kernel
theorem dX5_copy_96 : decode cX5_copy 96 = .ok (.if_icmp .ne 8, 3) := by decide +kernel
theorem dX5_copy_99 : decode cX5_copy 99 = .ok (.bipush (-2), 2) := by decide +kernel
theorem dX5_copy_101 : decode cX5_copy 101 = .ok (.goto 9, 3) := by decide +kernel
theorem dX5_copy_104 : decode cX5_copy 104 = .ok (.aload_n 0, 1) := by decide +kernel
theorem dX5_copy_105 : decode cX5_copy 105 = .ok (.iload_n 1, 1) := by decide +kernel
theorem dX5_copy_106 : decode cX5_copy 106 = .ok (.iconst 5, 1) := by decide +kernel
theorem dX5_copy_107 : decode cX5_copy 107 = .ok (.invokevirtual 73, 3) := by decide +kernel
theorem dX5_copy_110 : decode cX5_copy 110 = .ok (.ireturn, 1) := by decide +kernel
theorem dX5_copy_111 : decode cX5_copy 111 = .ok (.iload_n 3, 1) := by decide +kernel
theorem dX5_copy_112 : decode cX5_copy 112 = .ok (.ifCond .eq 13, 3) := by decide +kernel
theorem dX5_copy_115 : decode cX5_copy 115 = .ok (.iload_n 3, 1) := by decide +kernel
theorem dX5_copy_116 : decode cX5_copy 116 = .ok (.iconst 2, 1) := by decide +kernel
theorem dX5_copy_117 : decode cX5_copy 117 = .ok (.if_icmp .eq 8, 3) := by decide +kernel
theorem dX5_copy_120 : decode cX5_copy 120 = .ok (.iload_n 3, 1) := by decide +kernel
theorem dX5_copy_121 : decode cX5_copy 121 = .ok (.iconst 3, 1) := by decide +kernel
theorem dX5_copy_122 : decode cX5_copy 122 = .ok (.if_icmp .ne 8, 3) := by decide +kernel
theorem dX5_copy_125 : decode cX5_copy 125 = .ok (.bipush (-2), 2) := by decide +kernel
theorem dX5_copy_127 : decode cX5_copy 127 = .ok (.goto 32, 3) := by decide +kernel
theorem dX5_copy_130 : decode cX5_copy 130 = .ok (.aload_n 0, 1) := by decide +kernel
theorem dX5_copy_131 : decode cX5_copy 131 = .ok (.iload_n 1, 1) := by decide +kernel
theorem dX5_copy_132 : decode cX5_copy 132 = .ok (.iload_n 2, 1) := by decide +kernel
theorem dX5_copy_133 : decode cX5_copy 133 = .ok (.bipush 7, 2) := by decide +kernel
theorem dX5_copy_135 : decode cX5_copy 135 = .ok (.if_icmp .ne 8, 3) := by decide +kernel
theorem dX5_copy_138 : decode cX5_copy 138 = .ok (.bipush 6, 2) := by decide +kernel
theorem dX5_copy_140 : decode cX5_copy 140 = .ok (.goto 16, 3) := by decide +kernel
theorem dX5_copy_143 : decode cX5_copy 143 = .ok (.iload_n 2, 1) := by decide +kernel
theorem dX5_copy_144 : decode cX5_copy 144 = .ok (.bipush 8, 2) := by decide +kernel
theorem dX5_copy_146 : decode cX5_copy 146 = .ok (.if_icmp .ne 8, 3) := by decide +kernel
theorem dX5_copy_149 : decode cX5_copy 149 = .ok (.bipush 7, 2) := by decide +kernel
theorem dX5_copy_151 : decode cX5_copy 151 = .ok (.goto 5, 3) := by decide +kernel
theorem dX5_copy_154 : decode cX5_copy 154 = .ok (.bipush 8, 2) := by decide +kernel
theorem dX5_copy_156 : decode cX5_copy 156 = .ok (.invokevirtual 73, 3) := by decide +kernel
theorem dX5_copy_159 : decode cX5_copy 159 = .ok (.ireturn, 1) := by decide +kernel
theorem dX5_day_0 : decode cX5_day 0 = .ok (.aload_n 0, 1) := by decide +kernel
theorem dX5_day_1 : decode cX5_day 1 = .ok (.getfield 11, 3) := by decide +kernel
theorem dX5_day_4 : decode cX5_day 4 = .ok (.iconst 0, 1) := by decide +kernel
theorem dX5_day_5 : decode cX5_day 5 = .ok (.iaload, 1) := by decide +kernel
theorem dX5_day_6 : decode cX5_day 6 = .ok (.ireturn, 1) := by decide +kernel
theorem dX5_arrive_0 : decode cX5_arrive 0 = .ok (.iconst 0, 1) := by decide +kernel
theorem dX5_arrive_1 : decode cX5_arrive 1 = .ok (.istore_n 1, 1) := by decide +kernel
theorem dX5_arrive_2 : decode cX5_arrive 2 = .ok (.iload_n 1, 1) := by decide +kernel
theorem dX5_arrive_3 : decode cX5_arrive 3 = .ok (.aload_n 0, 1) := by decide +kernel
theorem dX5_arrive_4 : decode cX5_arrive 4 = .ok (.getfield 11, 3) := by decide +kernel
theorem dX5_arrive_7 : decode cX5_arrive 7 = .ok (.iconst 1, 1) := by decide +kernel
theorem dX5_arrive_8 : decode cX5_arrive 8 = .ok (.iaload, 1) := by decide +kernel
theorem dX5_arrive_9 : decode cX5_arrive 9 = .ok (.if_icmp .ge 85, 3) := by decide +kernel
theorem dX5_arrive_12 : decode cX5_arrive 12 = .ok (.aload_n 0, 1) := by decide +kernel
theorem dX5_arrive_13 : decode cX5_arrive 13 = .ok (.iload_n 1, 1) := by decide +kernel
theorem dX5_arrive_14 : decode cX5_arrive 14 = .ok (.iconst 3, 1) := by decide +kernel
theorem dX5_arrive_15 : decode cX5_arrive 15 = .ok (.invokevirtual 73, 3) := by decide +kernel
theorem dX5_arrive_18 : decode cX5_arrive 18 = .ok (.iconst 2, 1) := by decide +kernel
theorem dX5_arrive_19 : decode cX5_arrive 19 = .ok (.if_icmp .ne 69, 3) := by decide +kernel
theorem dX5_arrive_22 : decode cX5_arrive 22 = .ok (.aload_n 0, 1) := by decide +kernel
theorem dX5_arrive_23 : decode cX5_arrive 23 = .ok (.iload_n 1, 1) := by decide +kernel
theorem dX5_arrive_24 : decode cX5_arrive 24 = .ok (.iconst 5, 1) := by decide +kernel
theorem dX5_arrive_25 : decode cX5_arrive 25 = .ok (.invokevirtual 73, 3) := by decide +kernel
theorem dX5_arrive_28 : decode cX5_arrive 28 = .ok (.aload_n 0, 1) := by decide +kernel
theorem dX5_arrive_29 : decode cX5_arrive 29 = .ok (.getfield 11, 3) := by decide +kernel
theorem dX5_arrive_32 : decode cX5_arrive 32 = .ok (.iconst 0, 1) := by decide +kernel
theorem dX5_arrive_33 : decode cX5_arrive 33 = .ok (.iaload, 1) := by decide +kernel
theorem dX5_arrive_34 : decode cX5_arrive 34 = .ok (.if_icmp .le 6, 3) := by decide +kernel
theorem dX5_arrive_37 : decode cX5_arrive 37 = .ok (.goto 51, 3) := by decide +kernel
theorem dX5_arrive_40 : decode cX5_arrive 40 = .ok (.aload_n 0, 1) := by decide +kernel
theorem dX5_arrive_41 : decode cX5_arrive 41 = .ok (.iload_n 1, 1) := by decide +kernel
theorem dX5_arrive_42 : decode cX5_arrive 42 = .ok (.invokevirtual 116, 3) := by decide +kernel
theorem dX5_arrive_45 : decode cX5_arrive 45 = .ok (.ifCond .lt 32, 3) := by decide +kernel
theorem dX5_arrive_48 : decode cX5_arrive 48 = .ok (.aload_n 0, 1) := by decide +kernel
theorem dX5_arrive_49 : decode cX5_arrive 49 = .ok (.iload_n 1, 1) := by decide +kernel
theorem dX5_arrive_50 : decode cX5_arrive 50 = .ok (.iconst 3, 1) := by decide +kernel
theorem dX5_arrive_51 : decode cX5_arrive 51 = .ok (.aload_n 0, 1) := by decide +kernel
theorem dX5_arrive_52 : decode cX5_arrive 52 = .ok (.iload_n 1, 1) := by decide +kernel
theorem dX5_arrive_53 : decode cX5_arrive 53 = .ok (.iconst 4, 1) := by decide +kernel
theorem dX5_arrive_54 : decode cX5_arrive 54 = .ok (.invokevirtual 73, 3) := by decide +kernel
theorem dX5_arrive_57 : decode cX5_arrive 57 = .ok (.aload_n 0, 1) := by decide +kernel
theorem dX5_arrive_58 : decode cX5_arrive 58 = .ok (.getfield 11, 3) := by decide +kernel
theorem dX5_arrive_61 : decode cX5_arrive 61 = .ok (.iconst 0, 1) := by decide +kernel
theorem dX5_arrive_62 : decode cX5_arrive 62 = .ok (.iaload, 1) := by decide +kernel
theorem dX5_arrive_63 : decode cX5_arrive 63 = .ok (.aload_n 0, 1) := by decide +kernel
theorem dX5_arrive_64 : decode cX5_arrive 64 = .ok (.getfield 11, 3) := by decide +kernel
theorem dX5_arrive_67 : decode cX5_arrive 67 = .ok (.bipush 10, 2) := by decide +kernel
theorem dX5_arrive_69 : decode cX5_arrive 69 = .ok (.iaload, 1) := by decide +kernel
theorem dX5_arrive_70 : decode cX5_arrive 70 = .ok (.iadd, 1) := by decide +kernel
theorem dX5_arrive_71 : decode cX5_arrive 71 = .ok (.invokevirtual 63, 3) := by decide +kernel
theorem dX5_arrive_74 : decode cX5_arrive 74 = .ok (.goto 14, 3) := by decide +kernel
theorem dX5_arrive_77 : decode cX5_arrive 77 = .ok (.aload_n 0, 1) := by decide +kernel
theorem dX5_arrive_78 : decode cX5_arrive 78 = .ok (.iload_n 1, 1) := by decide +kernel
theorem dX5_arrive_79 : decode cX5_arrive 79 = .ok (.aload_n 0, 1) := by decide +kernel
theorem dX5_arrive_80 : decode cX5_arrive 80 = .ok (.iload_n 1, 1) := by decide +kernel
theorem dX5_arrive_81 : decode cX5_arrive 81 = .ok (.iconst 4, 1) := by decide +kernel
theorem dX5_arrive_82 : decode cX5_arrive 82 = .ok (.invokevirtual 73, 3) := by decide +kernel
theorem dX5_arrive_85 : decode cX5_arrive 85 = .ok (.invokevirtual 99, 3) := by decide +kernel
theorem dX5_arrive_88 : decode cX5_arrive 88 = .ok (.iinc 1 1, 3) := by decide +kernel
theorem dX5_arrive_91 : decode cX5_arrive 91 = .ok (.goto (-89), 3) := by decide +kernel
theorem dX5_arrive_94 : decode cX5_arrive 94 = .ok (.return_, 1) := by decide +kernel
theorem dX5_expire_0 : decode cX5_expire 0 = .ok (.iconst 0, 1) := by decide +kernel
theorem dX5_expire_1 : decode cX5_expire 1 = .ok (.istore_n 1, 1) := by decide +kernel
theorem dX5_expire_2 : decode cX5_expire 2 = .ok (.iload_n 1, 1) := by decide +kernel
theorem dX5_expire_3 : decode cX5_expire 3 = .ok (.aload_n 0, 1) := by decide +kernel
theorem dX5_expire_4 : decode cX5_expire 4 = .ok (.getfield 11, 3) := by decide +kernel
theorem dX5_expire_7 : decode cX5_expire 7 = .ok (.iconst 1, 1) := by decide +kernel
theorem dX5_expire_8 : decode cX5_expire 8 = .ok (.iaload, 1) := by decide +kernel
theorem dX5_expire_9 : decode cX5_expire 9 = .ok (.if_icmp .ge 57, 3) := by decide +kernel
theorem dX5_expire_12 : decode cX5_expire 12 = .ok (.aload_n 0, 1) := by decide +kernel
theorem dX5_expire_13 : decode cX5_expire 13 = .ok (.iload_n 1, 1) := by decide +kernel
theorem dX5_expire_14 : decode cX5_expire 14 = .ok (.iconst 3, 1) := by decide +kernel
theorem dX5_expire_15 : decode cX5_expire 15 = .ok (.invokevirtual 73, 3) := by decide +kernel
theorem dX5_expire_18 : decode cX5_expire 18 = .ok (.iconst 3, 1) := by decide +kernel
theorem dX5_expire_19 : decode cX5_expire 19 = .ok (.if_icmp .ne 41, 3) := by decide +kernel
theorem dX5_expire_22 : decode cX5_expire 22 = .ok (.aload_n 0, 1) := by decide +kernel
theorem dX5_expire_23 : decode cX5_expire 23 = .ok (.iload_n 1, 1) := by decide +kernel
theorem dX5_expire_24 : decode cX5_expire 24 = .ok (.iconst 5, 1) := by decide +kernel
theorem dX5_expire_25 : decode cX5_expire 25 = .ok (.invokevirtual 73, 3) := by decide +kernel
theorem dX5_expire_28 : decode cX5_expire 28 = .ok (.aload_n 0, 1) := by decide +kernel
theorem dX5_expire_29 : decode cX5_expire 29 = .ok (.getfield 11, 3) := by decide +kernel
theorem dX5_expire_32 : decode cX5_expire 32 = .ok (.iconst 0, 1) := by decide +kernel
theorem dX5_expire_33 : decode cX5_expire 33 = .ok (.iaload, 1) := by decide +kernel
theorem dX5_expire_34 : decode cX5_expire 34 = .ok (.if_icmp .lt 6, 3) := by decide +kernel
theorem dX5_expire_37 : decode cX5_expire 37 = .ok (.goto 23, 3) := by decide +kernel
theorem dX5_expire_40 : decode cX5_expire 40 = .ok (.aload_n 0, 1) := by decide +kernel
theorem dX5_expire_41 : decode cX5_expire 41 = .ok (.aload_n 0, 1) := by decide +kernel
theorem dX5_expire_42 : decode cX5_expire 42 = .ok (.iload_n 1, 1) := by decide +kernel
theorem dX5_expire_43 : decode cX5_expire 43 = .ok (.invokevirtual 116, 3) := by decide +kernel
theorem dX5_expire_46 : decode cX5_expire 46 = .ok (.invokevirtual 119, 3) := by decide +kernel
theorem dX5_expire_49 : decode cX5_expire 49 = .ok (.aload_n 0, 1) := by decide +kernel
theorem dX5_expire_50 : decode cX5_expire 50 = .ok (.iload_n 1, 1) := by decide +kernel
theorem dX5_expire_51 : decode cX5_expire 51 = .ok (.aload_n 0, 1) := by decide +kernel
theorem dX5_expire_52 : decode cX5_expire 52 = .ok (.iload_n 1, 1) := by decide +kernel
theorem dX5_expire_53 : decode cX5_expire 53 = .ok (.iconst 4, 1) := by decide +kernel
theorem dX5_expire_54 : decode cX5_expire 54 = .ok (.invokevirtual 73, 3) := by decide +kernel
theorem dX5_expire_57 : decode cX5_expire 57 = .ok (.invokevirtual 99, 3) := by decide +kernel
theorem dX5_expire_60 : decode cX5_expire 60 = .ok (.iinc 1 1, 3) := by decide +kernel
theorem dX5_expire_63 : decode cX5_expire 63 = .ok (.goto (-61), 3) := by decide +kernel
theorem dX5_expire_66 : decode cX5_expire 66 = .ok (.return_, 1) := by decide +kernel
theorem dX5_loses_0 : decode cX5_loses 0 = .ok (.aload_n 0, 1) := by decide +kernel
theorem dX5_loses_1 : decode cX5_loses 1 = .ok (.iload_n 1, 1) := by decide +kernel
theorem dX5_loses_2 : decode cX5_loses 2 = .ok (.iconst 3, 1) := by decide +kernel
theorem dX5_loses_3 : decode cX5_loses 3 = .ok (.invokevirtual 73, 3) := by decide +kernel
theorem dX5_loses_6 : decode cX5_loses 6 = .ok (.iconst 1, 1) := by decide +kernel
theorem dX5_loses_7 : decode cX5_loses 7 = .ok (.if_icmp .ne 15, 3) := by decide +kernel
theorem dX5_loses_10 : decode cX5_loses 10 = .ok (.aload_n 0, 1) := by decide +kernel
theorem dX5_loses_11 : decode cX5_loses 11 = .ok (.iload_n 1, 1) := by decide +kernel
theorem dX5_loses_12 : decode cX5_loses 12 = .ok (.bipush 9, 2) := by decide +kernel
theorem dX5_loses_14 : decode cX5_loses 14 = .ok (.aload_n 0, 1) := by decide +kernel
theorem dX5_loses_15 : decode cX5_loses 15 = .ok (.iload_n 1, 1) := by decide +kernel
theorem dX5_loses_16 : decode cX5_loses 16 = .ok (.invokevirtual 123, 3) := by decide +kernel
theorem dX5_loses_19 : decode cX5_loses 19 = .ok (.invokevirtual 55, 3) := by decide +kernel
theorem dX5_loses_22 : decode cX5_loses 22 = .ok (.aload_n 0, 1) := by decide +kernel
theorem dX5_loses_23 : decode cX5_loses 23 = .ok (.iload_n 1, 1) := by decide +kernel
theorem dX5_loses_24 : decode cX5_loses 24 = .ok (.iconst 5, 1) := by decide +kernel
theorem dX5_loses_25 : decode cX5_loses 25 = .ok (.aload_n 0, 1) := by decide +kernel
theorem dX5_loses_26 : decode cX5_loses 26 = .ok (.iload_n 1, 1) := by decide +kernel
theorem dX5_loses_27 : decode cX5_loses 27 = .ok (.iconst 4, 1) := by decide +kernel
theorem dX5_loses_28 : decode cX5_loses 28 = .ok (.invokevirtual 73, 3) := by decide +kernel
theorem dX5_loses_31 : decode cX5_loses 31 = .ok (.iconst 0, 1) := by decide +kernel
theorem dX5_loses_32 : decode cX5_loses 32 = .ok (.invokevirtual 63, 3) := by decide +kernel
theorem dX5_loses_35 : decode cX5_loses 35 = .ok (.aload_n 0, 1) := by decide +kernel
theorem dX5_loses_36 : decode cX5_loses 36 = .ok (.iload_n 1, 1) := by decide +kernel
theorem dX5_loses_37 : decode cX5_loses 37 = .ok (.bipush 10, 2) := by decide +kernel
theorem dX5_loses_39 : decode cX5_loses 39 = .ok (.aload_n 0, 1) := by decide +kernel
theorem dX5_loses_40 : decode cX5_loses 40 = .ok (.getfield 11, 3) := by decide +kernel
theorem dX5_loses_43 : decode cX5_loses 43 = .ok (.bipush 11, 2) := by decide +kernel
theorem dX5_loses_45 : decode cX5_loses 45 = .ok (.iaload, 1) := by decide +kernel
theorem dX5_loses_46 : decode cX5_loses 46 = .ok (.invokevirtual 55, 3) := by decide +kernel
theorem dX5_loses_49 : decode cX5_loses 49 = .ok (.aload_n 0, 1) := by decide +kernel
theorem dX5_loses_50 : decode cX5_loses 50 = .ok (.iconst 1, 1) := by decide +kernel
theorem dX5_loses_51 : decode cX5_loses 51 = .ok (.aload_n 0, 1) := by decide +kernel
theorem dX5_loses_52 : decode cX5_loses 52 = .ok (.iload_n 1, 1) := by decide +kernel
theorem dX5_loses_53 : decode cX5_loses 53 = .ok (.iconst 4, 1) := by decide +kernel
theorem dX5_loses_54 : decode cX5_loses 54 = .ok (.invokevirtual 73, 3) := by decide +kernel
theorem dX5_loses_57 : decode cX5_loses 57 = .ok (.aload_n 0, 1) := by decide +kernel
theorem dX5_loses_58 : decode cX5_loses 58 = .ok (.getfield 11, 3) := by decide +kernel
theorem dX5_loses_61 : decode cX5_loses 61 = .ok (.bipush 11, 2) := by decide +kernel
theorem dX5_loses_63 : decode cX5_loses 63 = .ok (.iaload, 1) := by decide +kernel
theorem dX5_loses_64 : decode cX5_loses 64 = .ok (.iload_n 1, 1) := by decide +kernel
theorem dX5_loses_65 : decode cX5_loses 65 = .ok (.invokevirtual 126, 3) := by decide +kernel
theorem dX5_loses_68 : decode cX5_loses 68 = .ok (.return_, 1) := by decide +kernel
theorem dX5_passes_0 : decode cX5_passes 0 = .ok (.iload_n 1, 1) := by decide +kernel
theorem dX5_passes_1 : decode cX5_passes 1 = .ok (.iconst 1, 1) := by decide +kernel
theorem dX5_passes_2 : decode cX5_passes 2 = .ok (.sipush 400, 3) := by decide +kernel
theorem dX5_passes_5 : decode cX5_passes 5 = .ok (.invokestatic 51, 3) := by decide +kernel
theorem dX5_passes_8 : decode cX5_passes 8 = .ok (.ifCond .ne 5, 3) := by decide +kernel
theorem dX5_passes_11 : decode cX5_passes 11 = .ok (.iconst (-1), 1) := by decide +kernel
theorem dX5_passes_12 : decode cX5_passes 12 = .ok (.ireturn, 1) := by decide +kernel
theorem dX5_passes_13 : decode cX5_passes 13 = .ok (.iconst 0, 1) := by decide +kernel
theorem dX5_passes_14 : decode cX5_passes 14 = .ok (.istore_n 2, 1) := by decide +kernel
theorem dX5_passes_15 : decode cX5_passes 15 = .ok (.iload_n 2, 1) := by decide +kernel
theorem dX5_passes_16 : decode cX5_passes 16 = .ok (.iload_n 1, 1) := by decide +kernel
theorem dX5_passes_17 : decode cX5_passes 17 = .ok (.if_icmp .ge 83, 3) := by decide +kernel
theorem dX5_passes_20 : decode cX5_passes 20 = .ok (.aload_n 0, 1) := by decide +kernel
theorem dX5_passes_21 : decode cX5_passes 21 = .ok (.getfield 11, 3) := by decide +kernel
theorem dX5_passes_24 : decode cX5_passes 24 = .ok (.iconst 0, 1) := by decide +kernel
theorem dX5_passes_25 : decode cX5_passes 25 = .ok (.dup2, 1) := by decide +kernel
theorem dX5_passes_26 : decode cX5_passes 26 = .ok (.iaload, 1) := by decide +kernel
theorem dX5_passes_27 : decode cX5_passes 27 = .ok (.iconst 1, 1) := by decide +kernel
theorem dX5_passes_28 : decode cX5_passes 28 = .ok (.iadd, 1) := by decide +kernel
theorem dX5_passes_29 : decode cX5_passes 29 = .ok (.iastore, 1) := by decide +kernel
theorem dX5_passes_30 : decode cX5_passes 30 = .ok (.aload_n 0, 1) := by decide +kernel
theorem dX5_passes_31 : decode cX5_passes 31 = .ok (.invokevirtual 129, 3) := by decide +kernel
theorem dX5_passes_34 : decode cX5_passes 34 = .ok (.aload_n 0, 1) := by decide +kernel
theorem dX5_passes_35 : decode cX5_passes 35 = .ok (.invokevirtual 132, 3) := by decide +kernel
theorem dX5_passes_38 : decode cX5_passes 38 = .ok (.iconst 0, 1) := by decide +kernel
theorem dX5_passes_39 : decode cX5_passes 39 = .ok (.istore_n 3, 1) := by decide +kernel
theorem dX5_passes_40 : decode cX5_passes 40 = .ok (.iload_n 3, 1) := by decide +kernel
theorem dX5_passes_41 : decode cX5_passes 41 = .ok (.aload_n 0, 1) := by decide +kernel
theorem dX5_passes_42 : decode cX5_passes 42 = .ok (.getfield 11, 3) := by decide +kernel
theorem dX5_passes_45 : decode cX5_passes 45 = .ok (.iconst 1, 1) := by decide +kernel
theorem dX5_passes_46 : decode cX5_passes 46 = .ok (.iaload, 1) := by decide +kernel
theorem dX5_passes_47 : decode cX5_passes 47 = .ok (.if_icmp .ge 47, 3) := by decide +kernel
theorem dX5_passes_50 : decode cX5_passes 50 = .ok (.aload_n 0, 1) := by decide +kernel
theorem dX5_passes_51 : decode cX5_passes 51 = .ok (.iload_n 3, 1) := by decide +kernel
theorem dX5_passes_52 : decode cX5_passes 52 = .ok (.iconst 3, 1) := by decide +kernel
theorem dX5_passes_53 : decode cX5_passes 53 = .ok (.invokevirtual 73, 3) := by decide +kernel
theorem dX5_passes_56 : decode cX5_passes 56 = .ok (.iconst 4, 1) := by decide +kernel
theorem dX5_passes_57 : decode cX5_passes 57 = .ok (.if_icmp .ne 31, 3) := by decide +kernel
theorem dX5_passes_60 : decode cX5_passes 60 = .ok (.aload_n 0, 1) := by decide +kernel
theorem dX5_passes_61 : decode cX5_passes 61 = .ok (.getfield 11, 3) := by decide +kernel
theorem dX5_passes_64 : decode cX5_passes 64 = .ok (.iconst 0, 1) := by decide +kernel
theorem dX5_passes_65 : decode cX5_passes 65 = .ok (.iaload, 1) := by decide +kernel
theorem dX5_passes_66 : decode cX5_passes 66 = .ok (.aload_n 0, 1) := by decide +kernel
theorem dX5_passes_67 : decode cX5_passes 67 = .ok (.iload_n 3, 1) := by decide +kernel
theorem dX5_passes_68 : decode cX5_passes 68 = .ok (.iconst 5, 1) := by decide +kernel
theorem dX5_passes_69 : decode cX5_passes 69 = .ok (.invokevirtual 73, 3) := by decide +kernel
theorem dX5_passes_72 : decode cX5_passes 72 = .ok (.isub, 1) := by decide +kernel
theorem dX5_passes_73 : decode cX5_passes 73 = .ok (.aload_n 0, 1) := by decide +kernel
theorem dX5_passes_74 : decode cX5_passes 74 = .ok (.getfield 11, 3) := by decide +kernel
theorem dX5_passes_77 : decode cX5_passes 77 = .ok (.bipush 12, 2) := by decide +kernel
theorem dX5_passes_79 : decode cX5_passes 79 = .ok (.iaload, 1) := by decide +kernel
theorem dX5_passes_80 : decode cX5_passes 80 = .ok (.if_icmp .lt 8, 3) := by decide +kernel
theorem dX5_passes_83 : decode cX5_passes 83 = .ok (.aload_n 0, 1) := by decide +kernel
theorem dX5_passes_84 : decode cX5_passes 84 = .ok (.iload_n 3, 1) := by decide +kernel
theorem dX5_passes_85 : decode cX5_passes 85 = .ok (.invokevirtual 135, 3) := by decide +kernel
theorem dX5_passes_88 : decode cX5_passes 88 = .ok (.iinc 3 1, 3) := by decide +kernel
theorem dX5_passes_91 : decode cX5_passes 91 = .ok (.goto (-51), 3) := by decide +kernel
theorem dX5_passes_94 : decode cX5_passes 94 = .ok (.iinc 2 1, 3) := by decide +kernel
theorem dX5_passes_97 : decode cX5_passes 97 = .ok (.goto (-82), 3) := by decide +kernel
theorem dX5_passes_100 : decode cX5_passes 100 = .ok (.aload_n 0, 1) := by decide +kernel
theorem dX5_passes_101 : decode cX5_passes 101 = .ok (.getfield 11, 3) := by decide +kernel
theorem dX5_passes_104 : decode cX5_passes 104 = .ok (.iconst 0, 1) := by decide +kernel
theorem dX5_passes_105 : decode cX5_passes 105 = .ok (.iaload, 1) := by decide +kernel
theorem dX5_passes_106 : decode cX5_passes 106 = .ok (.ireturn, 1) := by decide +kernel
theorem dX5_pass_0 : decode cX5_pass 0 = .ok (.aload_n 0, 1) := by decide +kernel
theorem dX5_pass_1 : decode cX5_pass 1 = .ok (.invokevirtual 96, 3) := by decide +kernel
theorem dX5_pass_4 : decode cX5_pass 4 = .ok (.aload_n 0, 1) := by decide +kernel
theorem dX5_pass_5 : decode cX5_pass 5 = .ok (.aload_n 0, 1) := by decide +kernel
theorem dX5_pass_6 : decode cX5_pass 6 = .ok (.iload_n 1, 1) := by decide +kernel
theorem dX5_pass_7 : decode cX5_pass 7 = .ok (.invokevirtual 138, 3) := by decide +kernel
theorem dX5_pass_10 : decode cX5_pass 10 = .ok (.invokevirtual 103, 3) := by decide +kernel
theorem dX5_pass_13 : decode cX5_pass 13 = .ok (.ireturn, 1) := by decide +kernel
theorem dX5_reasonToLend_0 : decode cX5_reasonToLend 0 = .ok (.aload_n 0, 1) := by decide +kernel
theorem dX5_reasonToLend_1 : decode cX5_reasonToLend 1 = .ok (.iload_n 1, 1) := by decide +kernel
theorem dX5_reasonToLend_2 : decode cX5_reasonToLend 2 = .ok (.invokevirtual 141, 3) := by decide +kernel
theorem dX5_reasonToLend_5 : decode cX5_reasonToLend 5 = .ok (.ifCond .eq 5, 3) := by decide +kernel
theorem dX5_reasonToLend_8 : decode cX5_reasonToLend 8 = .ok (.iconst 1, 1) := by decide +kernel
theorem dX5_reasonToLend_9 : decode cX5_reasonToLend 9 = .ok (.ireturn, 1) := by decide +kernel
theorem dX5_reasonToLend_10 : decode cX5_reasonToLend 10 = .ok (.aload_n 0, 1) := by decide +kernel
theorem dX5_reasonToLend_11 : decode cX5_reasonToLend 11 = .ok (.iload_n 1, 1) := by decide +kernel
theorem dX5_reasonToLend_12 : decode cX5_reasonToLend 12 = .ok (.invokevirtual 144, 3) := by decide +kernel
theorem dX5_reasonToLend_15 : decode cX5_reasonToLend 15 = .ok (.aload_n 0, 1) := by decide +kernel
theorem dX5_reasonToLend_16 : decode cX5_reasonToLend 16 = .ok (.getfield 11, 3) := by decide +kernel
theorem dX5_reasonToLend_19 : decode cX5_reasonToLend 19 = .ok (.bipush 6, 2) := by decide +kernel
theorem dX5_reasonToLend_21 : decode cX5_reasonToLend 21 = .ok (.iaload, 1) := by decide +kernel
theorem dX5_reasonToLend_22 : decode cX5_reasonToLend 22 = .ok (.if_icmp .lt 5, 3) := by decide +kernel
theorem dX5_reasonToLend_25 : decode cX5_reasonToLend 25 = .ok (.iconst 2, 1) := by decide +kernel
theorem dX5_reasonToLend_26 : decode cX5_reasonToLend 26 = .ok (.ireturn, 1) := by decide +kernel
theorem dX5_reasonToLend_27 : decode cX5_reasonToLend 27 = .ok (.aload_n 0, 1) := by decide +kernel
theorem dX5_reasonToLend_28 : decode cX5_reasonToLend 28 = .ok (.iload_n 2, 1) := by decide +kernel
theorem dX5_reasonToLend_29 : decode cX5_reasonToLend 29 = .ok (.iconst 3, 1) := by decide +kernel
theorem dX5_reasonToLend_30 : decode cX5_reasonToLend 30 = .ok (.invokevirtual 73, 3) := by decide +kernel
theorem dX5_reasonToLend_33 : decode cX5_reasonToLend 33 = .ok (.iconst 3, 1) := by decide +kernel
theorem dX5_reasonToLend_34 : decode cX5_reasonToLend 34 = .ok (.if_icmp .ne 21, 3) := by decide +kernel
theorem dX5_reasonToLend_37 : decode cX5_reasonToLend 37 = .ok (.aload_n 0, 1) := by decide +kernel
theorem dX5_reasonToLend_38 : decode cX5_reasonToLend 38 = .ok (.aload_n 0, 1) := by decide +kernel
theorem dX5_reasonToLend_39 : decode cX5_reasonToLend 39 = .ok (.iload_n 2, 1) := by decide +kernel
theorem dX5_reasonToLend_40 : decode cX5_reasonToLend 40 = .ok (.invokevirtual 116, 3) := by decide +kernel
theorem dX5_reasonToLend_43 : decode cX5_reasonToLend 43 = .ok (.iconst 1, 1) := by decide +kernel
theorem dX5_reasonToLend_44 : decode cX5_reasonToLend 44 = .ok (.invokevirtual 59, 3) := by decide +kernel
theorem dX5_reasonToLend_47 : decode cX5_reasonToLend 47 = .ok (.iload_n 1, 1) := by decide +kernel
theorem dX5_reasonToLend_48 : decode cX5_reasonToLend 48 = .ok (.if_icmp .ne 7, 3) := by decide +kernel
theorem dX5_reasonToLend_51 : decode cX5_reasonToLend 51 = .ok (.iconst 1, 1) := by decide +kernel
theorem dX5_reasonToLend_52 : decode cX5_reasonToLend 52 = .ok (.goto 4, 3) := by decide +kernel
theorem dX5_reasonToLend_55 : decode cX5_reasonToLend 55 = .ok (.iconst 0, 1) := by decide +kernel
theorem dX5_reasonToLend_56 : decode cX5_reasonToLend 56 = .ok (.istore_n 3, 1) := by decide +kernel
theorem dX5_reasonToLend_57 : decode cX5_reasonToLend 57 = .ok (.aload_n 0, 1) := by decide +kernel
theorem dX5_reasonToLend_58 : decode cX5_reasonToLend 58 = .ok (.iload_n 2, 1) := by decide +kernel
theorem dX5_reasonToLend_59 : decode cX5_reasonToLend 59 = .ok (.iconst 3, 1) := by decide +kernel
theorem dX5_reasonToLend_60 : decode cX5_reasonToLend 60 = .ok (.invokevirtual 73, 3) := by decide +kernel
theorem dX5_reasonToLend_63 : decode cX5_reasonToLend 63 = .ok (.ifCond .eq 7, 3) := by decide +kernel
theorem dX5_reasonToLend_66 : decode cX5_reasonToLend 66 = .ok (.iload_n 3, 1) := by decide +kernel
theorem dX5_reasonToLend_67 : decode cX5_reasonToLend 67 = .ok (.ifCond .eq 7, 3) := by decide +kernel
theorem dX5_reasonToLend_70 : decode cX5_reasonToLend 70 = .ok (.iconst 0, 1) := by decide +kernel
theorem dX5_reasonToLend_71 : decode cX5_reasonToLend 71 = .ok (.goto 4, 3) := by decide +kernel
theorem dX5_reasonToLend_74 : decode cX5_reasonToLend 74 = .ok (.iconst 3, 1) := by decide +kernel
theorem dX5_reasonToLend_75 : decode cX5_reasonToLend 75 = .ok (.ireturn, 1) := by decide +kernel
theorem dX5_lends_0 : decode cX5_lends 0 = .ok (.aload_n 0, 1) := by decide +kernel
theorem dX5_lends_1 : decode cX5_lends 1 = .ok (.iload_n 1, 1) := by decide +kernel
theorem dX5_lends_2 : decode cX5_lends 2 = .ok (.invokevirtual 147, 3) := by decide +kernel
theorem dX5_lends_5 : decode cX5_lends 5 = .ok (.ifCond .eq 11, 3) := by decide +kernel
theorem dX5_lends_8 : decode cX5_lends 8 = .ok (.aload_n 0, 1) := by decide +kernel
theorem dX5_lends_9 : decode cX5_lends 9 = .ok (.iload_n 2, 1) := by decide +kernel
theorem dX5_lends_10 : decode cX5_lends 10 = .ok (.invokevirtual 113, 3) := by decide +kernel
theorem dX5_lends_13 : decode cX5_lends 13 = .ok (.ifCond .ne 5, 3) := by decide +kernel
theorem dX5_lends_16 : decode cX5_lends 16 = .ok (.iconst (-1), 1) := by decide +kernel
theorem dX5_lends_17 : decode cX5_lends 17 = .ok (.ireturn, 1) := by decide +kernel
theorem dX5_lends_18 : decode cX5_lends 18 = .ok (.aload_n 0, 1) := by decide +kernel
theorem dX5_lends_19 : decode cX5_lends 19 = .ok (.iload_n 1, 1) := by decide +kernel
theorem dX5_lends_20 : decode cX5_lends 20 = .ok (.iload_n 2, 1) := by decide +kernel
theorem dX5_lends_21 : decode cX5_lends 21 = .ok (.invokevirtual 150, 3) := by decide +kernel
theorem dX5_lends_24 : decode cX5_lends 24 = .ok (.istore_n 3, 1) := by decide +kernel
theorem dX5_lends_25 : decode cX5_lends 25 = .ok (.iload_n 3, 1) := by decide +kernel
theorem dX5_lends_26 : decode cX5_lends 26 = .ok (.ifCond .le 8, 3) := by decide +kernel
theorem dX5_lends_29 : decode cX5_lends 29 = .ok (.bipush (-100), 2) := by decide +kernel
theorem dX5_lends_31 : decode cX5_lends 31 = .ok (.iload_n 3, 1) := by decide +kernel
theorem dX5_lends_32 : decode cX5_lends 32 = .ok (.isub, 1) := by decide +kernel
theorem dX5_lends_33 : decode cX5_lends 33 = .ok (.ireturn, 1) := by decide +kernel
theorem dX5_lends_34 : decode cX5_lends 34 = .ok (.aload_n 0, 1) := by decide +kernel
theorem dX5_lends_35 : decode cX5_lends 35 = .ok (.iload_n 2, 1) := by decide +kernel
theorem dX5_lends_36 : decode cX5_lends 36 = .ok (.iconst 3, 1) := by decide +kernel
theorem dX5_lends_37 : decode cX5_lends 37 = .ok (.invokevirtual 73, 3) := by decide +kernel
theorem dX5_lends_40 : decode cX5_lends 40 = .ok (.iconst 3, 1) := by decide +kernel
theorem dX5_lends_41 : decode cX5_lends 41 = .ok (.if_icmp .ne 12, 3) := by decide +kernel
theorem dX5_lends_44 : decode cX5_lends 44 = .ok (.aload_n 0, 1) := by decide +kernel
theorem dX5_lends_45 : decode cX5_lends 45 = .ok (.aload_n 0, 1) := by decide +kernel
theorem dX5_lends_46 : decode cX5_lends 46 = .ok (.iload_n 2, 1) := by decide +kernel
theorem dX5_lends_47 : decode cX5_lends 47 = .ok (.invokevirtual 116, 3) := by decide +kernel
theorem dX5_lends_50 : decode cX5_lends 50 = .ok (.invokevirtual 119, 3) := by decide +kernel
theorem dX5_lends_53 : decode cX5_lends 53 = .ok (.aload_n 0, 1) := by decide +kernel
theorem dX5_lends_54 : decode cX5_lends 54 = .ok (.iload_n 2, 1) := by decide +kernel
theorem dX5_lends_55 : decode cX5_lends 55 = .ok (.iconst 1, 1) := by decide +kernel
theorem dX5_lends_56 : decode cX5_lends 56 = .ok (.iload_n 1, 1) := by decide +kernel
theorem dX5_lends_57 : decode cX5_lends 57 = .ok (.aload_n 0, 1) := by decide +kernel
theorem dX5_lends_58 : decode cX5_lends 58 = .ok (.getfield 11, 3) := by decide +kernel
theorem dX5_lends_61 : decode cX5_lends 61 = .ok (.iconst 0, 1) := by decide +kernel
theorem dX5_lends_62 : decode cX5_lends 62 = .ok (.iaload, 1) := by decide +kernel
theorem dX5_lends_63 : decode cX5_lends 63 = .ok (.aload_n 0, 1) := by decide +kernel
theorem dX5_lends_64 : decode cX5_lends 64 = .ok (.getfield 11, 3) := by decide +kernel
theorem dX5_lends_67 : decode cX5_lends 67 = .ok (.iconst 5, 1) := by decide +kernel
theorem dX5_lends_68 : decode cX5_lends 68 = .ok (.iaload, 1) := by decide +kernel
theorem dX5_lends_69 : decode cX5_lends 69 = .ok (.iadd, 1) := by decide +kernel
theorem dX5_lends_70 : decode cX5_lends 70 = .ok (.invokevirtual 63, 3) := by decide +kernel
theorem dX5_lends_73 : decode cX5_lends 73 = .ok (.aload_n 0, 1) := by decide +kernel
theorem dX5_lends_74 : decode cX5_lends 74 = .ok (.iload_n 2, 1) := by decide +kernel
theorem dX5_lends_75 : decode cX5_lends 75 = .ok (.bipush 6, 2) := by decide +kernel
theorem dX5_lends_77 : decode cX5_lends 77 = .ok (.aload_n 0, 1) := by decide +kernel
theorem dX5_lends_78 : decode cX5_lends 78 = .ok (.getfield 11, 3) := by decide +kernel
theorem dX5_lends_81 : decode cX5_lends 81 = .ok (.iconst 0, 1) := by decide +kernel
theorem dX5_lends_82 : decode cX5_lends 82 = .ok (.iaload, 1) := by decide +kernel
theorem dX5_lends_83 : decode cX5_lends 83 = .ok (.invokevirtual 55, 3) := by decide +kernel
theorem dX5_lends_86 : decode cX5_lends 86 = .ok (.aload_n 0, 1) := by decide +kernel
theorem dX5_lends_87 : decode cX5_lends 87 = .ok (.iload_n 2, 1) := by decide +kernel
theorem dX5_lends_88 : decode cX5_lends 88 = .ok (.bipush 7, 2) := by decide +kernel
theorem dX5_lends_90 : decode cX5_lends 90 = .ok (.iconst 0, 1) := by decide +kernel
theorem dX5_lends_91 : decode cX5_lends 91 = .ok (.invokevirtual 55, 3) := by decide +kernel
theorem dX5_lends_94 : decode cX5_lends 94 = .ok (.aload_n 0, 1) := by decide +kernel
theorem dX5_lends_95 : decode cX5_lends 95 = .ok (.iload_n 2, 1) := by decide +kernel
theorem dX5_lends_96 : decode cX5_lends 96 = .ok (.bipush 8, 2) := by decide +kernel
theorem dX5_lends_98 : decode cX5_lends 98 = .ok (.iconst 0, 1) := by decide +kernel
theorem dX5_lends_99 : decode cX5_lends 99 = .ok (.invokevirtual 55, 3) := by decide +kernel
theorem dX5_lends_102 : decode cX5_lends 102 = .ok (.aload_n 0, 1) := by decide +kernel
theorem dX5_lends_103 : decode cX5_lends 103 = .ok (.iload_n 2, 1) := by decide +kernel
theorem dX5_lends_104 : decode cX5_lends 104 = .ok (.iconst 5, 1) := by decide +kernel
theorem dX5_lends_105 : decode cX5_lends 105 = .ok (.invokevirtual 73, 3) := by decide +kernel
theorem dX5_lends_108 : decode cX5_lends 108 = .ok (.ireturn, 1) := by decide +kernel
theorem dX5_lend_0 : decode cX5_lend 0 = .ok (.aload_n 0, 1) := by decide +kernel
theorem dX5_lend_1 : decode cX5_lend 1 = .ok (.invokevirtual 96, 3) := by decide +kernel
theorem dX5_lend_4 : decode cX5_lend 4 = .ok (.aload_n 0, 1) := by decide +kernel
theorem dX5_lend_5 : decode cX5_lend 5 = .ok (.aload_n 0, 1) := by decide +kernel
theorem dX5_lend_6 : decode cX5_lend 6 = .ok (.iload_n 1, 1) := by decide +kernel
theorem dX5_lend_7 : decode cX5_lend 7 = .ok (.iload_n 2, 1) := by decide +kernel
theorem dX5_lend_8 : decode cX5_lend 8 = .ok (.invokevirtual 153, 3) := by decide +kernel
theorem dX5_lend_11 : decode cX5_lend 11 = .ok (.invokevirtual 103, 3) := by decide +kernel
theorem dX5_lend_14 : decode cX5_lend 14 = .ok (.ireturn, 1) := by decide +kernel
theorem dX5_bringsBack_0 : decode cX5_bringsBack 0 = .ok (.aload_n 0, 1) := by decide +kernel
theorem dX5_bringsBack_1 : decode cX5_bringsBack 1 = .ok (.iload_n 1, 1) := by decide +kernel
theorem dX5_bringsBack_2 : decode cX5_bringsBack 2 = .ok (.invokevirtual 113, 3) := by decide +kernel
theorem dX5_bringsBack_5 : decode cX5_bringsBack 5 = .ok (.ifCond .eq 10, 3) := by decide +kernel
theorem dX5_bringsBack_8 : decode cX5_bringsBack 8 = .ok (.iload_n 2, 1) := by decide +kernel
theorem dX5_bringsBack_9 : decode cX5_bringsBack 9 = .ok (.invokestatic 93, 3) := by decide +kernel
theorem dX5_bringsBack_12 : decode cX5_bringsBack 12 = .ok (.ifCond .ne 5, 3) := by decide +kernel
theorem dX5_bringsBack_15 : decode cX5_bringsBack 15 = .ok (.iconst (-1), 1) := by decide +kernel
theorem dX5_bringsBack_16 : decode cX5_bringsBack 16 = .ok (.ireturn, 1) := by decide +kernel
theorem dX5_bringsBack_17 : decode cX5_bringsBack 17 = .ok (.aload_n 0, 1) := by decide +kernel
theorem dX5_bringsBack_18 : decode cX5_bringsBack 18 = .ok (.iload_n 1, 1) := by decide +kernel
theorem dX5_bringsBack_19 : decode cX5_bringsBack 19 = .ok (.iconst 3, 1) := by decide +kernel
theorem dX5_bringsBack_20 : decode cX5_bringsBack 20 = .ok (.invokevirtual 73, 3) := by decide +kernel
theorem dX5_bringsBack_23 : decode cX5_bringsBack 23 = .ok (.istore_n 3, 1) := by decide +kernel
theorem dX5_bringsBack_24 : decode cX5_bringsBack 24 = .ok (.aload_n 0, 1) := by decide +kernel
theorem dX5_bringsBack_25 : decode cX5_bringsBack 25 = .ok (.iload_n 1, 1) := by decide +kernel
theorem dX5_bringsBack_26 : decode cX5_bringsBack 26 = .ok (.iconst 4, 1) := by decide +kernel
theorem dX5_bringsBack_27 : decode cX5_bringsBack 27 = .ok (.invokevirtual 73, 3) := by decide +kernel
theorem dX5_bringsBack_30 : decode cX5_bringsBack 30 = .ok (.istore 4, 2) := by decide +kernel
theorem dX5_bringsBack_32 : decode cX5_bringsBack 32 = .ok (.iload_n 3, 1) := by decide +kernel
theorem dX5_bringsBack_33 : decode cX5_bringsBack 33 = .ok (.iconst 1, 1) := by decide +kernel
theorem dX5_bringsBack_34 : decode cX5_bringsBack 34 = .ok (.if_icmp .eq 16, 3) := by decide +kernel
theorem dX5_bringsBack_37 : decode cX5_bringsBack 37 = .ok (.iload_n 3, 1) := by decide +kernel
theorem dX5_bringsBack_38 : decode cX5_bringsBack 38 = .ok (.iconst 4, 1) := by decide +kernel
theorem dX5_bringsBack_39 : decode cX5_bringsBack 39 = .ok (.if_icmp .eq 11, 3) := by decide +kernel
theorem dX5_bringsBack_42 : decode cX5_bringsBack 42 = .ok (.iload_n 3, 1) := by decide +kernel
theorem dX5_bringsBack_43 : decode cX5_bringsBack 43 = .ok (.iconst 5, 1) := by decide +kernel
theorem dX5_bringsBack_44 : decode cX5_bringsBack 44 = .ok (.if_icmp .eq 6, 3) := by decide +kernel
theorem dX5_bringsBack_47 : decode cX5_bringsBack 47 = .ok (.bipush (-2), 2) := by decide +kernel
theorem dX5_bringsBack_49 : decode cX5_bringsBack 49 = .ok (.ireturn, 1) := by decide +kernel
theorem dX5_bringsBack_50 : decode cX5_bringsBack 50 = .ok (.iload_n 3, 1) := by decide +kernel
theorem dX5_bringsBack_51 : decode cX5_bringsBack 51 = .ok (.iconst 1, 1) := by decide +kernel
theorem dX5_bringsBack_52 : decode cX5_bringsBack 52 = .ok (.if_icmp .ne 16, 3) := by decide +kernel
theorem dX5_bringsBack_55 : decode cX5_bringsBack 55 = .ok (.aload_n 0, 1) := by decide +kernel
theorem dX5_bringsBack_56 : decode cX5_bringsBack 56 = .ok (.iconst 0, 1) := by decide +kernel
theorem dX5_bringsBack_57 : decode cX5_bringsBack 57 = .ok (.iload 4, 2) := by decide +kernel
theorem dX5_bringsBack_59 : decode cX5_bringsBack 59 = .ok (.aload_n 0, 1) := by decide +kernel
theorem dX5_bringsBack_60 : decode cX5_bringsBack 60 = .ok (.iload_n 1, 1) := by decide +kernel
theorem dX5_bringsBack_61 : decode cX5_bringsBack 61 = .ok (.invokevirtual 123, 3) := by decide +kernel
theorem dX5_bringsBack_64 : decode cX5_bringsBack 64 = .ok (.iload_n 1, 1) := by decide +kernel
theorem dX5_bringsBack_65 : decode cX5_bringsBack 65 = .ok (.invokevirtual 126, 3) := by decide +kernel
theorem dX5_bringsBack_68 : decode cX5_bringsBack 68 = .ok (.iload_n 3, 1) := by decide +kernel
theorem dX5_bringsBack_69 : decode cX5_bringsBack 69 = .ok (.iconst 4, 1) := by decide +kernel
theorem dX5_bringsBack_70 : decode cX5_bringsBack 70 = .ok (.if_icmp .ne 22, 3) := by decide +kernel
theorem dX5_bringsBack_73 : decode cX5_bringsBack 73 = .ok (.aload_n 0, 1) := by decide +kernel
theorem dX5_bringsBack_74 : decode cX5_bringsBack 74 = .ok (.getfield 11, 3) := by decide +kernel
theorem dX5_bringsBack_77 : decode cX5_bringsBack 77 = .ok (.sipush 253, 3) := by decide +kernel
theorem dX5_bringsBack_80 : decode cX5_bringsBack 80 = .ok (.iconst 4, 1) := by decide +kernel
theorem dX5_bringsBack_81 : decode cX5_bringsBack 81 = .ok (.iload 4, 2) := by decide +kernel
theorem dX5_bringsBack_83 : decode cX5_bringsBack 83 = .ok (.imul, 1) := by decide +kernel
theorem dX5_bringsBack_84 : decode cX5_bringsBack 84 = .ok (.iadd, 1) := by decide +kernel
theorem dX5_bringsBack_85 : decode cX5_bringsBack 85 = .ok (.iconst 1, 1) := by decide +kernel
theorem dX5_bringsBack_86 : decode cX5_bringsBack 86 = .ok (.iadd, 1) := by decide +kernel
theorem dX5_bringsBack_87 : decode cX5_bringsBack 87 = .ok (.dup2, 1) := by decide +kernel
theorem dX5_bringsBack_88 : decode cX5_bringsBack 88 = .ok (.iaload, 1) := by decide +kernel
theorem dX5_bringsBack_89 : decode cX5_bringsBack 89 = .ok (.iconst 1, 1) := by decide +kernel
theorem dX5_bringsBack_90 : decode cX5_bringsBack 90 = .ok (.isub, 1) := by decide +kernel
theorem dX5_bringsBack_91 : decode cX5_bringsBack 91 = .ok (.iastore, 1) := by decide +kernel
theorem dX5_bringsBack_92 : decode cX5_bringsBack 92 = .ok (.iload_n 3, 1) := by decide +kernel
theorem dX5_bringsBack_93 : decode cX5_bringsBack 93 = .ok (.iconst 5, 1) := by decide +kernel
theorem dX5_bringsBack_94 : decode cX5_bringsBack 94 = .ok (.if_icmp .ne 34, 3) := by decide +kernel
theorem dX5_bringsBack_97 : decode cX5_bringsBack 97 = .ok (.aload_n 0, 1) := by decide +kernel
theorem dX5_bringsBack_98 : decode cX5_bringsBack 98 = .ok (.iconst 2, 1) := by decide +kernel
theorem dX5_bringsBack_99 : decode cX5_bringsBack 99 = .ok (.iload 4, 2) := by decide +kernel
theorem dX5_bringsBack_101 : decode cX5_bringsBack 101 = .ok (.aload_n 0, 1) := by decide +kernel
theorem dX5_bringsBack_102 : decode cX5_bringsBack 102 = .ok (.iload_n 1, 1) := by decide +kernel
theorem dX5_bringsBack_103 : decode cX5_bringsBack 103 = .ok (.bipush 10, 2) := by decide +kernel
theorem dX5_bringsBack_105 : decode cX5_bringsBack 105 = .ok (.invokevirtual 73, 3) := by decide +kernel
theorem dX5_bringsBack_108 : decode cX5_bringsBack 108 = .ok (.ineg, 1) := by decide +kernel
theorem dX5_bringsBack_109 : decode cX5_bringsBack 109 = .ok (.iload_n 1, 1) := by decide +kernel
theorem dX5_bringsBack_110 : decode cX5_bringsBack 110 = .ok (.invokevirtual 126, 3) := by decide +kernel
theorem dX5_bringsBack_113 : decode cX5_bringsBack 113 = .ok (.aload_n 0, 1) := by decide +kernel
theorem dX5_bringsBack_114 : decode cX5_bringsBack 114 = .ok (.iconst 0, 1) := by decide +kernel
theorem dX5_bringsBack_115 : decode cX5_bringsBack 115 = .ok (.iload 4, 2) := by decide +kernel
theorem dX5_bringsBack_117 : decode cX5_bringsBack 117 = .ok (.aload_n 0, 1) := by decide +kernel
theorem dX5_bringsBack_118 : decode cX5_bringsBack 118 = .ok (.iload_n 1, 1) := by decide +kernel
theorem dX5_bringsBack_119 : decode cX5_bringsBack 119 = .ok (.bipush 9, 2) := by decide +kernel
theorem dX5_bringsBack_121 : decode cX5_bringsBack 121 = .ok (.invokevirtual 73, 3) := by decide +kernel
theorem dX5_bringsBack_124 : decode cX5_bringsBack 124 = .ok (.iload_n 1, 1) := by decide +kernel
theorem dX5_bringsBack_125 : decode cX5_bringsBack 125 = .ok (.invokevirtual 126, 3) := by decide +kernel
theorem dX5_bringsBack_128 : decode cX5_bringsBack 128 = .ok (.aload_n 0, 1) := by decide +kernel
theorem dX5_bringsBack_129 : decode cX5_bringsBack 129 = .ok (.iload_n 1, 1) := by decide +kernel
theorem dX5_bringsBack_130 : decode cX5_bringsBack 130 = .ok (.iload_n 2, 1) := by decide +kernel
theorem dX5_bringsBack_131 : decode cX5_bringsBack 131 = .ok (.invokevirtual 99, 3) := by decide +kernel
theorem dX5_bringsBack_134 : decode cX5_bringsBack 134 = .ok (.aload_n 0, 1) := by decide +kernel
theorem dX5_bringsBack_135 : decode cX5_bringsBack 135 = .ok (.iload_n 1, 1) := by decide +kernel
theorem dX5_bringsBack_136 : decode cX5_bringsBack 136 = .ok (.iconst 3, 1) := by decide +kernel
theorem dX5_bringsBack_137 : decode cX5_bringsBack 137 = .ok (.invokevirtual 73, 3) := by decide +kernel
theorem dX5_bringsBack_140 : decode cX5_bringsBack 140 = .ok (.ireturn, 1) := by decide +kernel
theorem dX5_bringBack_0 : decode cX5_bringBack 0 = .ok (.aload_n 0, 1) := by decide +kernel
theorem dX5_bringBack_1 : decode cX5_bringBack 1 = .ok (.invokevirtual 96, 3) := by decide +kernel
theorem dX5_bringBack_4 : decode cX5_bringBack 4 = .ok (.aload_n 0, 1) := by decide +kernel
theorem dX5_bringBack_5 : decode cX5_bringBack 5 = .ok (.aload_n 0, 1) := by decide +kernel
theorem dX5_bringBack_6 : decode cX5_bringBack 6 = .ok (.iload_n 1, 1) := by decide +kernel
theorem dX5_bringBack_7 : decode cX5_bringBack 7 = .ok (.iload_n 2, 1) := by decide +kernel
theorem dX5_bringBack_8 : decode cX5_bringBack 8 = .ok (.invokevirtual 156, 3) := by decide +kernel
theorem dX5_bringBack_11 : decode cX5_bringBack 11 = .ok (.invokevirtual 103, 3) := by decide +kernel
theorem dX5_bringBack_14 : decode cX5_bringBack 14 = .ok (.ireturn, 1) := by decide +kernel
theorem dX5_reasonToRenew_0 : decode cX5_reasonToRenew 0 = .ok (.aload_n 0, 1) := by decide +kernel
theorem dX5_reasonToRenew_1 : decode cX5_reasonToRenew 1 = .ok (.iload_n 1, 1) := by decide +kernel
theorem dX5_reasonToRenew_2 : decode cX5_reasonToRenew 2 = .ok (.iconst 3, 1) := by decide +kernel
theorem dX5_reasonToRenew_3 : decode cX5_reasonToRenew 3 = .ok (.invokevirtual 73, 3) := by decide +kernel
theorem dX5_reasonToRenew_6 : decode cX5_reasonToRenew 6 = .ok (.iconst 1, 1) := by decide +kernel
theorem dX5_reasonToRenew_7 : decode cX5_reasonToRenew 7 = .ok (.if_icmp .eq 5, 3) := by decide +kernel
theorem dX5_reasonToRenew_10 : decode cX5_reasonToRenew 10 = .ok (.iconst 1, 1) := by decide +kernel
theorem dX5_reasonToRenew_11 : decode cX5_reasonToRenew 11 = .ok (.ireturn, 1) := by decide +kernel
theorem dX5_reasonToRenew_12 : decode cX5_reasonToRenew 12 = .ok (.aload_n 0, 1) := by decide +kernel
theorem dX5_reasonToRenew_13 : decode cX5_reasonToRenew 13 = .ok (.iload_n 1, 1) := by decide +kernel
theorem dX5_reasonToRenew_14 : decode cX5_reasonToRenew 14 = .ok (.bipush 7, 2) := by decide +kernel
theorem dX5_reasonToRenew_16 : decode cX5_reasonToRenew 16 = .ok (.invokevirtual 73, 3) := by decide +kernel
theorem dX5_reasonToRenew_19 : decode cX5_reasonToRenew 19 = .ok (.iconst 2, 1) := by decide +kernel
theorem dX5_reasonToRenew_20 : decode cX5_reasonToRenew 20 = .ok (.if_icmp .ne 5, 3) := by decide +kernel
theorem dX5_reasonToRenew_23 : decode cX5_reasonToRenew 23 = .ok (.iconst 2, 1) := by decide +kernel
theorem dX5_reasonToRenew_24 : decode cX5_reasonToRenew 24 = .ok (.ireturn, 1) := by decide +kernel
theorem dX5_reasonToRenew_25 : decode cX5_reasonToRenew 25 = .ok (.aload_n 0, 1) := by decide +kernel
theorem dX5_reasonToRenew_26 : decode cX5_reasonToRenew 26 = .ok (.iload_n 1, 1) := by decide +kernel
theorem dX5_reasonToRenew_27 : decode cX5_reasonToRenew 27 = .ok (.bipush 8, 2) := by decide +kernel
theorem dX5_reasonToRenew_29 : decode cX5_reasonToRenew 29 = .ok (.invokevirtual 73, 3) := by decide +kernel
theorem dX5_reasonToRenew_32 : decode cX5_reasonToRenew 32 = .ok (.iconst 1, 1) := by decide +kernel
theorem dX5_reasonToRenew_33 : decode cX5_reasonToRenew 33 = .ok (.if_icmp .eq 16, 3) := by decide +kernel
theorem dX5_reasonToRenew_36 : decode cX5_reasonToRenew 36 = .ok (.aload_n 0, 1) := by decide +kernel
theorem dX5_reasonToRenew_37 : decode cX5_reasonToRenew 37 = .ok (.aload_n 0, 1) := by decide +kernel
theorem dX5_reasonToRenew_38 : decode cX5_reasonToRenew 38 = .ok (.iload_n 1, 1) := by decide +kernel
theorem dX5_reasonToRenew_39 : decode cX5_reasonToRenew 39 = .ok (.iconst 0, 1) := by decide +kernel
theorem dX5_reasonToRenew_40 : decode cX5_reasonToRenew 40 = .ok (.invokevirtual 73, 3) := by decide +kernel
theorem dX5_reasonToRenew_43 : decode cX5_reasonToRenew 43 = .ok (.invokevirtual 159, 3) := by decide +kernel
theorem dX5_reasonToRenew_46 : decode cX5_reasonToRenew 46 = .ok (.ifCond .le 5, 3) := by decide +kernel
theorem dX5_reasonToRenew_49 : decode cX5_reasonToRenew 49 = .ok (.iconst 3, 1) := by decide +kernel
theorem dX5_reasonToRenew_50 : decode cX5_reasonToRenew 50 = .ok (.ireturn, 1) := by decide +kernel
theorem dX5_reasonToRenew_51 : decode cX5_reasonToRenew 51 = .ok (.aload_n 0, 1) := by decide +kernel
theorem dX5_reasonToRenew_52 : decode cX5_reasonToRenew 52 = .ok (.aload_n 0, 1) := by decide +kernel
theorem dX5_reasonToRenew_53 : decode cX5_reasonToRenew 53 = .ok (.iload_n 1, 1) := by decide +kernel
theorem dX5_reasonToRenew_54 : decode cX5_reasonToRenew 54 = .ok (.iconst 4, 1) := by decide +kernel
theorem dX5_reasonToRenew_55 : decode cX5_reasonToRenew 55 = .ok (.invokevirtual 73, 3) := by decide +kernel
theorem dX5_reasonToRenew_58 : decode cX5_reasonToRenew 58 = .ok (.invokevirtual 141, 3) := by decide +kernel
theorem dX5_reasonToRenew_61 : decode cX5_reasonToRenew 61 = .ok (.ifCond .eq 5, 3) := by decide +kernel
theorem dX5_reasonToRenew_64 : decode cX5_reasonToRenew 64 = .ok (.iconst 4, 1) := by decide +kernel
theorem dX5_reasonToRenew_65 : decode cX5_reasonToRenew 65 = .ok (.ireturn, 1) := by decide +kernel
theorem dX5_reasonToRenew_66 : decode cX5_reasonToRenew 66 = .ok (.aload_n 0, 1) := by decide +kernel
theorem dX5_reasonToRenew_67 : decode cX5_reasonToRenew 67 = .ok (.getfield 11, 3) := by decide +kernel
theorem dX5_reasonToRenew_70 : decode cX5_reasonToRenew 70 = .ok (.iconst 0, 1) := by decide +kernel
theorem dX5_reasonToRenew_71 : decode cX5_reasonToRenew 71 = .ok (.iaload, 1) := by decide +kernel
theorem dX5_reasonToRenew_72 : decode cX5_reasonToRenew 72 = .ok (.aload_n 0, 1) := by decide +kernel
theorem dX5_reasonToRenew_73 : decode cX5_reasonToRenew 73 = .ok (.getfield 11, 3) := by decide +kernel
theorem dX5_reasonToRenew_76 : decode cX5_reasonToRenew 76 = .ok (.iconst 5, 1) := by decide +kernel
theorem dX5_reasonToRenew_77 : decode cX5_reasonToRenew 77 = .ok (.iaload, 1) := by decide +kernel
theorem dX5_reasonToRenew_78 : decode cX5_reasonToRenew 78 = .ok (.iadd, 1) := by decide +kernel
theorem dX5_reasonToRenew_79 : decode cX5_reasonToRenew 79 = .ok (.aload_n 0, 1) := by decide +kernel
theorem dX5_reasonToRenew_80 : decode cX5_reasonToRenew 80 = .ok (.iload_n 1, 1) := by decide +kernel
theorem dX5_reasonToRenew_81 : decode cX5_reasonToRenew 81 = .ok (.iconst 5, 1) := by decide +kernel
theorem dX5_reasonToRenew_82 : decode cX5_reasonToRenew 82 = .ok (.invokevirtual 73, 3) := by decide +kernel
theorem dX5_reasonToRenew_85 : decode cX5_reasonToRenew 85 = .ok (.if_icmp .gt 7, 3) := by decide +kernel
theorem dX5_reasonToRenew_88 : decode cX5_reasonToRenew 88 = .ok (.iconst 5, 1) := by decide +kernel
theorem dX5_reasonToRenew_89 : decode cX5_reasonToRenew 89 = .ok (.goto 4, 3) := by decide +kernel
theorem dX5_reasonToRenew_92 : decode cX5_reasonToRenew 92 = .ok (.iconst 0, 1) := by decide +kernel
theorem dX5_reasonToRenew_93 : decode cX5_reasonToRenew 93 = .ok (.ireturn, 1) := by decide +kernel
theorem dX5_renews_0 : decode cX5_renews 0 = .ok (.aload_n 0, 1) := by decide +kernel
theorem dX5_renews_1 : decode cX5_renews 1 = .ok (.iload_n 1, 1) := by decide +kernel
theorem dX5_renews_2 : decode cX5_renews 2 = .ok (.invokevirtual 113, 3) := by decide +kernel
theorem dX5_renews_5 : decode cX5_renews 5 = .ok (.ifCond .ne 5, 3) := by decide +kernel
theorem dX5_renews_8 : decode cX5_renews 8 = .ok (.iconst (-1), 1) := by decide +kernel
theorem dX5_renews_9 : decode cX5_renews 9 = .ok (.ireturn, 1) := by decide +kernel
theorem dX5_renews_10 : decode cX5_renews 10 = .ok (.aload_n 0, 1) := by decide +kernel
theorem dX5_renews_11 : decode cX5_renews 11 = .ok (.iload_n 1, 1) := by decide +kernel
theorem dX5_renews_12 : decode cX5_renews 12 = .ok (.invokevirtual 162, 3) := by decide +kernel
theorem dX5_renews_15 : decode cX5_renews 15 = .ok (.istore_n 2, 1) := by decide +kernel
theorem dX5_renews_16 : decode cX5_renews 16 = .ok (.iload_n 2, 1) := by decide +kernel
theorem dX5_renews_17 : decode cX5_renews 17 = .ok (.ifCond .le 8, 3) := by decide +kernel
theorem dX5_renews_20 : decode cX5_renews 20 = .ok (.bipush (-100), 2) := by decide +kernel
theorem dX5_renews_22 : decode cX5_renews 22 = .ok (.iload_n 2, 1) := by decide +kernel
theorem dX5_renews_23 : decode cX5_renews 23 = .ok (.isub, 1) := by decide +kernel
theorem dX5_renews_24 : decode cX5_renews 24 = .ok (.ireturn, 1) := by decide +kernel
theorem dX5_renews_25 : decode cX5_renews 25 = .ok (.aload_n 0, 1) := by decide +kernel
theorem dX5_renews_26 : decode cX5_renews 26 = .ok (.iload_n 1, 1) := by decide +kernel
theorem dX5_renews_27 : decode cX5_renews 27 = .ok (.iconst 5, 1) := by decide +kernel
theorem dX5_renews_28 : decode cX5_renews 28 = .ok (.aload_n 0, 1) := by decide +kernel
theorem dX5_renews_29 : decode cX5_renews 29 = .ok (.getfield 11, 3) := by decide +kernel
theorem dX5_renews_32 : decode cX5_renews 32 = .ok (.iconst 0, 1) := by decide +kernel
theorem dX5_renews_33 : decode cX5_renews 33 = .ok (.iaload, 1) := by decide +kernel
theorem dX5_renews_34 : decode cX5_renews 34 = .ok (.aload_n 0, 1) := by decide +kernel
theorem dX5_renews_35 : decode cX5_renews 35 = .ok (.getfield 11, 3) := by decide +kernel
theorem dX5_renews_38 : decode cX5_renews 38 = .ok (.iconst 5, 1) := by decide +kernel
theorem dX5_renews_39 : decode cX5_renews 39 = .ok (.iaload, 1) := by decide +kernel
theorem dX5_renews_40 : decode cX5_renews 40 = .ok (.iadd, 1) := by decide +kernel
theorem dX5_renews_41 : decode cX5_renews 41 = .ok (.invokevirtual 55, 3) := by decide +kernel
theorem dX5_renews_44 : decode cX5_renews 44 = .ok (.aload_n 0, 1) := by decide +kernel
theorem dX5_renews_45 : decode cX5_renews 45 = .ok (.iload_n 1, 1) := by decide +kernel
theorem dX5_renews_46 : decode cX5_renews 46 = .ok (.bipush 7, 2) := by decide +kernel
theorem dX5_renews_48 : decode cX5_renews 48 = .ok (.aload_n 0, 1) := by decide +kernel
theorem dX5_renews_49 : decode cX5_renews 49 = .ok (.iload_n 1, 1) := by decide +kernel
theorem dX5_renews_50 : decode cX5_renews 50 = .ok (.bipush 7, 2) := by decide +kernel
theorem dX5_renews_52 : decode cX5_renews 52 = .ok (.invokevirtual 73, 3) := by decide +kernel
theorem dX5_renews_55 : decode cX5_renews 55 = .ok (.iconst 1, 1) := by decide +kernel
theorem dX5_renews_56 : decode cX5_renews 56 = .ok (.iadd, 1) := by decide +kernel
theorem dX5_renews_57 : decode cX5_renews 57 = .ok (.invokevirtual 55, 3) := by decide +kernel
theorem dX5_renews_60 : decode cX5_renews 60 = .ok (.aload_n 0, 1) := by decide +kernel
theorem dX5_renews_61 : decode cX5_renews 61 = .ok (.iload_n 1, 1) := by decide +kernel
theorem dX5_renews_62 : decode cX5_renews 62 = .ok (.iconst 5, 1) := by decide +kernel
theorem dX5_renews_63 : decode cX5_renews 63 = .ok (.invokevirtual 73, 3) := by decide +kernel
theorem dX5_renews_66 : decode cX5_renews 66 = .ok (.ireturn, 1) := by decide +kernel
theorem dX5_renew_0 : decode cX5_renew 0 = .ok (.aload_n 0, 1) := by decide +kernel
theorem dX5_renew_1 : decode cX5_renew 1 = .ok (.invokevirtual 96, 3) := by decide +kernel
theorem dX5_renew_4 : decode cX5_renew 4 = .ok (.aload_n 0, 1) := by decide +kernel
theorem dX5_renew_5 : decode cX5_renew 5 = .ok (.aload_n 0, 1) := by decide +kernel
theorem dX5_renew_6 : decode cX5_renew 6 = .ok (.iload_n 1, 1) := by decide +kernel
theorem dX5_renew_7 : decode cX5_renew 7 = .ok (.invokevirtual 165, 3) := by decide +kernel
theorem dX5_renew_10 : decode cX5_renew 10 = .ok (.invokevirtual 103, 3) := by decide +kernel
theorem dX5_renew_13 : decode cX5_renew 13 = .ok (.ireturn, 1) := by decide +kernel
theorem dX5_reasonToClaim_0 : decode cX5_reasonToClaim 0 = .ok (.aload_n 0, 1) := by decide +kernel
theorem dX5_reasonToClaim_1 : decode cX5_reasonToClaim 1 = .ok (.iload_n 1, 1) := by decide +kernel
theorem dX5_reasonToClaim_2 : decode cX5_reasonToClaim 2 = .ok (.iconst 3, 1) := by decide +kernel
theorem dX5_reasonToClaim_3 : decode cX5_reasonToClaim 3 = .ok (.invokevirtual 73, 3) := by decide +kernel
theorem dX5_reasonToClaim_6 : decode cX5_reasonToClaim 6 = .ok (.iconst 1, 1) := by decide +kernel
theorem dX5_reasonToClaim_7 : decode cX5_reasonToClaim 7 = .ok (.if_icmp .eq 7, 3) := by decide +kernel
theorem dX5_reasonToClaim_10 : decode cX5_reasonToClaim 10 = .ok (.iconst 1, 1) := by decide +kernel
theorem dX5_reasonToClaim_11 : decode cX5_reasonToClaim 11 = .ok (.goto 31, 3) := by decide +kernel
theorem dX5_reasonToClaim_14 : decode cX5_reasonToClaim 14 = .ok (.aload_n 0, 1) := by decide +kernel
theorem dX5_reasonToClaim_15 : decode cX5_reasonToClaim 15 = .ok (.getfield 11, 3) := by decide +kernel
theorem dX5_reasonToClaim_18 : decode cX5_reasonToClaim 18 = .ok (.sipush 253, 3) := by decide +kernel
theorem dX5_reasonToClaim_21 : decode cX5_reasonToClaim 21 = .ok (.iconst 4, 1) := by decide +kernel
theorem dX5_reasonToClaim_22 : decode cX5_reasonToClaim 22 = .ok (.aload_n 0, 1) := by decide +kernel
theorem dX5_reasonToClaim_23 : decode cX5_reasonToClaim 23 = .ok (.iload_n 1, 1) := by decide +kernel
theorem dX5_reasonToClaim_24 : decode cX5_reasonToClaim 24 = .ok (.iconst 4, 1) := by decide +kernel
theorem dX5_reasonToClaim_25 : decode cX5_reasonToClaim 25 = .ok (.invokevirtual 73, 3) := by decide +kernel
theorem dX5_reasonToClaim_28 : decode cX5_reasonToClaim 28 = .ok (.imul, 1) := by decide +kernel
theorem dX5_reasonToClaim_29 : decode cX5_reasonToClaim 29 = .ok (.iadd, 1) := by decide +kernel
theorem dX5_reasonToClaim_30 : decode cX5_reasonToClaim 30 = .ok (.iconst 1, 1) := by decide +kernel
theorem dX5_reasonToClaim_31 : decode cX5_reasonToClaim 31 = .ok (.iadd, 1) := by decide +kernel
theorem dX5_reasonToClaim_32 : decode cX5_reasonToClaim 32 = .ok (.iaload, 1) := by decide +kernel
theorem dX5_reasonToClaim_33 : decode cX5_reasonToClaim 33 = .ok (.iconst 2, 1) := by decide +kernel
theorem dX5_reasonToClaim_34 : decode cX5_reasonToClaim 34 = .ok (.if_icmp .lt 7, 3) := by decide +kernel
theorem dX5_reasonToClaim_37 : decode cX5_reasonToClaim 37 = .ok (.iconst 2, 1) := by decide +kernel
theorem dX5_reasonToClaim_38 : decode cX5_reasonToClaim 38 = .ok (.goto 4, 3) := by decide +kernel
theorem dX5_reasonToClaim_41 : decode cX5_reasonToClaim 41 = .ok (.iconst 0, 1) := by decide +kernel
theorem dX5_reasonToClaim_42 : decode cX5_reasonToClaim 42 = .ok (.ireturn, 1) := by decide +kernel
theorem dX5_claim_0 : decode cX5_claim 0 = .ok (.aload_n 0, 1) := by decide +kernel
theorem dX5_claim_1 : decode cX5_claim 1 = .ok (.iload_n 1, 1) := by decide +kernel
theorem dX5_claim_2 : decode cX5_claim 2 = .ok (.invokevirtual 113, 3) := by decide +kernel
theorem dX5_claim_5 : decode cX5_claim 5 = .ok (.ifCond .ne 5, 3) := by decide +kernel
theorem dX5_claim_8 : decode cX5_claim 8 = .ok (.iconst (-1), 1) := by decide +kernel
theorem dX5_claim_9 : decode cX5_claim 9 = .ok (.ireturn, 1) := by decide +kernel
theorem dX5_claim_10 : decode cX5_claim 10 = .ok (.aload_n 0, 1) := by decide +kernel
theorem dX5_claim_11 : decode cX5_claim 11 = .ok (.iload_n 1, 1) := by decide +kernel
theorem dX5_claim_12 : decode cX5_claim 12 = .ok (.invokevirtual 168, 3) := by decide +kernel
theorem dX5_claim_15 : decode cX5_claim 15 = .ok (.istore_n 2, 1) := by decide +kernel
theorem dX5_claim_16 : decode cX5_claim 16 = .ok (.iload_n 2, 1) := by decide +kernel
theorem dX5_claim_17 : decode cX5_claim 17 = .ok (.ifCond .le 8, 3) := by decide +kernel
theorem dX5_claim_20 : decode cX5_claim 20 = .ok (.bipush (-100), 2) := by decide +kernel
theorem dX5_claim_22 : decode cX5_claim 22 = .ok (.iload_n 2, 1) := by decide +kernel
theorem dX5_claim_23 : decode cX5_claim 23 = .ok (.isub, 1) := by decide +kernel
theorem dX5_claim_24 : decode cX5_claim 24 = .ok (.ireturn, 1) := by decide +kernel
theorem dX5_claim_25 : decode cX5_claim 25 = .ok (.aload_n 0, 1) := by decide +kernel
theorem dX5_claim_26 : decode cX5_claim 26 = .ok (.invokevirtual 96, 3) := by decide +kernel
theorem dX5_claim_29 : decode cX5_claim 29 = .ok (.aload_n 0, 1) := by decide +kernel
theorem dX5_claim_30 : decode cX5_claim 30 = .ok (.iload_n 1, 1) := by decide +kernel
theorem dX5_claim_31 : decode cX5_claim 31 = .ok (.bipush 9, 2) := by decide +kernel
theorem dX5_claim_33 : decode cX5_claim 33 = .ok (.aload_n 0, 1) := by decide +kernel
theorem dX5_claim_34 : decode cX5_claim 34 = .ok (.iload_n 1, 1) := by decide +kernel
theorem dX5_claim_35 : decode cX5_claim 35 = .ok (.invokevirtual 123, 3) := by decide +kernel
theorem dX5_claim_38 : decode cX5_claim 38 = .ok (.invokevirtual 55, 3) := by decide +kernel
theorem dX5_claim_41 : decode cX5_claim 41 = .ok (.aload_n 0, 1) := by decide +kernel
theorem dX5_claim_42 : decode cX5_claim 42 = .ok (.iload_n 1, 1) := by decide +kernel
theorem dX5_claim_43 : decode cX5_claim 43 = .ok (.iconst 4, 1) := by decide +kernel
theorem dX5_claim_44 : decode cX5_claim 44 = .ok (.aload_n 0, 1) := by decide +kernel
theorem dX5_claim_45 : decode cX5_claim 45 = .ok (.iload_n 1, 1) := by decide +kernel
theorem dX5_claim_46 : decode cX5_claim 46 = .ok (.iconst 4, 1) := by decide +kernel
theorem dX5_claim_47 : decode cX5_claim 47 = .ok (.invokevirtual 73, 3) := by decide +kernel
theorem dX5_claim_50 : decode cX5_claim 50 = .ok (.aload_n 0, 1) := by decide +kernel
theorem dX5_claim_51 : decode cX5_claim 51 = .ok (.getfield 11, 3) := by decide +kernel
theorem dX5_claim_54 : decode cX5_claim 54 = .ok (.iconst 0, 1) := by decide +kernel
theorem dX5_claim_55 : decode cX5_claim 55 = .ok (.iaload, 1) := by decide +kernel
theorem dX5_claim_56 : decode cX5_claim 56 = .ok (.invokevirtual 63, 3) := by decide +kernel
theorem dX5_claim_59 : decode cX5_claim 59 = .ok (.aload_n 0, 1) := by decide +kernel
theorem dX5_claim_60 : decode cX5_claim 60 = .ok (.getfield 11, 3) := by decide +kernel
theorem dX5_claim_63 : decode cX5_claim 63 = .ok (.sipush 253, 3) := by decide +kernel
theorem dX5_claim_66 : decode cX5_claim 66 = .ok (.iconst 4, 1) := by decide +kernel
theorem dX5_claim_67 : decode cX5_claim 67 = .ok (.aload_n 0, 1) := by decide +kernel
theorem dX5_claim_68 : decode cX5_claim 68 = .ok (.iload_n 1, 1) := by decide +kernel
theorem dX5_claim_69 : decode cX5_claim 69 = .ok (.iconst 4, 1) := by decide +kernel
theorem dX5_claim_70 : decode cX5_claim 70 = .ok (.invokevirtual 73, 3) := by decide +kernel
theorem dX5_claim_73 : decode cX5_claim 73 = .ok (.imul, 1) := by decide +kernel
theorem dX5_claim_74 : decode cX5_claim 74 = .ok (.iadd, 1) := by decide +kernel
theorem dX5_claim_75 : decode cX5_claim 75 = .ok (.iconst 1, 1) := by decide +kernel
theorem dX5_claim_76 : decode cX5_claim 76 = .ok (.iadd, 1) := by decide +kernel
theorem dX5_claim_77 : decode cX5_claim 77 = .ok (.dup2, 1) := by decide +kernel
theorem dX5_claim_78 : decode cX5_claim 78 = .ok (.iaload, 1) := by decide +kernel
theorem dX5_claim_79 : decode cX5_claim 79 = .ok (.iconst 1, 1) := by decide +kernel
theorem dX5_claim_80 : decode cX5_claim 80 = .ok (.iadd, 1) := by decide +kernel
theorem dX5_claim_81 : decode cX5_claim 81 = .ok (.iastore, 1) := by decide +kernel
theorem dX5_claim_82 : decode cX5_claim 82 = .ok (.aload_n 0, 1) := by decide +kernel
theorem dX5_claim_83 : decode cX5_claim 83 = .ok (.aload_n 0, 1) := by decide +kernel
theorem dX5_claim_84 : decode cX5_claim 84 = .ok (.iload_n 1, 1) := by decide +kernel
theorem dX5_claim_85 : decode cX5_claim 85 = .ok (.bipush 9, 2) := by decide +kernel
theorem dX5_claim_87 : decode cX5_claim 87 = .ok (.invokevirtual 73, 3) := by decide +kernel
theorem dX5_claim_90 : decode cX5_claim 90 = .ok (.invokevirtual 103, 3) := by decide +kernel
theorem dX5_claim_93 : decode cX5_claim 93 = .ok (.ireturn, 1) := by decide +kernel
theorem dX5_reasonToLose_0 : decode cX5_reasonToLose 0 = .ok (.aload_n 0, 1) := by decide +kernel
theorem dX5_reasonToLose_1 : decode cX5_reasonToLose 1 = .ok (.iload_n 1, 1) := by decide +kernel
theorem dX5_reasonToLose_2 : decode cX5_reasonToLose 2 = .ok (.iconst 3, 1) := by decide +kernel
theorem dX5_reasonToLose_3 : decode cX5_reasonToLose 3 = .ok (.invokevirtual 73, 3) := by decide +kernel
theorem dX5_reasonToLose_6 : decode cX5_reasonToLose 6 = .ok (.iconst 1, 1) := by decide +kernel
theorem dX5_reasonToLose_7 : decode cX5_reasonToLose 7 = .ok (.if_icmp .eq 13, 3) := by decide +kernel
theorem dX5_reasonToLose_10 : decode cX5_reasonToLose 10 = .ok (.aload_n 0, 1) := by decide +kernel
theorem dX5_reasonToLose_11 : decode cX5_reasonToLose 11 = .ok (.iload_n 1, 1) := by decide +kernel
theorem dX5_reasonToLose_12 : decode cX5_reasonToLose 12 = .ok (.iconst 3, 1) := by decide +kernel
theorem dX5_reasonToLose_13 : decode cX5_reasonToLose 13 = .ok (.invokevirtual 73, 3) := by decide +kernel
theorem dX5_reasonToLose_16 : decode cX5_reasonToLose 16 = .ok (.iconst 4, 1) := by decide +kernel
theorem dX5_reasonToLose_17 : decode cX5_reasonToLose 17 = .ok (.if_icmp .ne 7, 3) := by decide +kernel
theorem dX5_reasonToLose_20 : decode cX5_reasonToLose 20 = .ok (.iconst 0, 1) := by decide +kernel
theorem dX5_reasonToLose_21 : decode cX5_reasonToLose 21 = .ok (.goto 4, 3) := by decide +kernel
theorem dX5_reasonToLose_24 : decode cX5_reasonToLose 24 = .ok (.iconst 1, 1) := by decide +kernel
theorem dX5_reasonToLose_25 : decode cX5_reasonToLose 25 = .ok (.ireturn, 1) := by decide +kernel
theorem dX5_lose_0 : decode cX5_lose 0 = .ok (.aload_n 0, 1) := by decide +kernel
theorem dX5_lose_1 : decode cX5_lose 1 = .ok (.iload_n 1, 1) := by decide +kernel
theorem dX5_lose_2 : decode cX5_lose 2 = .ok (.invokevirtual 113, 3) := by decide +kernel
theorem dX5_lose_5 : decode cX5_lose 5 = .ok (.ifCond .ne 5, 3) := by decide +kernel
theorem dX5_lose_8 : decode cX5_lose 8 = .ok (.iconst (-1), 1) := by decide +kernel
theorem dX5_lose_9 : decode cX5_lose 9 = .ok (.ireturn, 1) := by decide +kernel
theorem dX5_lose_10 : decode cX5_lose 10 = .ok (.aload_n 0, 1) := by decide +kernel
theorem dX5_lose_11 : decode cX5_lose 11 = .ok (.iload_n 1, 1) := by decide +kernel
theorem dX5_lose_12 : decode cX5_lose 12 = .ok (.invokevirtual 171, 3) := by decide +kernel
theorem dX5_lose_15 : decode cX5_lose 15 = .ok (.istore_n 2, 1) := by decide +kernel
theorem dX5_lose_16 : decode cX5_lose 16 = .ok (.iload_n 2, 1) := by decide +kernel
theorem dX5_lose_17 : decode cX5_lose 17 = .ok (.ifCond .le 8, 3) := by decide +kernel
theorem dX5_lose_20 : decode cX5_lose 20 = .ok (.bipush (-100), 2) := by decide +kernel
theorem dX5_lose_22 : decode cX5_lose 22 = .ok (.iload_n 2, 1) := by decide +kernel
theorem dX5_lose_23 : decode cX5_lose 23 = .ok (.isub, 1) := by decide +kernel
theorem dX5_lose_24 : decode cX5_lose 24 = .ok (.ireturn, 1) := by decide +kernel
theorem dX5_lose_25 : decode cX5_lose 25 = .ok (.aload_n 0, 1) := by decide +kernel
theorem dX5_lose_26 : decode cX5_lose 26 = .ok (.invokevirtual 96, 3) := by decide +kernel
theorem dX5_lose_29 : decode cX5_lose 29 = .ok (.aload_n 0, 1) := by decide +kernel
theorem dX5_lose_30 : decode cX5_lose 30 = .ok (.iload_n 1, 1) := by decide +kernel
theorem dX5_lose_31 : decode cX5_lose 31 = .ok (.invokevirtual 135, 3) := by decide +kernel
theorem dX5_lose_34 : decode cX5_lose 34 = .ok (.aload_n 0, 1) := by decide +kernel
theorem dX5_lose_35 : decode cX5_lose 35 = .ok (.getfield 11, 3) := by decide +kernel
theorem dX5_lose_38 : decode cX5_lose 38 = .ok (.sipush 253, 3) := by decide +kernel
theorem dX5_lose_41 : decode cX5_lose 41 = .ok (.iconst 4, 1) := by decide +kernel
theorem dX5_lose_42 : decode cX5_lose 42 = .ok (.aload_n 0, 1) := by decide +kernel
theorem dX5_lose_43 : decode cX5_lose 43 = .ok (.iload_n 1, 1) := by decide +kernel
theorem dX5_lose_44 : decode cX5_lose 44 = .ok (.iconst 4, 1) := by decide +kernel
theorem dX5_lose_45 : decode cX5_lose 45 = .ok (.invokevirtual 73, 3) := by decide +kernel
theorem dX5_lose_48 : decode cX5_lose 48 = .ok (.imul, 1) := by decide +kernel
theorem dX5_lose_49 : decode cX5_lose 49 = .ok (.iadd, 1) := by decide +kernel
theorem dX5_lose_50 : decode cX5_lose 50 = .ok (.iaload, 1) := by decide +kernel
theorem dX5_lose_51 : decode cX5_lose 51 = .ok (.istore_n 3, 1) := by decide +kernel
theorem dX5_lose_52 : decode cX5_lose 52 = .ok (.aload_n 0, 1) := by decide +kernel
theorem dX5_lose_53 : decode cX5_lose 53 = .ok (.iconst 0, 1) := by decide +kernel
theorem dX5_lose_54 : decode cX5_lose 54 = .ok (.invokevirtual 103, 3) := by decide +kernel
theorem dX5_lose_57 : decode cX5_lose 57 = .ok (.istore 4, 2) := by decide +kernel
theorem dX5_lose_59 : decode cX5_lose 59 = .ok (.iload_n 3, 1) := by decide +kernel
theorem dX5_lose_60 : decode cX5_lose 60 = .ok (.ireturn, 1) := by decide +kernel
theorem dX5_reasonToHold_0 : decode cX5_reasonToHold 0 = .ok (.aload_n 0, 1) := by decide +kernel
theorem dX5_reasonToHold_1 : decode cX5_reasonToHold 1 = .ok (.iload_n 1, 1) := by decide +kernel
theorem dX5_reasonToHold_2 : decode cX5_reasonToHold 2 = .ok (.invokevirtual 141, 3) := by decide +kernel
theorem dX5_reasonToHold_5 : decode cX5_reasonToHold 5 = .ok (.ifCond .eq 5, 3) := by decide +kernel
theorem dX5_reasonToHold_8 : decode cX5_reasonToHold 8 = .ok (.iconst 1, 1) := by decide +kernel
theorem dX5_reasonToHold_9 : decode cX5_reasonToHold 9 = .ok (.ireturn, 1) := by decide +kernel
theorem dX5_reasonToHold_10 : decode cX5_reasonToHold 10 = .ok (.iconst 0, 1) := by decide +kernel
theorem dX5_reasonToHold_11 : decode cX5_reasonToHold 11 = .ok (.istore_n 3, 1) := by decide +kernel
theorem dX5_reasonToHold_12 : decode cX5_reasonToHold 12 = .ok (.iconst 0, 1) := by decide +kernel
theorem dX5_reasonToHold_13 : decode cX5_reasonToHold 13 = .ok (.istore 4, 2) := by decide +kernel
theorem dX5_reasonToHold_15 : decode cX5_reasonToHold 15 = .ok (.iload 4, 2) := by decide +kernel
theorem dX5_reasonToHold_17 : decode cX5_reasonToHold 17 = .ok (.aload_n 0, 1) := by decide +kernel
theorem dX5_reasonToHold_18 : decode cX5_reasonToHold 18 = .ok (.getfield 11, 3) := by decide +kernel
theorem dX5_reasonToHold_21 : decode cX5_reasonToHold 21 = .ok (.iconst 3, 1) := by decide +kernel
theorem dX5_reasonToHold_22 : decode cX5_reasonToHold 22 = .ok (.iaload, 1) := by decide +kernel
theorem dX5_reasonToHold_23 : decode cX5_reasonToHold 23 = .ok (.if_icmp .ge 28, 3) := by decide +kernel
theorem dX5_reasonToHold_26 : decode cX5_reasonToHold 26 = .ok (.iload_n 3, 1) := by decide +kernel
theorem dX5_reasonToHold_27 : decode cX5_reasonToHold 27 = .ok (.aload_n 0, 1) := by decide +kernel
theorem dX5_reasonToHold_28 : decode cX5_reasonToHold 28 = .ok (.iload 4, 2) := by decide +kernel
theorem dX5_reasonToHold_30 : decode cX5_reasonToHold 30 = .ok (.iconst 1, 1) := by decide +kernel
theorem dX5_reasonToHold_31 : decode cX5_reasonToHold 31 = .ok (.invokevirtual 59, 3) := by decide +kernel
theorem dX5_reasonToHold_34 : decode cX5_reasonToHold 34 = .ok (.iload_n 1, 1) := by decide +kernel
theorem dX5_reasonToHold_35 : decode cX5_reasonToHold 35 = .ok (.if_icmp .ne 7, 3) := by decide +kernel
theorem dX5_reasonToHold_38 : decode cX5_reasonToHold 38 = .ok (.iconst 1, 1) := by decide +kernel
theorem dX5_reasonToHold_39 : decode cX5_reasonToHold 39 = .ok (.goto 4, 3) := by decide +kernel
theorem dX5_reasonToHold_42 : decode cX5_reasonToHold 42 = .ok (.iconst 0, 1) := by decide +kernel
theorem dX5_reasonToHold_43 : decode cX5_reasonToHold 43 = .ok (.iadd, 1) := by decide +kernel
theorem dX5_reasonToHold_44 : decode cX5_reasonToHold 44 = .ok (.istore_n 3, 1) := by decide +kernel
theorem dX5_reasonToHold_45 : decode cX5_reasonToHold 45 = .ok (.iinc 4 1, 3) := by decide +kernel
theorem dX5_reasonToHold_48 : decode cX5_reasonToHold 48 = .ok (.goto (-33), 3) := by decide +kernel
theorem dX5_reasonToHold_51 : decode cX5_reasonToHold 51 = .ok (.iload_n 3, 1) := by decide +kernel
theorem dX5_reasonToHold_52 : decode cX5_reasonToHold 52 = .ok (.iconst 3, 1) := by decide +kernel
theorem dX5_reasonToHold_53 : decode cX5_reasonToHold 53 = .ok (.if_icmp .lt 5, 3) := by decide +kernel
theorem dX5_reasonToHold_56 : decode cX5_reasonToHold 56 = .ok (.iconst 2, 1) := by decide +kernel
theorem dX5_reasonToHold_57 : decode cX5_reasonToHold 57 = .ok (.ireturn, 1) := by decide +kernel
theorem dX5_reasonToHold_58 : decode cX5_reasonToHold 58 = .ok (.aload_n 0, 1) := by decide +kernel
theorem dX5_reasonToHold_59 : decode cX5_reasonToHold 59 = .ok (.iload_n 1, 1) := by decide +kernel
theorem dX5_reasonToHold_60 : decode cX5_reasonToHold 60 = .ok (.iload_n 2, 1) := by decide +kernel
theorem dX5_reasonToHold_61 : decode cX5_reasonToHold 61 = .ok (.invokevirtual 174, 3) := by decide +kernel
theorem dX5_reasonToHold_64 : decode cX5_reasonToHold 64 = .ok (.ifCond .lt 5, 3) := by decide +kernel
theorem dX5_reasonToHold_67 : decode cX5_reasonToHold 67 = .ok (.iconst 3, 1) := by decide +kernel
theorem dX5_reasonToHold_68 : decode cX5_reasonToHold 68 = .ok (.ireturn, 1) := by decide +kernel
theorem dX5_reasonToHold_69 : decode cX5_reasonToHold 69 = .ok (.iconst 0, 1) := by decide +kernel
theorem dX5_reasonToHold_70 : decode cX5_reasonToHold 70 = .ok (.istore 4, 2) := by decide +kernel
theorem dX5_reasonToHold_72 : decode cX5_reasonToHold 72 = .ok (.iload 4, 2) := by decide +kernel
theorem dX5_reasonToHold_74 : decode cX5_reasonToHold 74 = .ok (.aload_n 0, 1) := by decide +kernel
theorem dX5_reasonToHold_75 : decode cX5_reasonToHold 75 = .ok (.getfield 11, 3) := by decide +kernel
theorem dX5_reasonToHold_78 : decode cX5_reasonToHold 78 = .ok (.iconst 1, 1) := by decide +kernel
theorem dX5_reasonToHold_79 : decode cX5_reasonToHold 79 = .ok (.iaload, 1) := by decide +kernel
theorem dX5_reasonToHold_80 : decode cX5_reasonToHold 80 = .ok (.if_icmp .ge 44, 3) := by decide +kernel
theorem dX5_reasonToHold_83 : decode cX5_reasonToHold 83 = .ok (.aload_n 0, 1) := by decide +kernel
theorem dX5_reasonToHold_84 : decode cX5_reasonToHold 84 = .ok (.iload 4, 2) := by decide +kernel
theorem dX5_reasonToHold_86 : decode cX5_reasonToHold 86 = .ok (.iconst 3, 1) := by decide +kernel
theorem dX5_reasonToHold_87 : decode cX5_reasonToHold 87 = .ok (.invokevirtual 73, 3) := by decide +kernel
theorem dX5_reasonToHold_90 : decode cX5_reasonToHold 90 = .ok (.iconst 1, 1) := by decide +kernel
theorem dX5_reasonToHold_91 : decode cX5_reasonToHold 91 = .ok (.if_icmp .ne 27, 3) := by decide +kernel
theorem dX5_reasonToHold_94 : decode cX5_reasonToHold 94 = .ok (.aload_n 0, 1) := by decide +kernel
theorem dX5_reasonToHold_95 : decode cX5_reasonToHold 95 = .ok (.iload 4, 2) := by decide +kernel
theorem dX5_reasonToHold_97 : decode cX5_reasonToHold 97 = .ok (.iconst 4, 1) := by decide +kernel
theorem dX5_reasonToHold_98 : decode cX5_reasonToHold 98 = .ok (.invokevirtual 73, 3) := by decide +kernel
theorem dX5_reasonToHold_101 : decode cX5_reasonToHold 101 = .ok (.iload_n 1, 1) := by decide +kernel
theorem dX5_reasonToHold_102 : decode cX5_reasonToHold 102 = .ok (.if_icmp .ne 16, 3) := by decide +kernel
theorem dX5_reasonToHold_105 : decode cX5_reasonToHold 105 = .ok (.aload_n 0, 1) := by decide +kernel
theorem dX5_reasonToHold_106 : decode cX5_reasonToHold 106 = .ok (.iload 4, 2) := by decide +kernel
theorem dX5_reasonToHold_108 : decode cX5_reasonToHold 108 = .ok (.iconst 0, 1) := by decide +kernel
theorem dX5_reasonToHold_109 : decode cX5_reasonToHold 109 = .ok (.invokevirtual 73, 3) := by decide +kernel
theorem dX5_reasonToHold_112 : decode cX5_reasonToHold 112 = .ok (.iload_n 2, 1) := by decide +kernel
theorem dX5_reasonToHold_113 : decode cX5_reasonToHold 113 = .ok (.if_icmp .ne 5, 3) := by decide +kernel
theorem dX5_reasonToHold_116 : decode cX5_reasonToHold 116 = .ok (.iconst 4, 1) := by decide +kernel
theorem dX5_reasonToHold_117 : decode cX5_reasonToHold 117 = .ok (.ireturn, 1) := by decide +kernel
theorem dX5_reasonToHold_118 : decode cX5_reasonToHold 118 = .ok (.iinc 4 1, 3) := by decide +kernel
theorem dX5_reasonToHold_121 : decode cX5_reasonToHold 121 = .ok (.goto (-49), 3) := by decide +kernel
theorem dX5_reasonToHold_124 : decode cX5_reasonToHold 124 = .ok (.iconst 0, 1) := by decide +kernel
theorem dX5_reasonToHold_125 : decode cX5_reasonToHold 125 = .ok (.ireturn, 1) := by decide +kernel
theorem dX5_nearest_0 : decode cX5_nearest 0 = .ok (.bipush (-2), 2) := by decide +kernel
theorem dX5_nearest_2 : decode cX5_nearest 2 = .ok (.istore_n 3, 1) := by decide +kernel
theorem dX5_nearest_3 : decode cX5_nearest 3 = .ok (.iconst 0, 1) := by decide +kernel
theorem dX5_nearest_4 : decode cX5_nearest 4 = .ok (.istore 4, 2) := by decide +kernel
theorem dX5_nearest_6 : decode cX5_nearest 6 = .ok (.iload 4, 2) := by decide +kernel
theorem dX5_nearest_8 : decode cX5_nearest 8 = .ok (.aload_n 0, 1) := by decide +kernel
theorem dX5_nearest_9 : decode cX5_nearest 9 = .ok (.getfield 11, 3) := by decide +kernel
theorem dX5_nearest_12 : decode cX5_nearest 12 = .ok (.iconst 1, 1) := by decide +kernel
theorem dX5_nearest_13 : decode cX5_nearest 13 = .ok (.iaload, 1) := by decide +kernel
theorem dX5_nearest_14 : decode cX5_nearest 14 = .ok (.if_icmp .ge 66, 3) := by decide +kernel
theorem dX5_nearest_17 : decode cX5_nearest 17 = .ok (.aload_n 0, 1) := by decide +kernel
theorem dX5_nearest_18 : decode cX5_nearest 18 = .ok (.iload 4, 2) := by decide +kernel
theorem dX5_nearest_20 : decode cX5_nearest 20 = .ok (.iconst 0, 1) := by decide +kernel
theorem dX5_nearest_21 : decode cX5_nearest 21 = .ok (.invokevirtual 73, 3) := by decide +kernel
theorem dX5_nearest_24 : decode cX5_nearest 24 = .ok (.iload_n 1, 1) := by decide +kernel
theorem dX5_nearest_25 : decode cX5_nearest 25 = .ok (.if_icmp .ne 49, 3) := by decide +kernel
theorem dX5_nearest_28 : decode cX5_nearest 28 = .ok (.aload_n 0, 1) := by decide +kernel
theorem dX5_nearest_29 : decode cX5_nearest 29 = .ok (.iload 4, 2) := by decide +kernel
theorem dX5_nearest_31 : decode cX5_nearest 31 = .ok (.iconst 3, 1) := by decide +kernel
theorem dX5_nearest_32 : decode cX5_nearest 32 = .ok (.invokevirtual 73, 3) := by decide +kernel
theorem dX5_nearest_35 : decode cX5_nearest 35 = .ok (.ifCond .eq 6, 3) := by decide +kernel
theorem dX5_nearest_38 : decode cX5_nearest 38 = .ok (.goto 36, 3) := by decide +kernel
theorem dX5_nearest_41 : decode cX5_nearest 41 = .ok (.iload_n 3, 1) := by decide +kernel
theorem dX5_nearest_42 : decode cX5_nearest 42 = .ok (.ifCond .lt 29, 3) := by decide +kernel
theorem dX5_nearest_45 : decode cX5_nearest 45 = .ok (.aload_n 0, 1) := by decide +kernel
theorem dX5_nearest_46 : decode cX5_nearest 46 = .ok (.iload 4, 2) := by decide +kernel
theorem dX5_nearest_48 : decode cX5_nearest 48 = .ok (.iconst 4, 1) := by decide +kernel
theorem dX5_nearest_49 : decode cX5_nearest 49 = .ok (.invokevirtual 73, 3) := by decide +kernel
theorem dX5_nearest_52 : decode cX5_nearest 52 = .ok (.iload_n 2, 1) := by decide +kernel
theorem dX5_nearest_53 : decode cX5_nearest 53 = .ok (.isub, 1) := by decide +kernel
theorem dX5_nearest_54 : decode cX5_nearest 54 = .ok (.invokestatic 67, 3) := by decide +kernel
theorem dX5_nearest_57 : decode cX5_nearest 57 = .ok (.aload_n 0, 1) := by decide +kernel
theorem dX5_nearest_58 : decode cX5_nearest 58 = .ok (.iload_n 3, 1) := by decide +kernel
theorem dX5_nearest_59 : decode cX5_nearest 59 = .ok (.iconst 4, 1) := by decide +kernel
theorem dX5_nearest_60 : decode cX5_nearest 60 = .ok (.invokevirtual 73, 3) := by decide +kernel
theorem dX5_nearest_63 : decode cX5_nearest 63 = .ok (.iload_n 2, 1) := by decide +kernel
theorem dX5_nearest_64 : decode cX5_nearest 64 = .ok (.isub, 1) := by decide +kernel
theorem dX5_nearest_65 : decode cX5_nearest 65 = .ok (.invokestatic 67, 3) := by decide +kernel
theorem dX5_nearest_68 : decode cX5_nearest 68 = .ok (.if_icmp .ge 6, 3) := by decide +kernel
theorem dX5_nearest_71 : decode cX5_nearest 71 = .ok (.iload 4, 2) := by decide +kernel
theorem dX5_nearest_73 : decode cX5_nearest 73 = .ok (.istore_n 3, 1) := by decide +kernel
theorem dX5_nearest_74 : decode cX5_nearest 74 = .ok (.iinc 4 1, 3) := by decide +kernel
theorem dX5_nearest_77 : decode cX5_nearest 77 = .ok (.goto (-71), 3) := by decide +kernel
theorem dX5_nearest_80 : decode cX5_nearest 80 = .ok (.iload_n 3, 1) := by decide +kernel
theorem dX5_nearest_81 : decode cX5_nearest 81 = .ok (.ireturn, 1) := by decide +kernel
theorem dX5_recalls_0 : decode cX5_recalls 0 = .ok (.bipush (-2), 2) := by decide +kernel
theorem dX5_recalls_2 : decode cX5_recalls 2 = .ok (.istore_n 2, 1) := by decide +kernel
theorem dX5_recalls_3 : decode cX5_recalls 3 = .ok (.iconst 0, 1) := by decide +kernel
theorem dX5_recalls_4 : decode cX5_recalls 4 = .ok (.istore_n 3, 1) := by decide +kernel
theorem dX5_recalls_5 : decode cX5_recalls 5 = .ok (.iload_n 3, 1) := by decide +kernel
theorem dX5_recalls_6 : decode cX5_recalls 6 = .ok (.aload_n 0, 1) := by decide +kernel
theorem dX5_recalls_7 : decode cX5_recalls 7 = .ok (.getfield 11, 3) := by decide +kernel
theorem dX5_recalls_10 : decode cX5_recalls 10 = .ok (.iconst 1, 1) := by decide +kernel
theorem dX5_recalls_11 : decode cX5_recalls 11 = .ok (.iaload, 1) := by decide +kernel
theorem dX5_recalls_12 : decode cX5_recalls 12 = .ok (.if_icmp .ge 66, 3) := by decide +kernel
theorem dX5_recalls_15 : decode cX5_recalls 15 = .ok (.aload_n 0, 1) := by decide +kernel
theorem dX5_recalls_16 : decode cX5_recalls 16 = .ok (.iload_n 3, 1) := by decide +kernel
theorem dX5_recalls_17 : decode cX5_recalls 17 = .ok (.iconst 0, 1) := by decide +kernel
theorem dX5_recalls_18 : decode cX5_recalls 18 = .ok (.invokevirtual 73, 3) := by decide +kernel
theorem dX5_recalls_21 : decode cX5_recalls 21 = .ok (.iload_n 1, 1) := by decide +kernel
theorem dX5_recalls_22 : decode cX5_recalls 22 = .ok (.if_icmp .ne 50, 3) := by decide +kernel
theorem dX5_recalls_25 : decode cX5_recalls 25 = .ok (.aload_n 0, 1) := by decide +kernel
theorem dX5_recalls_26 : decode cX5_recalls 26 = .ok (.iload_n 3, 1) := by decide +kernel
theorem dX5_recalls_27 : decode cX5_recalls 27 = .ok (.iconst 3, 1) := by decide +kernel
theorem dX5_recalls_28 : decode cX5_recalls 28 = .ok (.invokevirtual 73, 3) := by decide +kernel
theorem dX5_recalls_31 : decode cX5_recalls 31 = .ok (.iconst 1, 1) := by decide +kernel
theorem dX5_recalls_32 : decode cX5_recalls 32 = .ok (.if_icmp .ne 40, 3) := by decide +kernel
theorem dX5_recalls_35 : decode cX5_recalls 35 = .ok (.aload_n 0, 1) := by decide +kernel
theorem dX5_recalls_36 : decode cX5_recalls 36 = .ok (.iload_n 3, 1) := by decide +kernel
theorem dX5_recalls_37 : decode cX5_recalls 37 = .ok (.bipush 8, 2) := by decide +kernel
theorem dX5_recalls_39 : decode cX5_recalls 39 = .ok (.invokevirtual 73, 3) := by decide +kernel
theorem dX5_recalls_42 : decode cX5_recalls 42 = .ok (.iconst 1, 1) := by decide +kernel
theorem dX5_recalls_43 : decode cX5_recalls 43 = .ok (.if_icmp .ne 6, 3) := by decide +kernel
theorem dX5_recalls_46 : decode cX5_recalls 46 = .ok (.goto 26, 3) := by decide +kernel
theorem dX5_recalls_49 : decode cX5_recalls 49 = .ok (.iload_n 2, 1) := by decide +kernel
theorem dX5_recalls_50 : decode cX5_recalls 50 = .ok (.ifCond .lt 20, 3) := by decide +kernel
theorem dX5_recalls_53 : decode cX5_recalls 53 = .ok (.aload_n 0, 1) := by decide +kernel
theorem dX5_recalls_54 : decode cX5_recalls 54 = .ok (.iload_n 3, 1) := by decide +kernel
theorem dX5_recalls_55 : decode cX5_recalls 55 = .ok (.bipush 6, 2) := by decide +kernel
theorem dX5_recalls_57 : decode cX5_recalls 57 = .ok (.invokevirtual 73, 3) := by decide +kernel
theorem dX5_recalls_60 : decode cX5_recalls 60 = .ok (.aload_n 0, 1) := by decide +kernel
theorem dX5_recalls_61 : decode cX5_recalls 61 = .ok (.iload_n 2, 1) := by decide +kernel
theorem dX5_recalls_62 : decode cX5_recalls 62 = .ok (.bipush 6, 2) := by decide +kernel
theorem dX5_recalls_64 : decode cX5_recalls 64 = .ok (.invokevirtual 73, 3) := by decide +kernel
theorem dX5_recalls_67 : decode cX5_recalls 67 = .ok (.if_icmp .ge 5, 3) := by decide +kernel
theorem dX5_recalls_70 : decode cX5_recalls 70 = .ok (.iload_n 3, 1) := by decide +kernel
theorem dX5_recalls_71 : decode cX5_recalls 71 = .ok (.istore_n 2, 1) := by decide +kernel
theorem dX5_recalls_72 : decode cX5_recalls 72 = .ok (.iinc 3 1, 3) := by decide +kernel
theorem dX5_recalls_75 : decode cX5_recalls 75 = .ok (.goto (-70), 3) := by decide +kernel
theorem dX5_recalls_78 : decode cX5_recalls 78 = .ok (.iload_n 2, 1) := by decide +kernel
theorem dX5_recalls_79 : decode cX5_recalls 79 = .ok (.ifCond .ge 4, 3) := by decide +kernel
theorem dX5_recalls_82 : decode cX5_recalls 82 = .ok (.return_, 1) := by decide +kernel
theorem dX5_recalls_83 : decode cX5_recalls 83 = .ok (.aload_n 0, 1) := by decide +kernel
theorem dX5_recalls_84 : decode cX5_recalls 84 = .ok (.iload_n 2, 1) := by decide +kernel
theorem dX5_recalls_85 : decode cX5_recalls 85 = .ok (.bipush 8, 2) := by decide +kernel
theorem dX5_recalls_87 : decode cX5_recalls 87 = .ok (.iconst 1, 1) := by decide +kernel
theorem dX5_recalls_88 : decode cX5_recalls 88 = .ok (.invokevirtual 55, 3) := by decide +kernel
theorem dX5_recalls_91 : decode cX5_recalls 91 = .ok (.aload_n 0, 1) := by decide +kernel
theorem dX5_recalls_92 : decode cX5_recalls 92 = .ok (.iload_n 2, 1) := by decide +kernel
theorem dX5_recalls_93 : decode cX5_recalls 93 = .ok (.iconst 5, 1) := by decide +kernel
theorem dX5_recalls_94 : decode cX5_recalls 94 = .ok (.aload_n 0, 1) := by decide +kernel
theorem dX5_recalls_95 : decode cX5_recalls 95 = .ok (.iload_n 2, 1) := by decide +kernel
theorem dX5_recalls_96 : decode cX5_recalls 96 = .ok (.iconst 5, 1) := by decide +kernel
theorem dX5_recalls_97 : decode cX5_recalls 97 = .ok (.invokevirtual 73, 3) := by decide +kernel
theorem dX5_recalls_100 : decode cX5_recalls 100 = .ok (.aload_n 0, 1) := by decide +kernel
theorem dX5_recalls_101 : decode cX5_recalls 101 = .ok (.getfield 11, 3) := by decide +kernel
theorem dX5_recalls_104 : decode cX5_recalls 104 = .ok (.iconst 0, 1) := by decide +kernel
theorem dX5_recalls_105 : decode cX5_recalls 105 = .ok (.iaload, 1) := by decide +kernel
theorem dX5_recalls_106 : decode cX5_recalls 106 = .ok (.iconst 3, 1) := by decide +kernel
theorem dX5_recalls_107 : decode cX5_recalls 107 = .ok (.iadd, 1) := by decide +kernel
theorem dX5_recalls_108 : decode cX5_recalls 108 = .ok (.aload_n 0, 1) := by decide +kernel
theorem dX5_recalls_109 : decode cX5_recalls 109 = .ok (.iload_n 2, 1) := by decide +kernel
theorem dX5_recalls_110 : decode cX5_recalls 110 = .ok (.bipush 6, 2) := by decide +kernel
theorem dX5_recalls_112 : decode cX5_recalls 112 = .ok (.invokevirtual 73, 3) := by decide +kernel
theorem dX5_recalls_115 : decode cX5_recalls 115 = .ok (.bipush 7, 2) := by decide +kernel
theorem dX5_recalls_117 : decode cX5_recalls 117 = .ok (.iadd, 1) := by decide +kernel
theorem dX5_recalls_118 : decode cX5_recalls 118 = .ok (.invokestatic 82, 3) := by decide +kernel
theorem dX5_recalls_121 : decode cX5_recalls 121 = .ok (.invokestatic 177, 3) := by decide +kernel
theorem dX5_recalls_124 : decode cX5_recalls 124 = .ok (.invokevirtual 55, 3) := by decide +kernel
theorem dX5_recalls_127 : decode cX5_recalls 127 = .ok (.return_, 1) := by decide +kernel
theorem dX5_laysHold_0 : decode cX5_laysHold 0 = .ok (.aload_n 0, 1) := by decide +kernel
theorem dX5_laysHold_1 : decode cX5_laysHold 1 = .ok (.iload_n 1, 1) := by decide +kernel
theorem dX5_laysHold_2 : decode cX5_laysHold 2 = .ok (.invokevirtual 147, 3) := by decide +kernel
theorem dX5_laysHold_5 : decode cX5_laysHold 5 = .ok (.ifCond .eq 17, 3) := by decide +kernel
theorem dX5_laysHold_8 : decode cX5_laysHold 8 = .ok (.iload_n 2, 1) := by decide +kernel
theorem dX5_laysHold_9 : decode cX5_laysHold 9 = .ok (.invokestatic 89, 3) := by decide +kernel
theorem dX5_laysHold_12 : decode cX5_laysHold 12 = .ok (.ifCond .eq 10, 3) := by decide +kernel
theorem dX5_laysHold_15 : decode cX5_laysHold 15 = .ok (.iload_n 3, 1) := by decide +kernel
theorem dX5_laysHold_16 : decode cX5_laysHold 16 = .ok (.invokestatic 93, 3) := by decide +kernel
theorem dX5_laysHold_19 : decode cX5_laysHold 19 = .ok (.ifCond .ne 5, 3) := by decide +kernel
theorem dX5_laysHold_22 : decode cX5_laysHold 22 = .ok (.iconst (-1), 1) := by decide +kernel
theorem dX5_laysHold_23 : decode cX5_laysHold 23 = .ok (.ireturn, 1) := by decide +kernel
theorem dX5_laysHold_24 : decode cX5_laysHold 24 = .ok (.aload_n 0, 1) := by decide +kernel
theorem dX5_laysHold_25 : decode cX5_laysHold 25 = .ok (.iload_n 1, 1) := by decide +kernel
theorem dX5_laysHold_26 : decode cX5_laysHold 26 = .ok (.iload_n 2, 1) := by decide +kernel
theorem dX5_laysHold_27 : decode cX5_laysHold 27 = .ok (.invokevirtual 179, 3) := by decide +kernel
theorem dX5_laysHold_30 : decode cX5_laysHold 30 = .ok (.istore 4, 2) := by decide +kernel
theorem dX5_laysHold_32 : decode cX5_laysHold 32 = .ok (.iload 4, 2) := by decide +kernel
theorem dX5_laysHold_34 : decode cX5_laysHold 34 = .ok (.ifCond .le 9, 3) := by decide +kernel
theorem dX5_laysHold_37 : decode cX5_laysHold 37 = .ok (.bipush (-100), 2) := by decide +kernel
theorem dX5_laysHold_39 : decode cX5_laysHold 39 = .ok (.iload 4, 2) := by decide +kernel
theorem dX5_laysHold_41 : decode cX5_laysHold 41 = .ok (.isub, 1) := by decide +kernel
theorem dX5_laysHold_42 : decode cX5_laysHold 42 = .ok (.ireturn, 1) := by decide +kernel
theorem dX5_laysHold_43 : decode cX5_laysHold 43 = .ok (.aload_n 0, 1) := by decide +kernel
theorem dX5_laysHold_44 : decode cX5_laysHold 44 = .ok (.getfield 11, 3) := by decide +kernel
theorem dX5_laysHold_47 : decode cX5_laysHold 47 = .ok (.iconst 3, 1) := by decide +kernel
theorem dX5_laysHold_48 : decode cX5_laysHold 48 = .ok (.iaload, 1) := by decide +kernel
theorem dX5_laysHold_49 : decode cX5_laysHold 49 = .ok (.istore 5, 2) := by decide +kernel
theorem dX5_laysHold_51 : decode cX5_laysHold 51 = .ok (.iload 5, 2) := by decide +kernel
theorem dX5_laysHold_53 : decode cX5_laysHold 53 = .ok (.bipush 24, 2) := by decide +kernel
theorem dX5_laysHold_55 : decode cX5_laysHold 55 = .ok (.if_icmp .ne 6, 3) := by decide +kernel
theorem dX5_laysHold_58 : decode cX5_laysHold 58 = .ok (.bipush (-3), 2) := by decide +kernel
theorem dX5_laysHold_60 : decode cX5_laysHold 60 = .ok (.ireturn, 1) := by decide +kernel
theorem dX5_laysHold_61 : decode cX5_laysHold 61 = .ok (.aload_n 0, 1) := by decide +kernel
theorem dX5_laysHold_62 : decode cX5_laysHold 62 = .ok (.getfield 11, 3) := by decide +kernel
theorem dX5_laysHold_65 : decode cX5_laysHold 65 = .ok (.sipush 285, 3) := by decide +kernel
theorem dX5_laysHold_68 : decode cX5_laysHold 68 = .ok (.iconst 4, 1) := by decide +kernel
theorem dX5_laysHold_69 : decode cX5_laysHold 69 = .ok (.iload 5, 2) := by decide +kernel
theorem dX5_laysHold_71 : decode cX5_laysHold 71 = .ok (.imul, 1) := by decide +kernel
theorem dX5_laysHold_72 : decode cX5_laysHold 72 = .ok (.iadd, 1) := by decide +kernel
theorem dX5_laysHold_73 : decode cX5_laysHold 73 = .ok (.iload_n 2, 1) := by decide +kernel
theorem dX5_laysHold_74 : decode cX5_laysHold 74 = .ok (.iastore, 1) := by decide +kernel
theorem dX5_laysHold_75 : decode cX5_laysHold 75 = .ok (.aload_n 0, 1) := by decide +kernel
theorem dX5_laysHold_76 : decode cX5_laysHold 76 = .ok (.getfield 11, 3) := by decide +kernel
theorem dX5_laysHold_79 : decode cX5_laysHold 79 = .ok (.sipush 285, 3) := by decide +kernel
theorem dX5_laysHold_82 : decode cX5_laysHold 82 = .ok (.iconst 4, 1) := by decide +kernel
theorem dX5_laysHold_83 : decode cX5_laysHold 83 = .ok (.iload 5, 2) := by decide +kernel
theorem dX5_laysHold_85 : decode cX5_laysHold 85 = .ok (.imul, 1) := by decide +kernel
theorem dX5_laysHold_86 : decode cX5_laysHold 86 = .ok (.iadd, 1) := by decide +kernel
theorem dX5_laysHold_87 : decode cX5_laysHold 87 = .ok (.iconst 1, 1) := by decide +kernel
theorem dX5_laysHold_88 : decode cX5_laysHold 88 = .ok (.iadd, 1) := by decide +kernel
theorem dX5_laysHold_89 : decode cX5_laysHold 89 = .ok (.iload_n 1, 1) := by decide +kernel
theorem dX5_laysHold_90 : decode cX5_laysHold 90 = .ok (.iastore, 1) := by decide +kernel
theorem dX5_laysHold_91 : decode cX5_laysHold 91 = .ok (.aload_n 0, 1) := by decide +kernel
theorem dX5_laysHold_92 : decode cX5_laysHold 92 = .ok (.getfield 11, 3) := by decide +kernel
theorem dX5_laysHold_95 : decode cX5_laysHold 95 = .ok (.sipush 285, 3) := by decide +kernel
theorem dX5_laysHold_98 : decode cX5_laysHold 98 = .ok (.iconst 4, 1) := by decide +kernel
theorem dX5_laysHold_99 : decode cX5_laysHold 99 = .ok (.iload 5, 2) := by decide +kernel
theorem dX5_laysHold_101 : decode cX5_laysHold 101 = .ok (.imul, 1) := by decide +kernel
theorem dX5_laysHold_102 : decode cX5_laysHold 102 = .ok (.iadd, 1) := by decide +kernel
theorem dX5_laysHold_103 : decode cX5_laysHold 103 = .ok (.iconst 2, 1) := by decide +kernel
theorem dX5_laysHold_104 : decode cX5_laysHold 104 = .ok (.iadd, 1) := by decide +kernel
theorem dX5_laysHold_105 : decode cX5_laysHold 105 = .ok (.iload_n 3, 1) := by decide +kernel
theorem dX5_laysHold_106 : decode cX5_laysHold 106 = .ok (.iastore, 1) := by decide +kernel
theorem dX5_laysHold_107 : decode cX5_laysHold 107 = .ok (.aload_n 0, 1) := by decide +kernel
theorem dX5_laysHold_108 : decode cX5_laysHold 108 = .ok (.getfield 11, 3) := by decide +kernel
theorem dX5_laysHold_111 : decode cX5_laysHold 111 = .ok (.sipush 285, 3) := by decide +kernel
theorem dX5_laysHold_114 : decode cX5_laysHold 114 = .ok (.iconst 4, 1) := by decide +kernel
theorem dX5_laysHold_115 : decode cX5_laysHold 115 = .ok (.iload 5, 2) := by decide +kernel
theorem dX5_laysHold_117 : decode cX5_laysHold 117 = .ok (.imul, 1) := by decide +kernel
theorem dX5_laysHold_118 : decode cX5_laysHold 118 = .ok (.iadd, 1) := by decide +kernel
theorem dX5_laysHold_119 : decode cX5_laysHold 119 = .ok (.iconst 3, 1) := by decide +kernel
theorem dX5_laysHold_120 : decode cX5_laysHold 120 = .ok (.iadd, 1) := by decide +kernel
theorem dX5_laysHold_121 : decode cX5_laysHold 121 = .ok (.bipush (-2), 2) := by decide +kernel
theorem dX5_laysHold_123 : decode cX5_laysHold 123 = .ok (.iastore, 1) := by decide +kernel
theorem dX5_laysHold_124 : decode cX5_laysHold 124 = .ok (.aload_n 0, 1) := by decide +kernel
theorem dX5_laysHold_125 : decode cX5_laysHold 125 = .ok (.getfield 11, 3) := by decide +kernel
theorem dX5_laysHold_128 : decode cX5_laysHold 128 = .ok (.iconst 3, 1) := by decide +kernel
theorem dX5_laysHold_129 : decode cX5_laysHold 129 = .ok (.dup2, 1) := by decide +kernel
theorem dX5_laysHold_130 : decode cX5_laysHold 130 = .ok (.iaload, 1) := by decide +kernel
theorem dX5_laysHold_131 : decode cX5_laysHold 131 = .ok (.iconst 1, 1) := by decide +kernel
theorem dX5_laysHold_132 : decode cX5_laysHold 132 = .ok (.iadd, 1) := by decide +kernel
theorem dX5_laysHold_133 : decode cX5_laysHold 133 = .ok (.iastore, 1) := by decide +kernel
theorem dX5_laysHold_134 : decode cX5_laysHold 134 = .ok (.aload_n 0, 1) := by decide +kernel
theorem dX5_laysHold_135 : decode cX5_laysHold 135 = .ok (.iload_n 2, 1) := by decide +kernel
theorem dX5_laysHold_136 : decode cX5_laysHold 136 = .ok (.iload_n 3, 1) := by decide +kernel
theorem dX5_laysHold_137 : decode cX5_laysHold 137 = .ok (.invokevirtual 182, 3) := by decide +kernel
theorem dX5_laysHold_140 : decode cX5_laysHold 140 = .ok (.istore 6, 2) := by decide +kernel
theorem dX5_laysHold_142 : decode cX5_laysHold 142 = .ok (.iload 6, 2) := by decide +kernel
theorem dX5_laysHold_144 : decode cX5_laysHold 144 = .ok (.ifCond .lt 21, 3) := by decide +kernel
theorem dX5_laysHold_147 : decode cX5_laysHold 147 = .ok (.aload_n 0, 1) := by decide +kernel
theorem dX5_laysHold_148 : decode cX5_laysHold 148 = .ok (.iload 6, 2) := by decide +kernel
theorem dX5_laysHold_150 : decode cX5_laysHold 150 = .ok (.aload_n 0, 1) := by decide +kernel
theorem dX5_laysHold_151 : decode cX5_laysHold 151 = .ok (.iload 6, 2) := by decide +kernel
theorem dX5_laysHold_153 : decode cX5_laysHold 153 = .ok (.iconst 4, 1) := by decide +kernel
theorem dX5_laysHold_154 : decode cX5_laysHold 154 = .ok (.invokevirtual 73, 3) := by decide +kernel
theorem dX5_laysHold_157 : decode cX5_laysHold 157 = .ok (.iload 5, 2) := by decide +kernel
theorem dX5_laysHold_159 : decode cX5_laysHold 159 = .ok (.invokevirtual 79, 3) := by decide +kernel
theorem dX5_laysHold_162 : decode cX5_laysHold 162 = .ok (.goto 8, 3) := by decide +kernel
theorem dX5_laysHold_165 : decode cX5_laysHold 165 = .ok (.aload_n 0, 1) := by decide +kernel
theorem dX5_laysHold_166 : decode cX5_laysHold 166 = .ok (.iload_n 2, 1) := by decide +kernel
theorem dX5_laysHold_167 : decode cX5_laysHold 167 = .ok (.invokevirtual 185, 3) := by decide +kernel
theorem dX5_laysHold_170 : decode cX5_laysHold 170 = .ok (.aload_n 0, 1) := by decide +kernel
theorem dX5_laysHold_171 : decode cX5_laysHold 171 = .ok (.iload_n 2, 1) := by decide +kernel
theorem dX5_laysHold_172 : decode cX5_laysHold 172 = .ok (.invokevirtual 159, 3) := by decide +kernel
theorem dX5_laysHold_175 : decode cX5_laysHold 175 = .ok (.ireturn, 1) := by decide +kernel
theorem dX5_hold__0 : decode cX5_hold_ 0 = .ok (.aload_n 0, 1) := by decide +kernel
theorem dX5_hold__1 : decode cX5_hold_ 1 = .ok (.invokevirtual 96, 3) := by decide +kernel
theorem dX5_hold__4 : decode cX5_hold_ 4 = .ok (.aload_n 0, 1) := by decide +kernel
theorem dX5_hold__5 : decode cX5_hold_ 5 = .ok (.aload_n 0, 1) := by decide +kernel
theorem dX5_hold__6 : decode cX5_hold_ 6 = .ok (.iload_n 1, 1) := by decide +kernel
theorem dX5_hold__7 : decode cX5_hold_ 7 = .ok (.iload_n 2, 1) := by decide +kernel
theorem dX5_hold__8 : decode cX5_hold_ 8 = .ok (.iload_n 3, 1) := by decide +kernel
theorem dX5_hold__9 : decode cX5_hold_ 9 = .ok (.invokevirtual 188, 3) := by decide +kernel
theorem dX5_hold__12 : decode cX5_hold_ 12 = .ok (.invokevirtual 103, 3) := by decide +kernel
theorem dX5_hold__15 : decode cX5_hold_ 15 = .ok (.ireturn, 1) := by decide +kernel
theorem dX5_cancels_0 : decode cX5_cancels 0 = .ok (.aload_n 0, 1) := by decide +kernel
theorem dX5_cancels_1 : decode cX5_cancels 1 = .ok (.iload_n 1, 1) := by decide +kernel
theorem dX5_cancels_2 : decode cX5_cancels 2 = .ok (.invokevirtual 147, 3) := by decide +kernel
theorem dX5_cancels_5 : decode cX5_cancels 5 = .ok (.ifCond .eq 10, 3) := by decide +kernel
theorem dX5_cancels_8 : decode cX5_cancels 8 = .ok (.iload_n 2, 1) := by decide +kernel
theorem dX5_cancels_9 : decode cX5_cancels 9 = .ok (.invokestatic 89, 3) := by decide +kernel
theorem dX5_cancels_12 : decode cX5_cancels 12 = .ok (.ifCond .ne 5, 3) := by decide +kernel
theorem dX5_cancels_15 : decode cX5_cancels 15 = .ok (.iconst (-1), 1) := by decide +kernel
theorem dX5_cancels_16 : decode cX5_cancels 16 = .ok (.ireturn, 1) := by decide +kernel
theorem dX5_cancels_17 : decode cX5_cancels 17 = .ok (.aload_n 0, 1) := by decide +kernel
theorem dX5_cancels_18 : decode cX5_cancels 18 = .ok (.iload_n 1, 1) := by decide +kernel
theorem dX5_cancels_19 : decode cX5_cancels 19 = .ok (.iload_n 2, 1) := by decide +kernel
theorem dX5_cancels_20 : decode cX5_cancels 20 = .ok (.invokevirtual 174, 3) := by decide +kernel
theorem dX5_cancels_23 : decode cX5_cancels 23 = .ok (.istore_n 3, 1) := by decide +kernel
theorem dX5_cancels_24 : decode cX5_cancels 24 = .ok (.iload_n 3, 1) := by decide +kernel
theorem dX5_cancels_25 : decode cX5_cancels 25 = .ok (.ifCond .ge 6, 3) := by decide +kernel
theorem dX5_cancels_28 : decode cX5_cancels 28 = .ok (.bipush (-2), 2) := by decide +kernel
theorem dX5_cancels_30 : decode cX5_cancels 30 = .ok (.ireturn, 1) := by decide +kernel
theorem dX5_cancels_31 : decode cX5_cancels 31 = .ok (.aload_n 0, 1) := by decide +kernel
theorem dX5_cancels_32 : decode cX5_cancels 32 = .ok (.iload_n 3, 1) := by decide +kernel
theorem dX5_cancels_33 : decode cX5_cancels 33 = .ok (.iconst 3, 1) := by decide +kernel
theorem dX5_cancels_34 : decode cX5_cancels 34 = .ok (.invokevirtual 59, 3) := by decide +kernel
theorem dX5_cancels_37 : decode cX5_cancels 37 = .ok (.istore 4, 2) := by decide +kernel
theorem dX5_cancels_39 : decode cX5_cancels 39 = .ok (.aload_n 0, 1) := by decide +kernel
theorem dX5_cancels_40 : decode cX5_cancels 40 = .ok (.iload_n 3, 1) := by decide +kernel
theorem dX5_cancels_41 : decode cX5_cancels 41 = .ok (.invokevirtual 119, 3) := by decide +kernel
theorem dX5_cancels_44 : decode cX5_cancels 44 = .ok (.iload 4, 2) := by decide +kernel
theorem dX5_cancels_46 : decode cX5_cancels 46 = .ok (.ifCond .lt 27, 3) := by decide +kernel
theorem dX5_cancels_49 : decode cX5_cancels 49 = .ok (.aload_n 0, 1) := by decide +kernel
theorem dX5_cancels_50 : decode cX5_cancels 50 = .ok (.iload 4, 2) := by decide +kernel
theorem dX5_cancels_52 : decode cX5_cancels 52 = .ok (.iconst 3, 1) := by decide +kernel
theorem dX5_cancels_53 : decode cX5_cancels 53 = .ok (.invokevirtual 73, 3) := by decide +kernel
theorem dX5_cancels_56 : decode cX5_cancels 56 = .ok (.iconst 3, 1) := by decide +kernel
theorem dX5_cancels_57 : decode cX5_cancels 57 = .ok (.if_icmp .ne 16, 3) := by decide +kernel
theorem dX5_cancels_60 : decode cX5_cancels 60 = .ok (.aload_n 0, 1) := by decide +kernel
theorem dX5_cancels_61 : decode cX5_cancels 61 = .ok (.iload 4, 2) := by decide +kernel
theorem dX5_cancels_63 : decode cX5_cancels 63 = .ok (.aload_n 0, 1) := by decide +kernel
theorem dX5_cancels_64 : decode cX5_cancels 64 = .ok (.iload 4, 2) := by decide +kernel
theorem dX5_cancels_66 : decode cX5_cancels 66 = .ok (.iconst 4, 1) := by decide +kernel
theorem dX5_cancels_67 : decode cX5_cancels 67 = .ok (.invokevirtual 73, 3) := by decide +kernel
theorem dX5_cancels_70 : decode cX5_cancels 70 = .ok (.invokevirtual 99, 3) := by decide +kernel
theorem dX5_cancels_73 : decode cX5_cancels 73 = .ok (.aload_n 0, 1) := by decide +kernel
theorem dX5_cancels_74 : decode cX5_cancels 74 = .ok (.iload_n 2, 1) := by decide +kernel
theorem dX5_cancels_75 : decode cX5_cancels 75 = .ok (.invokevirtual 192, 3) := by decide +kernel
theorem dX5_cancels_78 : decode cX5_cancels 78 = .ok (.ireturn, 1) := by decide +kernel
theorem dX5_cancelHold_0 : decode cX5_cancelHold 0 = .ok (.aload_n 0, 1) := by decide +kernel
theorem dX5_cancelHold_1 : decode cX5_cancelHold 1 = .ok (.invokevirtual 96, 3) := by decide +kernel
theorem dX5_cancelHold_4 : decode cX5_cancelHold 4 = .ok (.aload_n 0, 1) := by decide +kernel
theorem dX5_cancelHold_5 : decode cX5_cancelHold 5 = .ok (.aload_n 0, 1) := by decide +kernel
theorem dX5_cancelHold_6 : decode cX5_cancelHold 6 = .ok (.iload_n 1, 1) := by decide +kernel
theorem dX5_cancelHold_7 : decode cX5_cancelHold 7 = .ok (.iload_n 2, 1) := by decide +kernel
theorem dX5_cancelHold_8 : decode cX5_cancelHold 8 = .ok (.invokevirtual 195, 3) := by decide +kernel
theorem dX5_cancelHold_11 : decode cX5_cancelHold 11 = .ok (.invokevirtual 103, 3) := by decide +kernel
theorem dX5_cancelHold_14 : decode cX5_cancelHold 14 = .ok (.ireturn, 1) := by decide +kernel
theorem dX5_reason_0 : decode cX5_reason 0 = .ok (.iload_n 1, 1) := by decide +kernel
theorem dX5_reason_1 : decode cX5_reason 1 = .ok (.ifCond .ne 30, 3) := by decide +kernel
theorem dX5_reason_4 : decode cX5_reason 4 = .ok (.aload_n 0, 1) := by decide +kernel
theorem dX5_reason_5 : decode cX5_reason 5 = .ok (.iload_n 2, 1) := by decide +kernel
theorem dX5_reason_6 : decode cX5_reason 6 = .ok (.invokevirtual 147, 3) := by decide +kernel
theorem dX5_reason_9 : decode cX5_reason 9 = .ok (.ifCond .eq 20, 3) := by decide +kernel
theorem dX5_reason_12 : decode cX5_reason 12 = .ok (.aload_n 0, 1) := by decide +kernel
theorem dX5_reason_13 : decode cX5_reason 13 = .ok (.iload_n 3, 1) := by decide +kernel
theorem dX5_reason_14 : decode cX5_reason 14 = .ok (.invokevirtual 113, 3) := by decide +kernel
theorem dX5_reason_17 : decode cX5_reason 17 = .ok (.ifCond .eq 12, 3) := by decide +kernel
theorem dX5_reason_20 : decode cX5_reason 20 = .ok (.aload_n 0, 1) := by decide +kernel
theorem dX5_reason_21 : decode cX5_reason 21 = .ok (.iload_n 2, 1) := by decide +kernel
theorem dX5_reason_22 : decode cX5_reason 22 = .ok (.iload_n 3, 1) := by decide +kernel
theorem dX5_reason_23 : decode cX5_reason 23 = .ok (.invokevirtual 150, 3) := by decide +kernel
theorem dX5_reason_26 : decode cX5_reason 26 = .ok (.goto 4, 3) := by decide +kernel
theorem dX5_reason_29 : decode cX5_reason 29 = .ok (.iconst (-1), 1) := by decide +kernel
theorem dX5_reason_30 : decode cX5_reason 30 = .ok (.ireturn, 1) := by decide +kernel
theorem dX5_reason_31 : decode cX5_reason 31 = .ok (.iload_n 1, 1) := by decide +kernel
theorem dX5_reason_32 : decode cX5_reason 32 = .ok (.iconst 4, 1) := by decide +kernel
theorem dX5_reason_33 : decode cX5_reason 33 = .ok (.if_icmp .ne 29, 3) := by decide +kernel
theorem dX5_reason_36 : decode cX5_reason 36 = .ok (.aload_n 0, 1) := by decide +kernel
theorem dX5_reason_37 : decode cX5_reason 37 = .ok (.iload_n 2, 1) := by decide +kernel
theorem dX5_reason_38 : decode cX5_reason 38 = .ok (.invokevirtual 147, 3) := by decide +kernel
theorem dX5_reason_41 : decode cX5_reason 41 = .ok (.ifCond .eq 19, 3) := by decide +kernel
theorem dX5_reason_44 : decode cX5_reason 44 = .ok (.iload_n 3, 1) := by decide +kernel
theorem dX5_reason_45 : decode cX5_reason 45 = .ok (.invokestatic 89, 3) := by decide +kernel
theorem dX5_reason_48 : decode cX5_reason 48 = .ok (.ifCond .eq 12, 3) := by decide +kernel
theorem dX5_reason_51 : decode cX5_reason 51 = .ok (.aload_n 0, 1) := by decide +kernel
theorem dX5_reason_52 : decode cX5_reason 52 = .ok (.iload_n 2, 1) := by decide +kernel
theorem dX5_reason_53 : decode cX5_reason 53 = .ok (.iload_n 3, 1) := by decide +kernel
theorem dX5_reason_54 : decode cX5_reason 54 = .ok (.invokevirtual 179, 3) := by decide +kernel
theorem dX5_reason_57 : decode cX5_reason 57 = .ok (.goto 4, 3) := by decide +kernel
theorem dX5_reason_60 : decode cX5_reason 60 = .ok (.iconst (-1), 1) := by decide +kernel
theorem dX5_reason_61 : decode cX5_reason 61 = .ok (.ireturn, 1) := by decide +kernel
theorem dX5_reason_62 : decode cX5_reason 62 = .ok (.iload_n 1, 1) := by decide +kernel
theorem dX5_reason_63 : decode cX5_reason 63 = .ok (.iconst 1, 1) := by decide +kernel
theorem dX5_reason_64 : decode cX5_reason 64 = .ok (.iconst 3, 1) := by decide +kernel
theorem dX5_reason_65 : decode cX5_reason 65 = .ok (.invokestatic 51, 3) := by decide +kernel
theorem dX5_reason_68 : decode cX5_reason 68 = .ok (.ifCond .eq 15, 3) := by decide +kernel
theorem dX5_reason_71 : decode cX5_reason 71 = .ok (.iload_n 3, 1) := by decide +kernel
theorem dX5_reason_72 : decode cX5_reason 72 = .ok (.ifCond .ne 11, 3) := by decide +kernel
theorem dX5_reason_75 : decode cX5_reason 75 = .ok (.aload_n 0, 1) := by decide +kernel
theorem dX5_reason_76 : decode cX5_reason 76 = .ok (.iload_n 2, 1) := by decide +kernel
theorem dX5_reason_77 : decode cX5_reason 77 = .ok (.invokevirtual 113, 3) := by decide +kernel
theorem dX5_reason_80 : decode cX5_reason 80 = .ok (.ifCond .ne 5, 3) := by decide +kernel
theorem dX5_reason_83 : decode cX5_reason 83 = .ok (.iconst (-1), 1) := by decide +kernel
theorem dX5_reason_84 : decode cX5_reason 84 = .ok (.ireturn, 1) := by decide +kernel
theorem dX5_reason_85 : decode cX5_reason 85 = .ok (.iload_n 1, 1) := by decide +kernel
theorem dX5_reason_86 : decode cX5_reason 86 = .ok (.iconst 1, 1) := by decide +kernel
theorem dX5_reason_87 : decode cX5_reason 87 = .ok (.if_icmp .ne 11, 3) := by decide +kernel
theorem dX5_reason_90 : decode cX5_reason 90 = .ok (.aload_n 0, 1) := by decide +kernel
theorem dX5_reason_91 : decode cX5_reason 91 = .ok (.iload_n 2, 1) := by decide +kernel
theorem dX5_reason_92 : decode cX5_reason 92 = .ok (.invokevirtual 162, 3) := by decide +kernel
theorem dX5_reason_95 : decode cX5_reason 95 = .ok (.goto 21, 3) := by decide +kernel
theorem dX5_reason_98 : decode cX5_reason 98 = .ok (.iload_n 1, 1) := by decide +kernel
theorem dX5_reason_99 : decode cX5_reason 99 = .ok (.iconst 2, 1) := by decide +kernel
theorem dX5_reason_100 : decode cX5_reason 100 = .ok (.if_icmp .ne 11, 3) := by decide +kernel
theorem dX5_reason_103 : decode cX5_reason 103 = .ok (.aload_n 0, 1) := by decide +kernel
theorem dX5_reason_104 : decode cX5_reason 104 = .ok (.iload_n 2, 1) := by decide +kernel
theorem dX5_reason_105 : decode cX5_reason 105 = .ok (.invokevirtual 168, 3) := by decide +kernel
theorem dX5_reason_108 : decode cX5_reason 108 = .ok (.goto 8, 3) := by decide +kernel
theorem dX5_reason_111 : decode cX5_reason 111 = .ok (.aload_n 0, 1) := by decide +kernel
theorem dX5_reason_112 : decode cX5_reason 112 = .ok (.iload_n 2, 1) := by decide +kernel
theorem dX5_reason_113 : decode cX5_reason 113 = .ok (.invokevirtual 171, 3) := by decide +kernel
theorem dX5_reason_116 : decode cX5_reason 116 = .ok (.ireturn, 1) := by decide +kernel
theorem dX5_holdCount_0 : decode cX5_holdCount 0 = .ok (.iload_n 1, 1) := by decide +kernel
theorem dX5_holdCount_1 : decode cX5_holdCount 1 = .ok (.iconst (-1), 1) := by decide +kernel
theorem dX5_holdCount_2 : decode cX5_holdCount 2 = .ok (.iconst 5, 1) := by decide +kernel
theorem dX5_holdCount_3 : decode cX5_holdCount 3 = .ok (.invokestatic 51, 3) := by decide +kernel
theorem dX5_holdCount_6 : decode cX5_holdCount 6 = .ok (.ifCond .eq 11, 3) := by decide +kernel
theorem dX5_holdCount_9 : decode cX5_holdCount 9 = .ok (.aload_n 0, 1) := by decide +kernel
theorem dX5_holdCount_10 : decode cX5_holdCount 10 = .ok (.iload_n 1, 1) := by decide +kernel
theorem dX5_holdCount_11 : decode cX5_holdCount 11 = .ok (.invokevirtual 192, 3) := by decide +kernel
theorem dX5_holdCount_14 : decode cX5_holdCount 14 = .ok (.goto 4, 3) := by decide +kernel
theorem dX5_holdCount_17 : decode cX5_holdCount 17 = .ok (.iconst (-1), 1) := by decide +kernel
theorem dX5_holdCount_18 : decode cX5_holdCount 18 = .ok (.ireturn, 1) := by decide +kernel
theorem dX5_waiting_0 : decode cX5_waiting 0 = .ok (.iload_n 1, 1) := by decide +kernel
theorem dX5_waiting_1 : decode cX5_waiting 1 = .ok (.invokestatic 89, 3) := by decide +kernel
theorem dX5_waiting_4 : decode cX5_waiting 4 = .ok (.ifCond .eq 11, 3) := by decide +kernel
theorem dX5_waiting_7 : decode cX5_waiting 7 = .ok (.aload_n 0, 1) := by decide +kernel
theorem dX5_waiting_8 : decode cX5_waiting 8 = .ok (.iload_n 1, 1) := by decide +kernel
theorem dX5_waiting_9 : decode cX5_waiting 9 = .ok (.invokevirtual 159, 3) := by decide +kernel
theorem dX5_waiting_12 : decode cX5_waiting 12 = .ok (.goto 4, 3) := by decide +kernel
theorem dX5_waiting_15 : decode cX5_waiting 15 = .ok (.iconst (-1), 1) := by decide +kernel
theorem dX5_waiting_16 : decode cX5_waiting 16 = .ok (.ireturn, 1) := by decide +kernel
theorem dX5_holdAt_0 : decode cX5_holdAt 0 = .ok (.iload_n 1, 1) := by decide +kernel
theorem dX5_holdAt_1 : decode cX5_holdAt 1 = .ok (.invokestatic 89, 3) := by decide +kernel
theorem dX5_holdAt_4 : decode cX5_holdAt 4 = .ok (.ifCond .eq 12, 3) := by decide +kernel
theorem dX5_holdAt_7 : decode cX5_holdAt 7 = .ok (.iload_n 3, 1) := by decide +kernel
theorem dX5_holdAt_8 : decode cX5_holdAt 8 = .ok (.iconst 0, 1) := by decide +kernel
theorem dX5_holdAt_9 : decode cX5_holdAt 9 = .ok (.iconst 2, 1) := by decide +kernel
theorem dX5_holdAt_10 : decode cX5_holdAt 10 = .ok (.invokestatic 51, 3) := by decide +kernel
theorem dX5_holdAt_13 : decode cX5_holdAt 13 = .ok (.ifCond .ne 5, 3) := by decide +kernel
theorem dX5_holdAt_16 : decode cX5_holdAt 16 = .ok (.iconst (-1), 1) := by decide +kernel
theorem dX5_holdAt_17 : decode cX5_holdAt 17 = .ok (.ireturn, 1) := by decide +kernel
theorem dX5_holdAt_18 : decode cX5_holdAt 18 = .ok (.iload_n 2, 1) := by decide +kernel
theorem dX5_holdAt_19 : decode cX5_holdAt 19 = .ok (.istore 4, 2) := by decide +kernel
theorem dX5_holdAt_21 : decode cX5_holdAt 21 = .ok (.iconst 0, 1) := by decide +kernel
theorem dX5_holdAt_22 : decode cX5_holdAt 22 = .ok (.istore 5, 2) := by decide +kernel
theorem dX5_holdAt_24 : decode cX5_holdAt 24 = .ok (.iload 5, 2) := by decide +kernel
theorem dX5_holdAt_26 : decode cX5_holdAt 26 = .ok (.aload_n 0, 1) := by decide +kernel
theorem dX5_holdAt_27 : decode cX5_holdAt 27 = .ok (.getfield 11, 3) := by decide +kernel
theorem dX5_holdAt_30 : decode cX5_holdAt 30 = .ok (.iconst 3, 1) := by decide +kernel
theorem dX5_holdAt_31 : decode cX5_holdAt 31 = .ok (.iaload, 1) := by decide +kernel
theorem dX5_holdAt_32 : decode cX5_holdAt 32 = .ok (.if_icmp .ge 45, 3) := by decide +kernel
theorem dX5_holdAt_35 : decode cX5_holdAt 35 = .ok (.iload_n 2, 1) := by decide +kernel
theorem dX5_holdAt_36 : decode cX5_holdAt 36 = .ok (.ifCond .lt 41, 3) := by decide +kernel
theorem dX5_holdAt_39 : decode cX5_holdAt 39 = .ok (.aload_n 0, 1) := by decide +kernel
theorem dX5_holdAt_40 : decode cX5_holdAt 40 = .ok (.iload 5, 2) := by decide +kernel
theorem dX5_holdAt_42 : decode cX5_holdAt 42 = .ok (.iconst 0, 1) := by decide +kernel
theorem dX5_holdAt_43 : decode cX5_holdAt 43 = .ok (.invokevirtual 59, 3) := by decide +kernel
theorem dX5_holdAt_46 : decode cX5_holdAt 46 = .ok (.iload_n 1, 1) := by decide +kernel
theorem dX5_holdAt_47 : decode cX5_holdAt 47 = .ok (.if_icmp .eq 6, 3) := by decide +kernel
theorem dX5_holdAt_50 : decode cX5_holdAt 50 = .ok (.goto 21, 3) := by decide +kernel
theorem dX5_holdAt_53 : decode cX5_holdAt 53 = .ok (.iload 4, 2) := by decide +kernel
theorem dX5_holdAt_55 : decode cX5_holdAt 55 = .ok (.ifCond .ne 13, 3) := by decide +kernel
theorem dX5_holdAt_58 : decode cX5_holdAt 58 = .ok (.aload_n 0, 1) := by decide +kernel
theorem dX5_holdAt_59 : decode cX5_holdAt 59 = .ok (.iload 5, 2) := by decide +kernel
theorem dX5_holdAt_61 : decode cX5_holdAt 61 = .ok (.iconst 1, 1) := by decide +kernel
theorem dX5_holdAt_62 : decode cX5_holdAt 62 = .ok (.iload_n 3, 1) := by decide +kernel
theorem dX5_holdAt_63 : decode cX5_holdAt 63 = .ok (.iadd, 1) := by decide +kernel
theorem dX5_holdAt_64 : decode cX5_holdAt 64 = .ok (.invokevirtual 59, 3) := by decide +kernel
theorem dX5_holdAt_67 : decode cX5_holdAt 67 = .ok (.ireturn, 1) := by decide +kernel
theorem dX5_holdAt_68 : decode cX5_holdAt 68 = .ok (.iinc 4 (-1), 3) := by decide +kernel
theorem dX5_holdAt_71 : decode cX5_holdAt 71 = .ok (.iinc 5 1, 3) := by decide +kernel
theorem dX5_holdAt_74 : decode cX5_holdAt 74 = .ok (.goto (-50), 3) := by decide +kernel
theorem dX5_holdAt_77 : decode cX5_holdAt 77 = .ok (.bipush (-2), 2) := by decide +kernel
theorem dX5_holdAt_79 : decode cX5_holdAt 79 = .ok (.ireturn, 1) := by decide +kernel
theorem dX5_place_0 : decode cX5_place 0 = .ok (.aload_n 0, 1) := by decide +kernel
theorem dX5_place_1 : decode cX5_place 1 = .ok (.iload_n 1, 1) := by decide +kernel
theorem dX5_place_2 : decode cX5_place 2 = .ok (.invokevirtual 147, 3) := by decide +kernel
theorem dX5_place_5 : decode cX5_place 5 = .ok (.ifCond .eq 10, 3) := by decide +kernel
theorem dX5_place_8 : decode cX5_place 8 = .ok (.iload_n 2, 1) := by decide +kernel
theorem dX5_place_9 : decode cX5_place 9 = .ok (.invokestatic 89, 3) := by decide +kernel
theorem dX5_place_12 : decode cX5_place 12 = .ok (.ifCond .ne 5, 3) := by decide +kernel
theorem dX5_place_15 : decode cX5_place 15 = .ok (.iconst (-1), 1) := by decide +kernel
theorem dX5_place_16 : decode cX5_place 16 = .ok (.ireturn, 1) := by decide +kernel
theorem dX5_place_17 : decode cX5_place 17 = .ok (.aload_n 0, 1) := by decide +kernel
theorem dX5_place_18 : decode cX5_place 18 = .ok (.iload_n 1, 1) := by decide +kernel
theorem dX5_place_19 : decode cX5_place 19 = .ok (.iload_n 2, 1) := by decide +kernel
theorem dX5_place_20 : decode cX5_place 20 = .ok (.invokevirtual 174, 3) := by decide +kernel
theorem dX5_place_23 : decode cX5_place 23 = .ok (.istore_n 3, 1) := by decide +kernel
theorem dX5_place_24 : decode cX5_place 24 = .ok (.iload_n 3, 1) := by decide +kernel
theorem dX5_place_25 : decode cX5_place 25 = .ok (.ifCond .ge 6, 3) := by decide +kernel
theorem dX5_place_28 : decode cX5_place 28 = .ok (.bipush (-2), 2) := by decide +kernel
theorem dX5_place_30 : decode cX5_place 30 = .ok (.ireturn, 1) := by decide +kernel
theorem dX5_place_31 : decode cX5_place 31 = .ok (.iconst 0, 1) := by decide +kernel
theorem dX5_place_32 : decode cX5_place 32 = .ok (.istore 4, 2) := by decide +kernel
theorem dX5_place_34 : decode cX5_place 34 = .ok (.iconst 0, 1) := by decide +kernel
theorem dX5_place_35 : decode cX5_place 35 = .ok (.istore 5, 2) := by decide +kernel
theorem dX5_place_37 : decode cX5_place 37 = .ok (.iload 5, 2) := by decide +kernel
theorem dX5_place_39 : decode cX5_place 39 = .ok (.iload_n 3, 1) := by decide +kernel
theorem dX5_place_40 : decode cX5_place 40 = .ok (.if_icmp .ge 30, 3) := by decide +kernel
theorem dX5_place_43 : decode cX5_place 43 = .ok (.iload 4, 2) := by decide +kernel
theorem dX5_place_45 : decode cX5_place 45 = .ok (.aload_n 0, 1) := by decide +kernel
theorem dX5_place_46 : decode cX5_place 46 = .ok (.iload 5, 2) := by decide +kernel
theorem dX5_place_48 : decode cX5_place 48 = .ok (.iconst 0, 1) := by decide +kernel
theorem dX5_place_49 : decode cX5_place 49 = .ok (.invokevirtual 59, 3) := by decide +kernel
theorem dX5_place_52 : decode cX5_place 52 = .ok (.iload_n 2, 1) := by decide +kernel
theorem dX5_place_53 : decode cX5_place 53 = .ok (.if_icmp .ne 7, 3) := by decide +kernel
theorem dX5_place_56 : decode cX5_place 56 = .ok (.iconst 1, 1) := by decide +kernel
theorem dX5_place_57 : decode cX5_place 57 = .ok (.goto 4, 3) := by decide +kernel
theorem dX5_place_60 : decode cX5_place 60 = .ok (.iconst 0, 1) := by decide +kernel
theorem dX5_place_61 : decode cX5_place 61 = .ok (.iadd, 1) := by decide +kernel
theorem dX5_place_62 : decode cX5_place 62 = .ok (.istore 4, 2) := by decide +kernel
theorem dX5_place_64 : decode cX5_place 64 = .ok (.iinc 5 1, 3) := by decide +kernel
theorem dX5_place_67 : decode cX5_place 67 = .ok (.goto (-30), 3) := by decide +kernel
theorem dX5_place_70 : decode cX5_place 70 = .ok (.iload 4, 2) := by decide +kernel
theorem dX5_place_72 : decode cX5_place 72 = .ok (.ireturn, 1) := by decide +kernel
theorem dX5_freeDay_0 : decode cX5_freeDay 0 = .ok (.aload_n 0, 1) := by decide +kernel
theorem dX5_freeDay_1 : decode cX5_freeDay 1 = .ok (.iload_n 1, 1) := by decide +kernel
theorem dX5_freeDay_2 : decode cX5_freeDay 2 = .ok (.iconst 0, 1) := by decide +kernel
theorem dX5_freeDay_3 : decode cX5_freeDay 3 = .ok (.invokevirtual 73, 3) := by decide +kernel
theorem dX5_freeDay_6 : decode cX5_freeDay 6 = .ok (.iload_n 2, 1) := by decide +kernel
theorem dX5_freeDay_7 : decode cX5_freeDay 7 = .ok (.if_icmp .eq 6, 3) := by decide +kernel
theorem dX5_freeDay_10 : decode cX5_freeDay 10 = .ok (.bipush (-2), 2) := by decide +kernel
theorem dX5_freeDay_12 : decode cX5_freeDay 12 = .ok (.ireturn, 1) := by decide +kernel
theorem dX5_freeDay_13 : decode cX5_freeDay 13 = .ok (.aload_n 0, 1) := by decide +kernel
theorem dX5_freeDay_14 : decode cX5_freeDay 14 = .ok (.iload_n 1, 1) := by decide +kernel
theorem dX5_freeDay_15 : decode cX5_freeDay 15 = .ok (.iconst 3, 1) := by decide +kernel
theorem dX5_freeDay_16 : decode cX5_freeDay 16 = .ok (.invokevirtual 73, 3) := by decide +kernel
theorem dX5_freeDay_19 : decode cX5_freeDay 19 = .ok (.iconst 1, 1) := by decide +kernel
theorem dX5_freeDay_20 : decode cX5_freeDay 20 = .ok (.if_icmp .ne 19, 3) := by decide +kernel
theorem dX5_freeDay_23 : decode cX5_freeDay 23 = .ok (.aload_n 0, 1) := by decide +kernel
theorem dX5_freeDay_24 : decode cX5_freeDay 24 = .ok (.getfield 11, 3) := by decide +kernel
theorem dX5_freeDay_27 : decode cX5_freeDay 27 = .ok (.iconst 0, 1) := by decide +kernel
theorem dX5_freeDay_28 : decode cX5_freeDay 28 = .ok (.iaload, 1) := by decide +kernel
theorem dX5_freeDay_29 : decode cX5_freeDay 29 = .ok (.aload_n 0, 1) := by decide +kernel
theorem dX5_freeDay_30 : decode cX5_freeDay 30 = .ok (.iload_n 1, 1) := by decide +kernel
theorem dX5_freeDay_31 : decode cX5_freeDay 31 = .ok (.iconst 5, 1) := by decide +kernel
theorem dX5_freeDay_32 : decode cX5_freeDay 32 = .ok (.invokevirtual 73, 3) := by decide +kernel
theorem dX5_freeDay_35 : decode cX5_freeDay 35 = .ok (.invokestatic 82, 3) := by decide +kernel
theorem dX5_freeDay_38 : decode cX5_freeDay 38 = .ok (.ireturn, 1) := by decide +kernel
theorem dX5_freeDay_39 : decode cX5_freeDay 39 = .ok (.aload_n 0, 1) := by decide +kernel
theorem dX5_freeDay_40 : decode cX5_freeDay 40 = .ok (.iload_n 1, 1) := by decide +kernel
theorem dX5_freeDay_41 : decode cX5_freeDay 41 = .ok (.iconst 3, 1) := by decide +kernel
theorem dX5_freeDay_42 : decode cX5_freeDay 42 = .ok (.invokevirtual 73, 3) := by decide +kernel
theorem dX5_freeDay_45 : decode cX5_freeDay 45 = .ok (.iconst 2, 1) := by decide +kernel
theorem dX5_freeDay_46 : decode cX5_freeDay 46 = .ok (.if_icmp .ne 20, 3) := by decide +kernel
theorem dX5_freeDay_49 : decode cX5_freeDay 49 = .ok (.aload_n 0, 1) := by decide +kernel
theorem dX5_freeDay_50 : decode cX5_freeDay 50 = .ok (.iload_n 1, 1) := by decide +kernel
theorem dX5_freeDay_51 : decode cX5_freeDay 51 = .ok (.invokevirtual 116, 3) := by decide +kernel
theorem dX5_freeDay_54 : decode cX5_freeDay 54 = .ok (.ifCond .ge 12, 3) := by decide +kernel
theorem dX5_freeDay_57 : decode cX5_freeDay 57 = .ok (.aload_n 0, 1) := by decide +kernel
theorem dX5_freeDay_58 : decode cX5_freeDay 58 = .ok (.iload_n 1, 1) := by decide +kernel
theorem dX5_freeDay_59 : decode cX5_freeDay 59 = .ok (.iconst 5, 1) := by decide +kernel
theorem dX5_freeDay_60 : decode cX5_freeDay 60 = .ok (.invokevirtual 73, 3) := by decide +kernel
theorem dX5_freeDay_63 : decode cX5_freeDay 63 = .ok (.goto 5, 3) := by decide +kernel
theorem dX5_freeDay_66 : decode cX5_freeDay 66 = .ok (.bipush (-2), 2) := by decide +kernel
theorem dX5_freeDay_68 : decode cX5_freeDay 68 = .ok (.ireturn, 1) := by decide +kernel
theorem dX5_estimate_0 : decode cX5_estimate 0 = .ok (.aload_n 0, 1) := by decide +kernel
theorem dX5_estimate_1 : decode cX5_estimate 1 = .ok (.iload_n 1, 1) := by decide +kernel
theorem dX5_estimate_2 : decode cX5_estimate 2 = .ok (.invokevirtual 147, 3) := by decide +kernel
theorem dX5_estimate_5 : decode cX5_estimate 5 = .ok (.ifCond .eq 10, 3) := by decide +kernel
theorem dX5_estimate_8 : decode cX5_estimate 8 = .ok (.iload_n 2, 1) := by decide +kernel
theorem dX5_estimate_9 : decode cX5_estimate 9 = .ok (.invokestatic 89, 3) := by decide +kernel
theorem dX5_estimate_12 : decode cX5_estimate 12 = .ok (.ifCond .ne 5, 3) := by decide +kernel
theorem dX5_estimate_15 : decode cX5_estimate 15 = .ok (.iconst (-1), 1) := by decide +kernel
theorem dX5_estimate_16 : decode cX5_estimate 16 = .ok (.ireturn, 1) := by decide +kernel
theorem dX5_estimate_17 : decode cX5_estimate 17 = .ok (.aload_n 0, 1) := by decide +kernel
theorem dX5_estimate_18 : decode cX5_estimate 18 = .ok (.iload_n 1, 1) := by decide +kernel
theorem dX5_estimate_19 : decode cX5_estimate 19 = .ok (.iload_n 2, 1) := by decide +kernel
theorem dX5_estimate_20 : decode cX5_estimate 20 = .ok (.invokevirtual 174, 3) := by decide +kernel
theorem dX5_estimate_23 : decode cX5_estimate 23 = .ok (.istore_n 3, 1) := by decide +kernel
theorem dX5_estimate_24 : decode cX5_estimate 24 = .ok (.iload_n 3, 1) := by decide +kernel
theorem dX5_estimate_25 : decode cX5_estimate 25 = .ok (.ifCond .lt 14, 3) := by decide +kernel
theorem dX5_estimate_28 : decode cX5_estimate 28 = .ok (.aload_n 0, 1) := by decide +kernel
theorem dX5_estimate_29 : decode cX5_estimate 29 = .ok (.iload_n 3, 1) := by decide +kernel
theorem dX5_estimate_30 : decode cX5_estimate 30 = .ok (.iconst 3, 1) := by decide +kernel
theorem dX5_estimate_31 : decode cX5_estimate 31 = .ok (.invokevirtual 59, 3) := by decide +kernel
theorem dX5_estimate_34 : decode cX5_estimate 34 = .ok (.bipush (-2), 2) := by decide +kernel
theorem dX5_estimate_36 : decode cX5_estimate 36 = .ok (.if_icmp .eq 6, 3) := by decide +kernel
theorem dX5_estimate_39 : decode cX5_estimate 39 = .ok (.bipush (-2), 2) := by decide +kernel
theorem dX5_estimate_41 : decode cX5_estimate 41 = .ok (.ireturn, 1) := by decide +kernel
theorem dX5_estimate_42 : decode cX5_estimate 42 = .ok (.iconst 0, 1) := by decide +kernel
theorem dX5_estimate_43 : decode cX5_estimate 43 = .ok (.istore 4, 2) := by decide +kernel
theorem dX5_estimate_45 : decode cX5_estimate 45 = .ok (.iconst 0, 1) := by decide +kernel
theorem dX5_estimate_46 : decode cX5_estimate 46 = .ok (.istore 5, 2) := by decide +kernel
theorem dX5_estimate_48 : decode cX5_estimate 48 = .ok (.iload 5, 2) := by decide +kernel
theorem dX5_estimate_50 : decode cX5_estimate 50 = .ok (.iload_n 3, 1) := by decide +kernel
theorem dX5_estimate_51 : decode cX5_estimate 51 = .ok (.if_icmp .ge 42, 3) := by decide +kernel
theorem dX5_estimate_54 : decode cX5_estimate 54 = .ok (.iload 4, 2) := by decide +kernel
theorem dX5_estimate_56 : decode cX5_estimate 56 = .ok (.aload_n 0, 1) := by decide +kernel
theorem dX5_estimate_57 : decode cX5_estimate 57 = .ok (.iload 5, 2) := by decide +kernel
theorem dX5_estimate_59 : decode cX5_estimate 59 = .ok (.iconst 0, 1) := by decide +kernel
theorem dX5_estimate_60 : decode cX5_estimate 60 = .ok (.invokevirtual 59, 3) := by decide +kernel
theorem dX5_estimate_63 : decode cX5_estimate 63 = .ok (.iload_n 2, 1) := by decide +kernel
theorem dX5_estimate_64 : decode cX5_estimate 64 = .ok (.if_icmp .ne 19, 3) := by decide +kernel
theorem dX5_estimate_67 : decode cX5_estimate 67 = .ok (.aload_n 0, 1) := by decide +kernel
theorem dX5_estimate_68 : decode cX5_estimate 68 = .ok (.iload 5, 2) := by decide +kernel
theorem dX5_estimate_70 : decode cX5_estimate 70 = .ok (.iconst 3, 1) := by decide +kernel
theorem dX5_estimate_71 : decode cX5_estimate 71 = .ok (.invokevirtual 59, 3) := by decide +kernel
theorem dX5_estimate_74 : decode cX5_estimate 74 = .ok (.bipush (-2), 2) := by decide +kernel
theorem dX5_estimate_76 : decode cX5_estimate 76 = .ok (.if_icmp .ne 7, 3) := by decide +kernel
theorem dX5_estimate_79 : decode cX5_estimate 79 = .ok (.iconst 1, 1) := by decide +kernel
theorem dX5_estimate_80 : decode cX5_estimate 80 = .ok (.goto 4, 3) := by decide +kernel
theorem dX5_estimate_83 : decode cX5_estimate 83 = .ok (.iconst 0, 1) := by decide +kernel
theorem dX5_estimate_84 : decode cX5_estimate 84 = .ok (.iadd, 1) := by decide +kernel
theorem dX5_estimate_85 : decode cX5_estimate 85 = .ok (.istore 4, 2) := by decide +kernel
theorem dX5_estimate_87 : decode cX5_estimate 87 = .ok (.iinc 5 1, 3) := by decide +kernel
theorem dX5_estimate_90 : decode cX5_estimate 90 = .ok (.goto (-42), 3) := by decide +kernel
theorem dX5_estimate_93 : decode cX5_estimate 93 = .ok (.iconst 0, 1) := by decide +kernel
theorem dX5_estimate_94 : decode cX5_estimate 94 = .ok (.istore 5, 2) := by decide +kernel
theorem dX5_estimate_96 : decode cX5_estimate 96 = .ok (.iload 5, 2) := by decide +kernel
theorem dX5_estimate_98 : decode cX5_estimate 98 = .ok (.aload_n 0, 1) := by decide +kernel
theorem dX5_estimate_99 : decode cX5_estimate 99 = .ok (.getfield 11, 3) := by decide +kernel
theorem dX5_estimate_102 : decode cX5_estimate 102 = .ok (.iconst 1, 1) := by decide +kernel
theorem dX5_estimate_103 : decode cX5_estimate 103 = .ok (.iaload, 1) := by decide +kernel
theorem dX5_estimate_104 : decode cX5_estimate 104 = .ok (.if_icmp .ge 106, 3) := by decide +kernel
theorem dX5_estimate_107 : decode cX5_estimate 107 = .ok (.aload_n 0, 1) := by decide +kernel
theorem dX5_estimate_108 : decode cX5_estimate 108 = .ok (.iload 5, 2) := by decide +kernel
theorem dX5_estimate_110 : decode cX5_estimate 110 = .ok (.iload_n 2, 1) := by decide +kernel
theorem dX5_estimate_111 : decode cX5_estimate 111 = .ok (.invokevirtual 198, 3) := by decide +kernel
theorem dX5_estimate_114 : decode cX5_estimate 114 = .ok (.istore 6, 2) := by decide +kernel
theorem dX5_estimate_116 : decode cX5_estimate 116 = .ok (.iconst 0, 1) := by decide +kernel
theorem dX5_estimate_117 : decode cX5_estimate 117 = .ok (.istore 7, 2) := by decide +kernel
theorem dX5_estimate_119 : decode cX5_estimate 119 = .ok (.iconst 0, 1) := by decide +kernel
theorem dX5_estimate_120 : decode cX5_estimate 120 = .ok (.istore 8, 2) := by decide +kernel
theorem dX5_estimate_122 : decode cX5_estimate 122 = .ok (.iload 8, 2) := by decide +kernel
theorem dX5_estimate_124 : decode cX5_estimate 124 = .ok (.aload_n 0, 1) := by decide +kernel
theorem dX5_estimate_125 : decode cX5_estimate 125 = .ok (.getfield 11, 3) := by decide +kernel
theorem dX5_estimate_128 : decode cX5_estimate 128 = .ok (.iconst 1, 1) := by decide +kernel
theorem dX5_estimate_129 : decode cX5_estimate 129 = .ok (.iaload, 1) := by decide +kernel
theorem dX5_estimate_130 : decode cX5_estimate 130 = .ok (.if_icmp .ge 59, 3) := by decide +kernel
theorem dX5_estimate_133 : decode cX5_estimate 133 = .ok (.iload 6, 2) := by decide +kernel
theorem dX5_estimate_135 : decode cX5_estimate 135 = .ok (.ifCond .lt 54, 3) := by decide +kernel
theorem dX5_estimate_138 : decode cX5_estimate 138 = .ok (.aload_n 0, 1) := by decide +kernel
theorem dX5_estimate_139 : decode cX5_estimate 139 = .ok (.iload 8, 2) := by decide +kernel
theorem dX5_estimate_141 : decode cX5_estimate 141 = .ok (.iload_n 2, 1) := by decide +kernel
theorem dX5_estimate_142 : decode cX5_estimate 142 = .ok (.invokevirtual 198, 3) := by decide +kernel
theorem dX5_estimate_145 : decode cX5_estimate 145 = .ok (.istore 9, 2) := by decide +kernel
theorem dX5_estimate_147 : decode cX5_estimate 147 = .ok (.iload 7, 2) := by decide +kernel
theorem dX5_estimate_149 : decode cX5_estimate 149 = .ok (.iload 9, 2) := by decide +kernel
theorem dX5_estimate_151 : decode cX5_estimate 151 = .ok (.ifCond .lt 28, 3) := by decide +kernel
theorem dX5_estimate_154 : decode cX5_estimate 154 = .ok (.iload 9, 2) := by decide +kernel
theorem dX5_estimate_156 : decode cX5_estimate 156 = .ok (.iload 6, 2) := by decide +kernel
theorem dX5_estimate_158 : decode cX5_estimate 158 = .ok (.if_icmp .lt 17, 3) := by decide +kernel
theorem dX5_estimate_161 : decode cX5_estimate 161 = .ok (.iload 9, 2) := by decide +kernel
theorem dX5_estimate_163 : decode cX5_estimate 163 = .ok (.iload 6, 2) := by decide +kernel
theorem dX5_estimate_165 : decode cX5_estimate 165 = .ok (.if_icmp .ne 14, 3) := by decide +kernel
theorem dX5_estimate_168 : decode cX5_estimate 168 = .ok (.iload 8, 2) := by decide +kernel
theorem dX5_estimate_170 : decode cX5_estimate 170 = .ok (.iload 5, 2) := by decide +kernel
theorem dX5_estimate_172 : decode cX5_estimate 172 = .ok (.if_icmp .ge 7, 3) := by decide +kernel
theorem dX5_estimate_175 : decode cX5_estimate 175 = .ok (.iconst 1, 1) := by decide +kernel
theorem dX5_estimate_176 : decode cX5_estimate 176 = .ok (.goto 4, 3) := by decide +kernel
theorem dX5_estimate_179 : decode cX5_estimate 179 = .ok (.iconst 0, 1) := by decide +kernel
theorem dX5_estimate_180 : decode cX5_estimate 180 = .ok (.iadd, 1) := by decide +kernel
theorem dX5_estimate_181 : decode cX5_estimate 181 = .ok (.istore 7, 2) := by decide +kernel
theorem dX5_estimate_183 : decode cX5_estimate 183 = .ok (.iinc 8 1, 3) := by decide +kernel
theorem dX5_estimate_186 : decode cX5_estimate 186 = .ok (.goto (-64), 3) := by decide +kernel
theorem dX5_estimate_189 : decode cX5_estimate 189 = .ok (.iload 6, 2) := by decide +kernel
theorem dX5_estimate_191 : decode cX5_estimate 191 = .ok (.ifCond .lt 13, 3) := by decide +kernel
theorem dX5_estimate_194 : decode cX5_estimate 194 = .ok (.iload 7, 2) := by decide +kernel
theorem dX5_estimate_196 : decode cX5_estimate 196 = .ok (.iload 4, 2) := by decide +kernel
theorem dX5_estimate_198 : decode cX5_estimate 198 = .ok (.if_icmp .ne 6, 3) := by decide +kernel
theorem dX5_estimate_201 : decode cX5_estimate 201 = .ok (.iload 6, 2) := by decide +kernel
theorem dX5_estimate_203 : decode cX5_estimate 203 = .ok (.ireturn, 1) := by decide +kernel
theorem dX5_estimate_204 : decode cX5_estimate 204 = .ok (.iinc 5 1, 3) := by decide +kernel
theorem dX5_estimate_207 : decode cX5_estimate 207 = .ok (.goto (-111), 3) := by decide +kernel
theorem dX5_estimate_210 : decode cX5_estimate 210 = .ok (.bipush (-2), 2) := by decide +kernel
theorem dX5_estimate_212 : decode cX5_estimate 212 = .ok (.ireturn, 1) := by decide +kernel
theorem dX5_patronCount_0 : decode cX5_patronCount 0 = .ok (.aload_n 0, 1) := by decide +kernel
theorem dX5_patronCount_1 : decode cX5_patronCount 1 = .ok (.getfield 11, 3) := by decide +kernel
theorem dX5_patronCount_4 : decode cX5_patronCount 4 = .ok (.iconst 2, 1) := by decide +kernel
theorem dX5_patronCount_5 : decode cX5_patronCount 5 = .ok (.iaload, 1) := by decide +kernel
theorem dX5_patronCount_6 : decode cX5_patronCount 6 = .ok (.ireturn, 1) := by decide +kernel
theorem dX5_owes__0 : decode cX5_owes_ 0 = .ok (.aload_n 0, 1) := by decide +kernel
theorem dX5_owes__1 : decode cX5_owes_ 1 = .ok (.iload_n 1, 1) := by decide +kernel
theorem dX5_owes__2 : decode cX5_owes_ 2 = .ok (.invokevirtual 147, 3) := by decide +kernel
theorem dX5_owes__5 : decode cX5_owes_ 5 = .ok (.ifCond .eq 18, 3) := by decide +kernel
theorem dX5_owes__8 : decode cX5_owes_ 8 = .ok (.aload_n 0, 1) := by decide +kernel
theorem dX5_owes__9 : decode cX5_owes_ 9 = .ok (.getfield 11, 3) := by decide +kernel
theorem dX5_owes__12 : decode cX5_owes_ 12 = .ok (.sipush 253, 3) := by decide +kernel
theorem dX5_owes__15 : decode cX5_owes_ 15 = .ok (.iconst 4, 1) := by decide +kernel
theorem dX5_owes__16 : decode cX5_owes_ 16 = .ok (.iload_n 1, 1) := by decide +kernel
theorem dX5_owes__17 : decode cX5_owes_ 17 = .ok (.imul, 1) := by decide +kernel
theorem dX5_owes__18 : decode cX5_owes_ 18 = .ok (.iadd, 1) := by decide +kernel
theorem dX5_owes__19 : decode cX5_owes_ 19 = .ok (.iaload, 1) := by decide +kernel
theorem dX5_owes__20 : decode cX5_owes_ 20 = .ok (.goto 4, 3) := by decide +kernel
theorem dX5_owes__23 : decode cX5_owes_ 23 = .ok (.iconst (-1), 1) := by decide +kernel
theorem dX5_owes__24 : decode cX5_owes_ 24 = .ok (.ireturn, 1) := by decide +kernel
theorem dX5_accrued_0 : decode cX5_accrued 0 = .ok (.aload_n 0, 1) := by decide +kernel
theorem dX5_accrued_1 : decode cX5_accrued 1 = .ok (.iload_n 1, 1) := by decide +kernel
theorem dX5_accrued_2 : decode cX5_accrued 2 = .ok (.invokevirtual 147, 3) := by decide +kernel
theorem dX5_accrued_5 : decode cX5_accrued 5 = .ok (.ifCond .ne 5, 3) := by decide +kernel
theorem dX5_accrued_8 : decode cX5_accrued 8 = .ok (.iconst (-1), 1) := by decide +kernel
theorem dX5_accrued_9 : decode cX5_accrued 9 = .ok (.ireturn, 1) := by decide +kernel
theorem dX5_accrued_10 : decode cX5_accrued 10 = .ok (.iconst 0, 1) := by decide +kernel
theorem dX5_accrued_11 : decode cX5_accrued 11 = .ok (.istore_n 2, 1) := by decide +kernel
theorem dX5_accrued_12 : decode cX5_accrued 12 = .ok (.iconst 0, 1) := by decide +kernel
theorem dX5_accrued_13 : decode cX5_accrued 13 = .ok (.istore_n 3, 1) := by decide +kernel
theorem dX5_accrued_14 : decode cX5_accrued 14 = .ok (.iload_n 3, 1) := by decide +kernel
theorem dX5_accrued_15 : decode cX5_accrued 15 = .ok (.aload_n 0, 1) := by decide +kernel
theorem dX5_accrued_16 : decode cX5_accrued 16 = .ok (.getfield 11, 3) := by decide +kernel
theorem dX5_accrued_19 : decode cX5_accrued 19 = .ok (.iconst 1, 1) := by decide +kernel
theorem dX5_accrued_20 : decode cX5_accrued 20 = .ok (.iaload, 1) := by decide +kernel
theorem dX5_accrued_21 : decode cX5_accrued 21 = .ok (.if_icmp .ge 41, 3) := by decide +kernel
theorem dX5_accrued_24 : decode cX5_accrued 24 = .ok (.iload_n 2, 1) := by decide +kernel
theorem dX5_accrued_25 : decode cX5_accrued 25 = .ok (.aload_n 0, 1) := by decide +kernel
theorem dX5_accrued_26 : decode cX5_accrued 26 = .ok (.iload_n 3, 1) := by decide +kernel
theorem dX5_accrued_27 : decode cX5_accrued 27 = .ok (.iconst 3, 1) := by decide +kernel
theorem dX5_accrued_28 : decode cX5_accrued 28 = .ok (.invokevirtual 73, 3) := by decide +kernel
theorem dX5_accrued_31 : decode cX5_accrued 31 = .ok (.iconst 1, 1) := by decide +kernel
theorem dX5_accrued_32 : decode cX5_accrued 32 = .ok (.if_icmp .ne 21, 3) := by decide +kernel
theorem dX5_accrued_35 : decode cX5_accrued 35 = .ok (.aload_n 0, 1) := by decide +kernel
theorem dX5_accrued_36 : decode cX5_accrued 36 = .ok (.iload_n 3, 1) := by decide +kernel
theorem dX5_accrued_37 : decode cX5_accrued 37 = .ok (.iconst 4, 1) := by decide +kernel
theorem dX5_accrued_38 : decode cX5_accrued 38 = .ok (.invokevirtual 73, 3) := by decide +kernel
theorem dX5_accrued_41 : decode cX5_accrued 41 = .ok (.iload_n 1, 1) := by decide +kernel
theorem dX5_accrued_42 : decode cX5_accrued 42 = .ok (.if_icmp .ne 11, 3) := by decide +kernel
theorem dX5_accrued_45 : decode cX5_accrued 45 = .ok (.aload_n 0, 1) := by decide +kernel
theorem dX5_accrued_46 : decode cX5_accrued 46 = .ok (.iload_n 3, 1) := by decide +kernel
theorem dX5_accrued_47 : decode cX5_accrued 47 = .ok (.invokevirtual 123, 3) := by decide +kernel
theorem dX5_accrued_50 : decode cX5_accrued 50 = .ok (.goto 4, 3) := by decide +kernel
theorem dX5_accrued_53 : decode cX5_accrued 53 = .ok (.iconst 0, 1) := by decide +kernel
theorem dX5_accrued_54 : decode cX5_accrued 54 = .ok (.iadd, 1) := by decide +kernel
theorem dX5_accrued_55 : decode cX5_accrued 55 = .ok (.istore_n 2, 1) := by decide +kernel
theorem dX5_accrued_56 : decode cX5_accrued 56 = .ok (.iinc 3 1, 3) := by decide +kernel
theorem dX5_accrued_59 : decode cX5_accrued 59 = .ok (.goto (-45), 3) := by decide +kernel
theorem dX5_accrued_62 : decode cX5_accrued 62 = .ok (.iload_n 2, 1) := by decide +kernel
theorem dX5_accrued_63 : decode cX5_accrued 63 = .ok (.ireturn, 1) := by decide +kernel
theorem dX5_overdue_0 : decode cX5_overdue 0 = .ok (.iconst 0, 1) := by decide +kernel
theorem dX5_overdue_1 : decode cX5_overdue 1 = .ok (.istore_n 2, 1) := by decide +kernel
theorem dX5_overdue_2 : decode cX5_overdue 2 = .ok (.iconst 0, 1) := by decide +kernel
theorem dX5_overdue_3 : decode cX5_overdue 3 = .ok (.istore_n 3, 1) := by decide +kernel
theorem dX5_overdue_4 : decode cX5_overdue 4 = .ok (.iload_n 3, 1) := by decide +kernel
theorem dX5_overdue_5 : decode cX5_overdue 5 = .ok (.aload_n 0, 1) := by decide +kernel
theorem dX5_overdue_6 : decode cX5_overdue 6 = .ok (.getfield 11, 3) := by decide +kernel
theorem dX5_overdue_9 : decode cX5_overdue 9 = .ok (.iconst 1, 1) := by decide +kernel
theorem dX5_overdue_10 : decode cX5_overdue 10 = .ok (.iaload, 1) := by decide +kernel
theorem dX5_overdue_11 : decode cX5_overdue 11 = .ok (.if_icmp .ge 52, 3) := by decide +kernel
theorem dX5_overdue_14 : decode cX5_overdue 14 = .ok (.iload_n 2, 1) := by decide +kernel
theorem dX5_overdue_15 : decode cX5_overdue 15 = .ok (.aload_n 0, 1) := by decide +kernel
theorem dX5_overdue_16 : decode cX5_overdue 16 = .ok (.iload_n 3, 1) := by decide +kernel
theorem dX5_overdue_17 : decode cX5_overdue 17 = .ok (.iconst 3, 1) := by decide +kernel
theorem dX5_overdue_18 : decode cX5_overdue 18 = .ok (.invokevirtual 73, 3) := by decide +kernel
theorem dX5_overdue_21 : decode cX5_overdue 21 = .ok (.iconst 1, 1) := by decide +kernel
theorem dX5_overdue_22 : decode cX5_overdue 22 = .ok (.if_icmp .ne 32, 3) := by decide +kernel
theorem dX5_overdue_25 : decode cX5_overdue 25 = .ok (.aload_n 0, 1) := by decide +kernel
theorem dX5_overdue_26 : decode cX5_overdue 26 = .ok (.iload_n 3, 1) := by decide +kernel
theorem dX5_overdue_27 : decode cX5_overdue 27 = .ok (.iconst 4, 1) := by decide +kernel
theorem dX5_overdue_28 : decode cX5_overdue 28 = .ok (.invokevirtual 73, 3) := by decide +kernel
theorem dX5_overdue_31 : decode cX5_overdue 31 = .ok (.iload_n 1, 1) := by decide +kernel
theorem dX5_overdue_32 : decode cX5_overdue 32 = .ok (.if_icmp .ne 22, 3) := by decide +kernel
theorem dX5_overdue_35 : decode cX5_overdue 35 = .ok (.aload_n 0, 1) := by decide +kernel
theorem dX5_overdue_36 : decode cX5_overdue 36 = .ok (.iload_n 3, 1) := by decide +kernel
theorem dX5_overdue_37 : decode cX5_overdue 37 = .ok (.iconst 5, 1) := by decide +kernel
theorem dX5_overdue_38 : decode cX5_overdue 38 = .ok (.invokevirtual 73, 3) := by decide +kernel
theorem dX5_overdue_41 : decode cX5_overdue 41 = .ok (.aload_n 0, 1) := by decide +kernel
theorem dX5_overdue_42 : decode cX5_overdue 42 = .ok (.getfield 11, 3) := by decide +kernel
theorem dX5_overdue_45 : decode cX5_overdue 45 = .ok (.iconst 0, 1) := by decide +kernel
theorem dX5_overdue_46 : decode cX5_overdue 46 = .ok (.iaload, 1) := by decide +kernel
theorem dX5_overdue_47 : decode cX5_overdue 47 = .ok (.if_icmp .ge 7, 3) := by decide +kernel
theorem dX5_overdue_50 : decode cX5_overdue 50 = .ok (.iconst 1, 1) := by decide +kernel
theorem dX5_overdue_51 : decode cX5_overdue 51 = .ok (.goto 4, 3) := by decide +kernel
theorem dX5_overdue_54 : decode cX5_overdue 54 = .ok (.iconst 0, 1) := by decide +kernel
theorem dX5_overdue_55 : decode cX5_overdue 55 = .ok (.iadd, 1) := by decide +kernel
theorem dX5_overdue_56 : decode cX5_overdue 56 = .ok (.istore_n 2, 1) := by decide +kernel
theorem dX5_overdue_57 : decode cX5_overdue 57 = .ok (.iinc 3 1, 3) := by decide +kernel
theorem dX5_overdue_60 : decode cX5_overdue 60 = .ok (.goto (-56), 3) := by decide +kernel
theorem dX5_overdue_63 : decode cX5_overdue 63 = .ok (.iload_n 2, 1) := by decide +kernel
theorem dX5_overdue_64 : decode cX5_overdue 64 = .ok (.ireturn, 1) := by decide +kernel
theorem dX5_holdsOf_0 : decode cX5_holdsOf 0 = .ok (.iconst 0, 1) := by decide +kernel
theorem dX5_holdsOf_1 : decode cX5_holdsOf 1 = .ok (.istore_n 2, 1) := by decide +kernel
theorem dX5_holdsOf_2 : decode cX5_holdsOf 2 = .ok (.iconst 0, 1) := by decide +kernel
theorem dX5_holdsOf_3 : decode cX5_holdsOf 3 = .ok (.istore_n 3, 1) := by decide +kernel
theorem dX5_holdsOf_4 : decode cX5_holdsOf 4 = .ok (.iload_n 3, 1) := by decide +kernel
theorem dX5_holdsOf_5 : decode cX5_holdsOf 5 = .ok (.aload_n 0, 1) := by decide +kernel
theorem dX5_holdsOf_6 : decode cX5_holdsOf 6 = .ok (.getfield 11, 3) := by decide +kernel
theorem dX5_holdsOf_9 : decode cX5_holdsOf 9 = .ok (.iconst 3, 1) := by decide +kernel
theorem dX5_holdsOf_10 : decode cX5_holdsOf 10 = .ok (.iaload, 1) := by decide +kernel
theorem dX5_holdsOf_11 : decode cX5_holdsOf 11 = .ok (.if_icmp .ge 27, 3) := by decide +kernel
theorem dX5_holdsOf_14 : decode cX5_holdsOf 14 = .ok (.iload_n 2, 1) := by decide +kernel
theorem dX5_holdsOf_15 : decode cX5_holdsOf 15 = .ok (.aload_n 0, 1) := by decide +kernel
theorem dX5_holdsOf_16 : decode cX5_holdsOf 16 = .ok (.iload_n 3, 1) := by decide +kernel
theorem dX5_holdsOf_17 : decode cX5_holdsOf 17 = .ok (.iconst 1, 1) := by decide +kernel
theorem dX5_holdsOf_18 : decode cX5_holdsOf 18 = .ok (.invokevirtual 59, 3) := by decide +kernel
theorem dX5_holdsOf_21 : decode cX5_holdsOf 21 = .ok (.iload_n 1, 1) := by decide +kernel
theorem dX5_holdsOf_22 : decode cX5_holdsOf 22 = .ok (.if_icmp .ne 7, 3) := by decide +kernel
theorem dX5_holdsOf_25 : decode cX5_holdsOf 25 = .ok (.iconst 1, 1) := by decide +kernel
theorem dX5_holdsOf_26 : decode cX5_holdsOf 26 = .ok (.goto 4, 3) := by decide +kernel
theorem dX5_holdsOf_29 : decode cX5_holdsOf 29 = .ok (.iconst 0, 1) := by decide +kernel
theorem dX5_holdsOf_30 : decode cX5_holdsOf 30 = .ok (.iadd, 1) := by decide +kernel
theorem dX5_holdsOf_31 : decode cX5_holdsOf 31 = .ok (.istore_n 2, 1) := by decide +kernel
theorem dX5_holdsOf_32 : decode cX5_holdsOf 32 = .ok (.iinc 3 1, 3) := by decide +kernel
theorem dX5_holdsOf_35 : decode cX5_holdsOf 35 = .ok (.goto (-31), 3) := by decide +kernel
theorem dX5_holdsOf_38 : decode cX5_holdsOf 38 = .ok (.iload_n 2, 1) := by decide +kernel
theorem dX5_holdsOf_39 : decode cX5_holdsOf 39 = .ok (.ireturn, 1) := by decide +kernel
theorem dX5_patron_0 : decode cX5_patron 0 = .ok (.aload_n 0, 1) := by decide +kernel
theorem dX5_patron_1 : decode cX5_patron 1 = .ok (.iload_n 1, 1) := by decide +kernel
theorem dX5_patron_2 : decode cX5_patron 2 = .ok (.invokevirtual 147, 3) := by decide +kernel
theorem dX5_patron_5 : decode cX5_patron 5 = .ok (.ifCond .ne 5, 3) := by decide +kernel
theorem dX5_patron_8 : decode cX5_patron 8 = .ok (.iconst (-1), 1) := by decide +kernel
theorem dX5_patron_9 : decode cX5_patron 9 = .ok (.ireturn, 1) := by decide +kernel
theorem dX5_patron_10 : decode cX5_patron 10 = .ok (.iload_n 2, 1) := by decide +kernel
theorem dX5_patron_11 : decode cX5_patron 11 = .ok (.tableswitch 100 0 5 #[37, 43, 49, 64, 70, 85], 37) := by decide +kernel
theorem dX5_patron_48 : decode cX5_patron 48 = .ok (.aload_n 0, 1) := by decide +kernel
theorem dX5_patron_49 : decode cX5_patron 49 = .ok (.iload_n 1, 1) := by decide +kernel
theorem dX5_patron_50 : decode cX5_patron 50 = .ok (.invokevirtual 144, 3) := by decide +kernel
theorem dX5_patron_53 : decode cX5_patron 53 = .ok (.ireturn, 1) := by decide +kernel
theorem dX5_patron_54 : decode cX5_patron 54 = .ok (.aload_n 0, 1) := by decide +kernel
theorem dX5_patron_55 : decode cX5_patron 55 = .ok (.iload_n 1, 1) := by decide +kernel
theorem dX5_patron_56 : decode cX5_patron 56 = .ok (.invokevirtual 201, 3) := by decide +kernel
theorem dX5_patron_59 : decode cX5_patron 59 = .ok (.ireturn, 1) := by decide +kernel
theorem dX5_patron_60 : decode cX5_patron 60 = .ok (.aload_n 0, 1) := by decide +kernel
theorem dX5_patron_61 : decode cX5_patron 61 = .ok (.getfield 11, 3) := by decide +kernel
theorem dX5_patron_64 : decode cX5_patron 64 = .ok (.sipush 253, 3) := by decide +kernel
theorem dX5_patron_67 : decode cX5_patron 67 = .ok (.iconst 4, 1) := by decide +kernel
theorem dX5_patron_68 : decode cX5_patron 68 = .ok (.iload_n 1, 1) := by decide +kernel
theorem dX5_patron_69 : decode cX5_patron 69 = .ok (.imul, 1) := by decide +kernel
theorem dX5_patron_70 : decode cX5_patron 70 = .ok (.iadd, 1) := by decide +kernel
theorem dX5_patron_71 : decode cX5_patron 71 = .ok (.iconst 1, 1) := by decide +kernel
theorem dX5_patron_72 : decode cX5_patron 72 = .ok (.iadd, 1) := by decide +kernel
theorem dX5_patron_73 : decode cX5_patron 73 = .ok (.iaload, 1) := by decide +kernel
theorem dX5_patron_74 : decode cX5_patron 74 = .ok (.ireturn, 1) := by decide +kernel
theorem dX5_patron_75 : decode cX5_patron 75 = .ok (.aload_n 0, 1) := by decide +kernel
theorem dX5_patron_76 : decode cX5_patron 76 = .ok (.iload_n 1, 1) := by decide +kernel
theorem dX5_patron_77 : decode cX5_patron 77 = .ok (.invokevirtual 204, 3) := by decide +kernel
theorem dX5_patron_80 : decode cX5_patron 80 = .ok (.ireturn, 1) := by decide +kernel
theorem dX5_patron_81 : decode cX5_patron 81 = .ok (.aload_n 0, 1) := by decide +kernel
theorem dX5_patron_82 : decode cX5_patron 82 = .ok (.getfield 11, 3) := by decide +kernel
theorem dX5_patron_85 : decode cX5_patron 85 = .ok (.sipush 253, 3) := by decide +kernel
theorem dX5_patron_88 : decode cX5_patron 88 = .ok (.iconst 4, 1) := by decide +kernel
theorem dX5_patron_89 : decode cX5_patron 89 = .ok (.iload_n 1, 1) := by decide +kernel
theorem dX5_patron_90 : decode cX5_patron 90 = .ok (.imul, 1) := by decide +kernel
theorem dX5_patron_91 : decode cX5_patron 91 = .ok (.iadd, 1) := by decide +kernel
theorem dX5_patron_92 : decode cX5_patron 92 = .ok (.iconst 2, 1) := by decide +kernel
theorem dX5_patron_93 : decode cX5_patron 93 = .ok (.iadd, 1) := by decide +kernel
theorem dX5_patron_94 : decode cX5_patron 94 = .ok (.iaload, 1) := by decide +kernel
theorem dX5_patron_95 : decode cX5_patron 95 = .ok (.ireturn, 1) := by decide +kernel
theorem dX5_patron_96 : decode cX5_patron 96 = .ok (.aload_n 0, 1) := by decide +kernel
theorem dX5_patron_97 : decode cX5_patron 97 = .ok (.getfield 11, 3) := by decide +kernel
theorem dX5_patron_100 : decode cX5_patron 100 = .ok (.sipush 253, 3) := by decide +kernel
theorem dX5_patron_103 : decode cX5_patron 103 = .ok (.iconst 4, 1) := by decide +kernel
theorem dX5_patron_104 : decode cX5_patron 104 = .ok (.iload_n 1, 1) := by decide +kernel
theorem dX5_patron_105 : decode cX5_patron 105 = .ok (.imul, 1) := by decide +kernel
theorem dX5_patron_106 : decode cX5_patron 106 = .ok (.iadd, 1) := by decide +kernel
theorem dX5_patron_107 : decode cX5_patron 107 = .ok (.iconst 3, 1) := by decide +kernel
theorem dX5_patron_108 : decode cX5_patron 108 = .ok (.iadd, 1) := by decide +kernel
theorem dX5_patron_109 : decode cX5_patron 109 = .ok (.iaload, 1) := by decide +kernel
theorem dX5_patron_110 : decode cX5_patron 110 = .ok (.ireturn, 1) := by decide +kernel
theorem dX5_patron_111 : decode cX5_patron 111 = .ok (.iconst (-1), 1) := by decide +kernel
theorem dX5_patron_112 : decode cX5_patron 112 = .ok (.ireturn, 1) := by decide +kernel
theorem dX5_byDate_0 : decode cX5_byDate 0 = .ok (.iconst 0, 1) := by decide +kernel
theorem dX5_byDate_1 : decode cX5_byDate 1 = .ok (.istore 4, 2) := by decide +kernel
theorem dX5_byDate_3 : decode cX5_byDate 3 = .ok (.iload 4, 2) := by decide +kernel
theorem dX5_byDate_5 : decode cX5_byDate 5 = .ok (.aload_n 0, 1) := by decide +kernel
theorem dX5_byDate_6 : decode cX5_byDate 6 = .ok (.getfield 11, 3) := by decide +kernel
theorem dX5_byDate_9 : decode cX5_byDate 9 = .ok (.iconst 1, 1) := by decide +kernel
theorem dX5_byDate_10 : decode cX5_byDate 10 = .ok (.iaload, 1) := by decide +kernel
theorem dX5_byDate_11 : decode cX5_byDate 11 = .ok (.if_icmp .ge 151, 3) := by decide +kernel
theorem dX5_byDate_14 : decode cX5_byDate 14 = .ok (.aload_n 0, 1) := by decide +kernel
theorem dX5_byDate_15 : decode cX5_byDate 15 = .ok (.iload 4, 2) := by decide +kernel
theorem dX5_byDate_17 : decode cX5_byDate 17 = .ok (.iconst 3, 1) := by decide +kernel
theorem dX5_byDate_18 : decode cX5_byDate 18 = .ok (.invokevirtual 73, 3) := by decide +kernel
theorem dX5_byDate_21 : decode cX5_byDate 21 = .ok (.iload_n 1, 1) := by decide +kernel
theorem dX5_byDate_22 : decode cX5_byDate 22 = .ok (.if_icmp .ne 134, 3) := by decide +kernel
theorem dX5_byDate_25 : decode cX5_byDate 25 = .ok (.aload_n 0, 1) := by decide +kernel
theorem dX5_byDate_26 : decode cX5_byDate 26 = .ok (.iload 4, 2) := by decide +kernel
theorem dX5_byDate_28 : decode cX5_byDate 28 = .ok (.iconst 4, 1) := by decide +kernel
theorem dX5_byDate_29 : decode cX5_byDate 29 = .ok (.invokevirtual 73, 3) := by decide +kernel
theorem dX5_byDate_32 : decode cX5_byDate 32 = .ok (.iload_n 2, 1) := by decide +kernel
theorem dX5_byDate_33 : decode cX5_byDate 33 = .ok (.if_icmp .eq 6, 3) := by decide +kernel
theorem dX5_byDate_36 : decode cX5_byDate 36 = .ok (.goto 120, 3) := by decide +kernel
theorem dX5_byDate_39 : decode cX5_byDate 39 = .ok (.iconst 0, 1) := by decide +kernel
theorem dX5_byDate_40 : decode cX5_byDate 40 = .ok (.istore 5, 2) := by decide +kernel
theorem dX5_byDate_42 : decode cX5_byDate 42 = .ok (.iconst 0, 1) := by decide +kernel
theorem dX5_byDate_43 : decode cX5_byDate 43 = .ok (.istore 6, 2) := by decide +kernel
theorem dX5_byDate_45 : decode cX5_byDate 45 = .ok (.iload 6, 2) := by decide +kernel
theorem dX5_byDate_47 : decode cX5_byDate 47 = .ok (.aload_n 0, 1) := by decide +kernel
theorem dX5_byDate_48 : decode cX5_byDate 48 = .ok (.getfield 11, 3) := by decide +kernel
theorem dX5_byDate_51 : decode cX5_byDate 51 = .ok (.iconst 1, 1) := by decide +kernel
theorem dX5_byDate_52 : decode cX5_byDate 52 = .ok (.iaload, 1) := by decide +kernel
theorem dX5_byDate_53 : decode cX5_byDate 53 = .ok (.if_icmp .ge 94, 3) := by decide +kernel
theorem dX5_byDate_56 : decode cX5_byDate 56 = .ok (.aload_n 0, 1) := by decide +kernel
theorem dX5_byDate_57 : decode cX5_byDate 57 = .ok (.iload 6, 2) := by decide +kernel
theorem dX5_byDate_59 : decode cX5_byDate 59 = .ok (.iconst 3, 1) := by decide +kernel
theorem dX5_byDate_60 : decode cX5_byDate 60 = .ok (.invokevirtual 73, 3) := by decide +kernel
theorem dX5_byDate_63 : decode cX5_byDate 63 = .ok (.iload_n 1, 1) := by decide +kernel
theorem dX5_byDate_64 : decode cX5_byDate 64 = .ok (.if_icmp .ne 18, 3) := by decide +kernel
theorem dX5_byDate_67 : decode cX5_byDate 67 = .ok (.aload_n 0, 1) := by decide +kernel
theorem dX5_byDate_68 : decode cX5_byDate 68 = .ok (.iload 6, 2) := by decide +kernel
theorem dX5_byDate_70 : decode cX5_byDate 70 = .ok (.iconst 4, 1) := by decide +kernel
theorem dX5_byDate_71 : decode cX5_byDate 71 = .ok (.invokevirtual 73, 3) := by decide +kernel
theorem dX5_byDate_74 : decode cX5_byDate 74 = .ok (.iload_n 2, 1) := by decide +kernel
theorem dX5_byDate_75 : decode cX5_byDate 75 = .ok (.if_icmp .ne 7, 3) := by decide +kernel
theorem dX5_byDate_78 : decode cX5_byDate 78 = .ok (.iconst 1, 1) := by decide +kernel
theorem dX5_byDate_79 : decode cX5_byDate 79 = .ok (.goto 4, 3) := by decide +kernel
theorem dX5_byDate_82 : decode cX5_byDate 82 = .ok (.iconst 0, 1) := by decide +kernel
theorem dX5_byDate_83 : decode cX5_byDate 83 = .ok (.istore 7, 2) := by decide +kernel
theorem dX5_byDate_85 : decode cX5_byDate 85 = .ok (.iload 5, 2) := by decide +kernel
theorem dX5_byDate_87 : decode cX5_byDate 87 = .ok (.iload 7, 2) := by decide +kernel
theorem dX5_byDate_89 : decode cX5_byDate 89 = .ok (.ifCond .eq 48, 3) := by decide +kernel
theorem dX5_byDate_92 : decode cX5_byDate 92 = .ok (.aload_n 0, 1) := by decide +kernel
theorem dX5_byDate_93 : decode cX5_byDate 93 = .ok (.iload 6, 2) := by decide +kernel
theorem dX5_byDate_95 : decode cX5_byDate 95 = .ok (.iconst 5, 1) := by decide +kernel
theorem dX5_byDate_96 : decode cX5_byDate 96 = .ok (.invokevirtual 73, 3) := by decide +kernel
theorem dX5_byDate_99 : decode cX5_byDate 99 = .ok (.aload_n 0, 1) := by decide +kernel
theorem dX5_byDate_100 : decode cX5_byDate 100 = .ok (.iload 4, 2) := by decide +kernel
theorem dX5_byDate_102 : decode cX5_byDate 102 = .ok (.iconst 5, 1) := by decide +kernel
theorem dX5_byDate_103 : decode cX5_byDate 103 = .ok (.invokevirtual 73, 3) := by decide +kernel
theorem dX5_byDate_106 : decode cX5_byDate 106 = .ok (.if_icmp .lt 27, 3) := by decide +kernel
theorem dX5_byDate_109 : decode cX5_byDate 109 = .ok (.aload_n 0, 1) := by decide +kernel
theorem dX5_byDate_110 : decode cX5_byDate 110 = .ok (.iload 6, 2) := by decide +kernel
theorem dX5_byDate_112 : decode cX5_byDate 112 = .ok (.iconst 5, 1) := by decide +kernel
theorem dX5_byDate_113 : decode cX5_byDate 113 = .ok (.invokevirtual 73, 3) := by decide +kernel
theorem dX5_byDate_116 : decode cX5_byDate 116 = .ok (.aload_n 0, 1) := by decide +kernel
theorem dX5_byDate_117 : decode cX5_byDate 117 = .ok (.iload 4, 2) := by decide +kernel
theorem dX5_byDate_119 : decode cX5_byDate 119 = .ok (.iconst 5, 1) := by decide +kernel
theorem dX5_byDate_120 : decode cX5_byDate 120 = .ok (.invokevirtual 73, 3) := by decide +kernel
theorem dX5_byDate_123 : decode cX5_byDate 123 = .ok (.if_icmp .ne 14, 3) := by decide +kernel
theorem dX5_byDate_126 : decode cX5_byDate 126 = .ok (.iload 6, 2) := by decide +kernel
theorem dX5_byDate_128 : decode cX5_byDate 128 = .ok (.iload 4, 2) := by decide +kernel
theorem dX5_byDate_130 : decode cX5_byDate 130 = .ok (.if_icmp .ge 7, 3) := by decide +kernel
theorem dX5_byDate_133 : decode cX5_byDate 133 = .ok (.iconst 1, 1) := by decide +kernel
theorem dX5_byDate_134 : decode cX5_byDate 134 = .ok (.goto 4, 3) := by decide +kernel
theorem dX5_byDate_137 : decode cX5_byDate 137 = .ok (.iconst 0, 1) := by decide +kernel
theorem dX5_byDate_138 : decode cX5_byDate 138 = .ok (.iadd, 1) := by decide +kernel
theorem dX5_byDate_139 : decode cX5_byDate 139 = .ok (.istore 5, 2) := by decide +kernel
theorem dX5_byDate_141 : decode cX5_byDate 141 = .ok (.iinc 6 1, 3) := by decide +kernel
theorem dX5_byDate_144 : decode cX5_byDate 144 = .ok (.goto (-99), 3) := by decide +kernel
theorem dX5_byDate_147 : decode cX5_byDate 147 = .ok (.iload 5, 2) := by decide +kernel
theorem dX5_byDate_149 : decode cX5_byDate 149 = .ok (.iload_n 3, 1) := by decide +kernel
theorem dX5_byDate_150 : decode cX5_byDate 150 = .ok (.if_icmp .ne 6, 3) := by decide +kernel
theorem dX5_byDate_153 : decode cX5_byDate 153 = .ok (.iload 4, 2) := by decide +kernel
theorem dX5_byDate_155 : decode cX5_byDate 155 = .ok (.ireturn, 1) := by decide +kernel
theorem dX5_byDate_156 : decode cX5_byDate 156 = .ok (.iinc 4 1, 3) := by decide +kernel
theorem dX5_byDate_159 : decode cX5_byDate 159 = .ok (.goto (-156), 3) := by decide +kernel
theorem dX5_byDate_162 : decode cX5_byDate 162 = .ok (.bipush (-2), 2) := by decide +kernel
theorem dX5_byDate_164 : decode cX5_byDate 164 = .ok (.ireturn, 1) := by decide +kernel
theorem dX5_loanOf_0 : decode cX5_loanOf 0 = .ok (.aload_n 0, 1) := by decide +kernel
theorem dX5_loanOf_1 : decode cX5_loanOf 1 = .ok (.iload_n 1, 1) := by decide +kernel
theorem dX5_loanOf_2 : decode cX5_loanOf 2 = .ok (.invokevirtual 147, 3) := by decide +kernel
theorem dX5_loanOf_5 : decode cX5_loanOf 5 = .ok (.ifCond .eq 13, 3) := by decide +kernel
theorem dX5_loanOf_8 : decode cX5_loanOf 8 = .ok (.aload_n 0, 1) := by decide +kernel
theorem dX5_loanOf_9 : decode cX5_loanOf 9 = .ok (.iconst 1, 1) := by decide +kernel
theorem dX5_loanOf_10 : decode cX5_loanOf 10 = .ok (.iload_n 1, 1) := by decide +kernel
theorem dX5_loanOf_11 : decode cX5_loanOf 11 = .ok (.iload_n 2, 1) := by decide +kernel
theorem dX5_loanOf_12 : decode cX5_loanOf 12 = .ok (.invokevirtual 207, 3) := by decide +kernel
theorem dX5_loanOf_15 : decode cX5_loanOf 15 = .ok (.goto 4, 3) := by decide +kernel
theorem dX5_loanOf_18 : decode cX5_loanOf 18 = .ok (.iconst (-1), 1) := by decide +kernel
theorem dX5_loanOf_19 : decode cX5_loanOf 19 = .ok (.ireturn, 1) := by decide +kernel
theorem dX5_fine_0 : decode cX5_fine 0 = .ok (.aload_n 0, 1) := by decide +kernel
theorem dX5_fine_1 : decode cX5_fine 1 = .ok (.iload_n 1, 1) := by decide +kernel
theorem dX5_fine_2 : decode cX5_fine 2 = .ok (.invokevirtual 113, 3) := by decide +kernel
theorem dX5_fine_5 : decode cX5_fine 5 = .ok (.ifCond .ne 5, 3) := by decide +kernel
theorem dX5_fine_8 : decode cX5_fine 8 = .ok (.iconst (-1), 1) := by decide +kernel
theorem dX5_fine_9 : decode cX5_fine 9 = .ok (.ireturn, 1) := by decide +kernel
theorem dX5_fine_10 : decode cX5_fine 10 = .ok (.aload_n 0, 1) := by decide +kernel
theorem dX5_fine_11 : decode cX5_fine 11 = .ok (.iload_n 1, 1) := by decide +kernel
theorem dX5_fine_12 : decode cX5_fine 12 = .ok (.iconst 3, 1) := by decide +kernel
theorem dX5_fine_13 : decode cX5_fine 13 = .ok (.invokevirtual 73, 3) := by decide +kernel
theorem dX5_fine_16 : decode cX5_fine 16 = .ok (.istore_n 2, 1) := by decide +kernel
theorem dX5_fine_17 : decode cX5_fine 17 = .ok (.iload_n 2, 1) := by decide +kernel
theorem dX5_fine_18 : decode cX5_fine 18 = .ok (.iconst 1, 1) := by decide +kernel
theorem dX5_fine_19 : decode cX5_fine 19 = .ok (.if_icmp .ne 11, 3) := by decide +kernel
theorem dX5_fine_22 : decode cX5_fine 22 = .ok (.aload_n 0, 1) := by decide +kernel
theorem dX5_fine_23 : decode cX5_fine 23 = .ok (.iload_n 1, 1) := by decide +kernel
theorem dX5_fine_24 : decode cX5_fine 24 = .ok (.invokevirtual 123, 3) := by decide +kernel
theorem dX5_fine_27 : decode cX5_fine 27 = .ok (.goto 25, 3) := by decide +kernel
theorem dX5_fine_30 : decode cX5_fine 30 = .ok (.iload_n 2, 1) := by decide +kernel
theorem dX5_fine_31 : decode cX5_fine 31 = .ok (.iconst 4, 1) := by decide +kernel
theorem dX5_fine_32 : decode cX5_fine 32 = .ok (.if_icmp .eq 8, 3) := by decide +kernel
theorem dX5_fine_35 : decode cX5_fine 35 = .ok (.iload_n 2, 1) := by decide +kernel
theorem dX5_fine_36 : decode cX5_fine 36 = .ok (.iconst 5, 1) := by decide +kernel
theorem dX5_fine_37 : decode cX5_fine 37 = .ok (.if_icmp .ne 13, 3) := by decide +kernel
theorem dX5_fine_40 : decode cX5_fine 40 = .ok (.aload_n 0, 1) := by decide +kernel
theorem dX5_fine_41 : decode cX5_fine 41 = .ok (.iload_n 1, 1) := by decide +kernel
theorem dX5_fine_42 : decode cX5_fine 42 = .ok (.bipush 9, 2) := by decide +kernel
theorem dX5_fine_44 : decode cX5_fine 44 = .ok (.invokevirtual 73, 3) := by decide +kernel
theorem dX5_fine_47 : decode cX5_fine 47 = .ok (.goto 5, 3) := by decide +kernel
theorem dX5_fine_50 : decode cX5_fine 50 = .ok (.bipush (-2), 2) := by decide +kernel
theorem dX5_fine_52 : decode cX5_fine 52 = .ok (.ireturn, 1) := by decide +kernel
theorem dX5_lessens_0 : decode cX5_lessens 0 = .ok (.aload_n 0, 1) := by decide +kernel
theorem dX5_lessens_1 : decode cX5_lessens 1 = .ok (.iload_n 2, 1) := by decide +kernel
theorem dX5_lessens_2 : decode cX5_lessens 2 = .ok (.invokevirtual 147, 3) := by decide +kernel
theorem dX5_lessens_5 : decode cX5_lessens 5 = .ok (.ifCond .eq 24, 3) := by decide +kernel
theorem dX5_lessens_8 : decode cX5_lessens 8 = .ok (.iload_n 3, 1) := by decide +kernel
theorem dX5_lessens_9 : decode cX5_lessens 9 = .ok (.iconst 1, 1) := by decide +kernel
theorem dX5_lessens_10 : decode cX5_lessens 10 = .ok (.if_icmp .lt 19, 3) := by decide +kernel
theorem dX5_lessens_13 : decode cX5_lessens 13 = .ok (.iload_n 3, 1) := by decide +kernel
theorem dX5_lessens_14 : decode cX5_lessens 14 = .ok (.aload_n 0, 1) := by decide +kernel
theorem dX5_lessens_15 : decode cX5_lessens 15 = .ok (.getfield 11, 3) := by decide +kernel
theorem dX5_lessens_18 : decode cX5_lessens 18 = .ok (.sipush 253, 3) := by decide +kernel
theorem dX5_lessens_21 : decode cX5_lessens 21 = .ok (.iconst 4, 1) := by decide +kernel
theorem dX5_lessens_22 : decode cX5_lessens 22 = .ok (.iload_n 2, 1) := by decide +kernel
theorem dX5_lessens_23 : decode cX5_lessens 23 = .ok (.imul, 1) := by decide +kernel
theorem dX5_lessens_24 : decode cX5_lessens 24 = .ok (.iadd, 1) := by decide +kernel
theorem dX5_lessens_25 : decode cX5_lessens 25 = .ok (.iaload, 1) := by decide +kernel
theorem dX5_lessens_26 : decode cX5_lessens 26 = .ok (.if_icmp .le 5, 3) := by decide +kernel
theorem dX5_lessens_29 : decode cX5_lessens 29 = .ok (.iconst (-1), 1) := by decide +kernel
theorem dX5_lessens_30 : decode cX5_lessens 30 = .ok (.ireturn, 1) := by decide +kernel
theorem dX5_lessens_31 : decode cX5_lessens 31 = .ok (.aload_n 0, 1) := by decide +kernel
theorem dX5_lessens_32 : decode cX5_lessens 32 = .ok (.iload_n 1, 1) := by decide +kernel
theorem dX5_lessens_33 : decode cX5_lessens 33 = .ok (.iload_n 2, 1) := by decide +kernel
theorem dX5_lessens_34 : decode cX5_lessens 34 = .ok (.iload_n 3, 1) := by decide +kernel
theorem dX5_lessens_35 : decode cX5_lessens 35 = .ok (.ineg, 1) := by decide +kernel
theorem dX5_lessens_36 : decode cX5_lessens 36 = .ok (.iconst (-1), 1) := by decide +kernel
theorem dX5_lessens_37 : decode cX5_lessens 37 = .ok (.invokevirtual 126, 3) := by decide +kernel
theorem dX5_lessens_40 : decode cX5_lessens 40 = .ok (.aload_n 0, 1) := by decide +kernel
theorem dX5_lessens_41 : decode cX5_lessens 41 = .ok (.getfield 11, 3) := by decide +kernel
theorem dX5_lessens_44 : decode cX5_lessens 44 = .ok (.sipush 253, 3) := by decide +kernel
theorem dX5_lessens_47 : decode cX5_lessens 47 = .ok (.iconst 4, 1) := by decide +kernel
theorem dX5_lessens_48 : decode cX5_lessens 48 = .ok (.iload_n 2, 1) := by decide +kernel
theorem dX5_lessens_49 : decode cX5_lessens 49 = .ok (.imul, 1) := by decide +kernel
theorem dX5_lessens_50 : decode cX5_lessens 50 = .ok (.iadd, 1) := by decide +kernel
theorem dX5_lessens_51 : decode cX5_lessens 51 = .ok (.iaload, 1) := by decide +kernel
theorem dX5_lessens_52 : decode cX5_lessens 52 = .ok (.ireturn, 1) := by decide +kernel
theorem dX5_pay_0 : decode cX5_pay 0 = .ok (.aload_n 0, 1) := by decide +kernel
theorem dX5_pay_1 : decode cX5_pay 1 = .ok (.invokevirtual 96, 3) := by decide +kernel
theorem dX5_pay_4 : decode cX5_pay 4 = .ok (.aload_n 0, 1) := by decide +kernel
theorem dX5_pay_5 : decode cX5_pay 5 = .ok (.aload_n 0, 1) := by decide +kernel
theorem dX5_pay_6 : decode cX5_pay 6 = .ok (.iconst 3, 1) := by decide +kernel
theorem dX5_pay_7 : decode cX5_pay 7 = .ok (.iload_n 1, 1) := by decide +kernel
theorem dX5_pay_8 : decode cX5_pay 8 = .ok (.iload_n 2, 1) := by decide +kernel
theorem dX5_pay_9 : decode cX5_pay 9 = .ok (.invokevirtual 210, 3) := by decide +kernel
theorem dX5_pay_12 : decode cX5_pay 12 = .ok (.invokevirtual 103, 3) := by decide +kernel
theorem dX5_pay_15 : decode cX5_pay 15 = .ok (.ireturn, 1) := by decide +kernel
theorem dX5_waive_0 : decode cX5_waive 0 = .ok (.aload_n 0, 1) := by decide +kernel
theorem dX5_waive_1 : decode cX5_waive 1 = .ok (.invokevirtual 96, 3) := by decide +kernel
theorem dX5_waive_4 : decode cX5_waive 4 = .ok (.aload_n 0, 1) := by decide +kernel
theorem dX5_waive_5 : decode cX5_waive 5 = .ok (.aload_n 0, 1) := by decide +kernel
theorem dX5_waive_6 : decode cX5_waive 6 = .ok (.iconst 4, 1) := by decide +kernel
theorem dX5_waive_7 : decode cX5_waive 7 = .ok (.iload_n 1, 1) := by decide +kernel
theorem dX5_waive_8 : decode cX5_waive 8 = .ok (.iload_n 2, 1) := by decide +kernel
theorem dX5_waive_9 : decode cX5_waive 9 = .ok (.invokevirtual 210, 3) := by decide +kernel
theorem dX5_waive_12 : decode cX5_waive 12 = .ok (.invokevirtual 103, 3) := by decide +kernel
theorem dX5_waive_15 : decode cX5_waive 15 = .ok (.ireturn, 1) := by decide +kernel
theorem dX5_ledgerSize_0 : decode cX5_ledgerSize 0 = .ok (.aload_n 0, 1) := by decide +kernel
theorem dX5_ledgerSize_1 : decode cX5_ledgerSize 1 = .ok (.getfield 11, 3) := by decide +kernel
theorem dX5_ledgerSize_4 : decode cX5_ledgerSize 4 = .ok (.iconst 4, 1) := by decide +kernel
theorem dX5_ledgerSize_5 : decode cX5_ledgerSize 5 = .ok (.iaload, 1) := by decide +kernel
theorem dX5_ledgerSize_6 : decode cX5_ledgerSize 6 = .ok (.ireturn, 1) := by decide +kernel
theorem dX5_ledger_0 : decode cX5_ledger 0 = .ok (.iload_n 1, 1) := by decide +kernel
theorem dX5_ledger_1 : decode cX5_ledger 1 = .ok (.iconst 0, 1) := by decide +kernel
theorem dX5_ledger_2 : decode cX5_ledger 2 = .ok (.aload_n 0, 1) := by decide +kernel
theorem dX5_ledger_3 : decode cX5_ledger 3 = .ok (.getfield 11, 3) := by decide +kernel
theorem dX5_ledger_6 : decode cX5_ledger 6 = .ok (.iconst 4, 1) := by decide +kernel
theorem dX5_ledger_7 : decode cX5_ledger 7 = .ok (.iaload, 1) := by decide +kernel
theorem dX5_ledger_8 : decode cX5_ledger 8 = .ok (.iconst 1, 1) := by decide +kernel
theorem dX5_ledger_9 : decode cX5_ledger 9 = .ok (.isub, 1) := by decide +kernel
theorem dX5_ledger_10 : decode cX5_ledger 10 = .ok (.invokestatic 51, 3) := by decide +kernel
theorem dX5_ledger_13 : decode cX5_ledger 13 = .ok (.ifCond .eq 29, 3) := by decide +kernel
theorem dX5_ledger_16 : decode cX5_ledger 16 = .ok (.iload_n 2, 1) := by decide +kernel
theorem dX5_ledger_17 : decode cX5_ledger 17 = .ok (.iconst 0, 1) := by decide +kernel
theorem dX5_ledger_18 : decode cX5_ledger 18 = .ok (.iconst 4, 1) := by decide +kernel
theorem dX5_ledger_19 : decode cX5_ledger 19 = .ok (.invokestatic 51, 3) := by decide +kernel
theorem dX5_ledger_22 : decode cX5_ledger 22 = .ok (.ifCond .eq 20, 3) := by decide +kernel
theorem dX5_ledger_25 : decode cX5_ledger 25 = .ok (.aload_n 0, 1) := by decide +kernel
theorem dX5_ledger_26 : decode cX5_ledger 26 = .ok (.getfield 11, 3) := by decide +kernel
theorem dX5_ledger_29 : decode cX5_ledger 29 = .ok (.sipush 381, 3) := by decide +kernel
theorem dX5_ledger_32 : decode cX5_ledger 32 = .ok (.iconst 5, 1) := by decide +kernel
theorem dX5_ledger_33 : decode cX5_ledger 33 = .ok (.iload_n 1, 1) := by decide +kernel
theorem dX5_ledger_34 : decode cX5_ledger 34 = .ok (.imul, 1) := by decide +kernel
theorem dX5_ledger_35 : decode cX5_ledger 35 = .ok (.iadd, 1) := by decide +kernel
theorem dX5_ledger_36 : decode cX5_ledger 36 = .ok (.iload_n 2, 1) := by decide +kernel
theorem dX5_ledger_37 : decode cX5_ledger 37 = .ok (.iadd, 1) := by decide +kernel
theorem dX5_ledger_38 : decode cX5_ledger 38 = .ok (.iaload, 1) := by decide +kernel
theorem dX5_ledger_39 : decode cX5_ledger 39 = .ok (.goto 5, 3) := by decide +kernel
theorem dX5_ledger_42 : decode cX5_ledger 42 = .ok (.ldc 213, 2) := by decide +kernel
theorem dX5_ledger_44 : decode cX5_ledger 44 = .ok (.ireturn, 1) := by decide +kernel
theorem dX5_ledgerSum_0 : decode cX5_ledgerSum 0 = .ok (.aload_n 0, 1) := by decide +kernel
theorem dX5_ledgerSum_1 : decode cX5_ledgerSum 1 = .ok (.iload_n 1, 1) := by decide +kernel
theorem dX5_ledgerSum_2 : decode cX5_ledgerSum 2 = .ok (.invokevirtual 147, 3) := by decide +kernel
theorem dX5_ledgerSum_5 : decode cX5_ledgerSum 5 = .ok (.ifCond .eq 12, 3) := by decide +kernel
theorem dX5_ledgerSum_8 : decode cX5_ledgerSum 8 = .ok (.iload_n 2, 1) := by decide +kernel
theorem dX5_ledgerSum_9 : decode cX5_ledgerSum 9 = .ok (.iconst (-1), 1) := by decide +kernel
theorem dX5_ledgerSum_10 : decode cX5_ledgerSum 10 = .ok (.iconst 4, 1) := by decide +kernel
theorem dX5_ledgerSum_11 : decode cX5_ledgerSum 11 = .ok (.invokestatic 51, 3) := by decide +kernel
theorem dX5_ledgerSum_14 : decode cX5_ledgerSum 14 = .ok (.ifCond .ne 6, 3) := by decide +kernel
theorem dX5_ledgerSum_17 : decode cX5_ledgerSum 17 = .ok (.ldc 213, 2) := by decide +kernel
theorem dX5_ledgerSum_19 : decode cX5_ledgerSum 19 = .ok (.ireturn, 1) := by decide +kernel
theorem dX5_ledgerSum_20 : decode cX5_ledgerSum 20 = .ok (.iconst 0, 1) := by decide +kernel
theorem dX5_ledgerSum_21 : decode cX5_ledgerSum 21 = .ok (.istore_n 3, 1) := by decide +kernel
theorem dX5_ledgerSum_22 : decode cX5_ledgerSum 22 = .ok (.iconst 0, 1) := by decide +kernel
theorem dX5_ledgerSum_23 : decode cX5_ledgerSum 23 = .ok (.istore 4, 2) := by decide +kernel
theorem dX5_ledgerSum_25 : decode cX5_ledgerSum 25 = .ok (.iload 4, 2) := by decide +kernel
theorem dX5_ledgerSum_27 : decode cX5_ledgerSum 27 = .ok (.aload_n 0, 1) := by decide +kernel
theorem dX5_ledgerSum_28 : decode cX5_ledgerSum 28 = .ok (.getfield 11, 3) := by decide +kernel
theorem dX5_ledgerSum_31 : decode cX5_ledgerSum 31 = .ok (.iconst 4, 1) := by decide +kernel
theorem dX5_ledgerSum_32 : decode cX5_ledgerSum 32 = .ok (.iaload, 1) := by decide +kernel
theorem dX5_ledgerSum_33 : decode cX5_ledgerSum 33 = .ok (.if_icmp .ge 63, 3) := by decide +kernel
theorem dX5_ledgerSum_36 : decode cX5_ledgerSum 36 = .ok (.sipush 381, 3) := by decide +kernel
theorem dX5_ledgerSum_39 : decode cX5_ledgerSum 39 = .ok (.iconst 5, 1) := by decide +kernel
theorem dX5_ledgerSum_40 : decode cX5_ledgerSum 40 = .ok (.iload 4, 2) := by decide +kernel
theorem dX5_ledgerSum_42 : decode cX5_ledgerSum 42 = .ok (.imul, 1) := by decide +kernel
theorem dX5_ledgerSum_43 : decode cX5_ledgerSum 43 = .ok (.iadd, 1) := by decide +kernel
theorem dX5_ledgerSum_44 : decode cX5_ledgerSum 44 = .ok (.istore 5, 2) := by decide +kernel
theorem dX5_ledgerSum_46 : decode cX5_ledgerSum 46 = .ok (.iload_n 3, 1) := by decide +kernel
theorem dX5_ledgerSum_47 : decode cX5_ledgerSum 47 = .ok (.aload_n 0, 1) := by decide +kernel
theorem dX5_ledgerSum_48 : decode cX5_ledgerSum 48 = .ok (.getfield 11, 3) := by decide +kernel
theorem dX5_ledgerSum_51 : decode cX5_ledgerSum 51 = .ok (.iload 5, 2) := by decide +kernel
theorem dX5_ledgerSum_53 : decode cX5_ledgerSum 53 = .ok (.iconst 1, 1) := by decide +kernel
theorem dX5_ledgerSum_54 : decode cX5_ledgerSum 54 = .ok (.iadd, 1) := by decide +kernel
theorem dX5_ledgerSum_55 : decode cX5_ledgerSum 55 = .ok (.iaload, 1) := by decide +kernel
theorem dX5_ledgerSum_56 : decode cX5_ledgerSum 56 = .ok (.iload_n 1, 1) := by decide +kernel
theorem dX5_ledgerSum_57 : decode cX5_ledgerSum 57 = .ok (.if_icmp .ne 30, 3) := by decide +kernel
theorem dX5_ledgerSum_60 : decode cX5_ledgerSum 60 = .ok (.iload_n 2, 1) := by decide +kernel
theorem dX5_ledgerSum_61 : decode cX5_ledgerSum 61 = .ok (.ifCond .lt 14, 3) := by decide +kernel
theorem dX5_ledgerSum_64 : decode cX5_ledgerSum 64 = .ok (.aload_n 0, 1) := by decide +kernel
theorem dX5_ledgerSum_65 : decode cX5_ledgerSum 65 = .ok (.getfield 11, 3) := by decide +kernel
theorem dX5_ledgerSum_68 : decode cX5_ledgerSum 68 = .ok (.iload 5, 2) := by decide +kernel
theorem dX5_ledgerSum_70 : decode cX5_ledgerSum 70 = .ok (.iaload, 1) := by decide +kernel
theorem dX5_ledgerSum_71 : decode cX5_ledgerSum 71 = .ok (.iload_n 2, 1) := by decide +kernel
theorem dX5_ledgerSum_72 : decode cX5_ledgerSum 72 = .ok (.if_icmp .ne 15, 3) := by decide +kernel
theorem dX5_ledgerSum_75 : decode cX5_ledgerSum 75 = .ok (.aload_n 0, 1) := by decide +kernel
theorem dX5_ledgerSum_76 : decode cX5_ledgerSum 76 = .ok (.getfield 11, 3) := by decide +kernel
theorem dX5_ledgerSum_79 : decode cX5_ledgerSum 79 = .ok (.iload 5, 2) := by decide +kernel
theorem dX5_ledgerSum_81 : decode cX5_ledgerSum 81 = .ok (.iconst 2, 1) := by decide +kernel
theorem dX5_ledgerSum_82 : decode cX5_ledgerSum 82 = .ok (.iadd, 1) := by decide +kernel
theorem dX5_ledgerSum_83 : decode cX5_ledgerSum 83 = .ok (.iaload, 1) := by decide +kernel
theorem dX5_ledgerSum_84 : decode cX5_ledgerSum 84 = .ok (.goto 4, 3) := by decide +kernel
theorem dX5_ledgerSum_87 : decode cX5_ledgerSum 87 = .ok (.iconst 0, 1) := by decide +kernel
theorem dX5_ledgerSum_88 : decode cX5_ledgerSum 88 = .ok (.iadd, 1) := by decide +kernel
theorem dX5_ledgerSum_89 : decode cX5_ledgerSum 89 = .ok (.istore_n 3, 1) := by decide +kernel
theorem dX5_ledgerSum_90 : decode cX5_ledgerSum 90 = .ok (.iinc 4 1, 3) := by decide +kernel
theorem dX5_ledgerSum_93 : decode cX5_ledgerSum 93 = .ok (.goto (-68), 3) := by decide +kernel
theorem dX5_ledgerSum_96 : decode cX5_ledgerSum 96 = .ok (.iload_n 3, 1) := by decide +kernel
theorem dX5_ledgerSum_97 : decode cX5_ledgerSum 97 = .ok (.ireturn, 1) := by decide +kernel
theorem dX5_shelf_0 : decode cX5_shelf 0 = .ok (.iload_n 1, 1) := by decide +kernel
theorem dX5_shelf_1 : decode cX5_shelf 1 = .ok (.invokestatic 93, 3) := by decide +kernel
theorem dX5_shelf_4 : decode cX5_shelf 4 = .ok (.ifCond .ne 5, 3) := by decide +kernel
theorem dX5_shelf_7 : decode cX5_shelf 7 = .ok (.iconst (-1), 1) := by decide +kernel
theorem dX5_shelf_8 : decode cX5_shelf 8 = .ok (.ireturn, 1) := by decide +kernel
theorem dX5_shelf_9 : decode cX5_shelf 9 = .ok (.iconst 0, 1) := by decide +kernel
theorem dX5_shelf_10 : decode cX5_shelf 10 = .ok (.istore_n 3, 1) := by decide +kernel
theorem dX5_shelf_11 : decode cX5_shelf 11 = .ok (.iconst 0, 1) := by decide +kernel
theorem dX5_shelf_12 : decode cX5_shelf 12 = .ok (.istore 4, 2) := by decide +kernel
theorem dX5_shelf_14 : decode cX5_shelf 14 = .ok (.iload 4, 2) := by decide +kernel
theorem dX5_shelf_16 : decode cX5_shelf 16 = .ok (.aload_n 0, 1) := by decide +kernel
theorem dX5_shelf_17 : decode cX5_shelf 17 = .ok (.getfield 11, 3) := by decide +kernel
theorem dX5_shelf_20 : decode cX5_shelf 20 = .ok (.iconst 1, 1) := by decide +kernel
theorem dX5_shelf_21 : decode cX5_shelf 21 = .ok (.iaload, 1) := by decide +kernel
theorem dX5_shelf_22 : decode cX5_shelf 22 = .ok (.if_icmp .ge 55, 3) := by decide +kernel
theorem dX5_shelf_25 : decode cX5_shelf 25 = .ok (.aload_n 0, 1) := by decide +kernel
theorem dX5_shelf_26 : decode cX5_shelf 26 = .ok (.iload 4, 2) := by decide +kernel
theorem dX5_shelf_28 : decode cX5_shelf 28 = .ok (.iconst 3, 1) := by decide +kernel
theorem dX5_shelf_29 : decode cX5_shelf 29 = .ok (.invokevirtual 73, 3) := by decide +kernel
theorem dX5_shelf_32 : decode cX5_shelf 32 = .ok (.ifCond .eq 14, 3) := by decide +kernel
theorem dX5_shelf_35 : decode cX5_shelf 35 = .ok (.aload_n 0, 1) := by decide +kernel
theorem dX5_shelf_36 : decode cX5_shelf 36 = .ok (.iload 4, 2) := by decide +kernel
theorem dX5_shelf_38 : decode cX5_shelf 38 = .ok (.iconst 3, 1) := by decide +kernel
theorem dX5_shelf_39 : decode cX5_shelf 39 = .ok (.invokevirtual 73, 3) := by decide +kernel
theorem dX5_shelf_42 : decode cX5_shelf 42 = .ok (.iconst 3, 1) := by decide +kernel
theorem dX5_shelf_43 : decode cX5_shelf 43 = .ok (.if_icmp .ne 28, 3) := by decide +kernel
theorem dX5_shelf_46 : decode cX5_shelf 46 = .ok (.aload_n 0, 1) := by decide +kernel
theorem dX5_shelf_47 : decode cX5_shelf 47 = .ok (.iload 4, 2) := by decide +kernel
theorem dX5_shelf_49 : decode cX5_shelf 49 = .ok (.iconst 4, 1) := by decide +kernel
theorem dX5_shelf_50 : decode cX5_shelf 50 = .ok (.invokevirtual 73, 3) := by decide +kernel
theorem dX5_shelf_53 : decode cX5_shelf 53 = .ok (.iload_n 1, 1) := by decide +kernel
theorem dX5_shelf_54 : decode cX5_shelf 54 = .ok (.if_icmp .eq 6, 3) := by decide +kernel
theorem dX5_shelf_57 : decode cX5_shelf 57 = .ok (.goto 14, 3) := by decide +kernel
theorem dX5_shelf_60 : decode cX5_shelf 60 = .ok (.iload_n 3, 1) := by decide +kernel
theorem dX5_shelf_61 : decode cX5_shelf 61 = .ok (.iload_n 2, 1) := by decide +kernel
theorem dX5_shelf_62 : decode cX5_shelf 62 = .ok (.if_icmp .ne 6, 3) := by decide +kernel
theorem dX5_shelf_65 : decode cX5_shelf 65 = .ok (.iload 4, 2) := by decide +kernel
theorem dX5_shelf_67 : decode cX5_shelf 67 = .ok (.ireturn, 1) := by decide +kernel
theorem dX5_shelf_68 : decode cX5_shelf 68 = .ok (.iinc 3 1, 3) := by decide +kernel
theorem dX5_shelf_71 : decode cX5_shelf 71 = .ok (.iinc 4 1, 3) := by decide +kernel
theorem dX5_shelf_74 : decode cX5_shelf 74 = .ok (.goto (-60), 3) := by decide +kernel
theorem dX5_shelf_77 : decode cX5_shelf 77 = .ok (.iload_n 2, 1) := by decide +kernel
theorem dX5_shelf_78 : decode cX5_shelf 78 = .ok (.iconst (-1), 1) := by decide +kernel
theorem dX5_shelf_79 : decode cX5_shelf 79 = .ok (.if_icmp .ne 7, 3) := by decide +kernel
theorem dX5_shelf_82 : decode cX5_shelf 82 = .ok (.iload_n 3, 1) := by decide +kernel
theorem dX5_shelf_83 : decode cX5_shelf 83 = .ok (.goto 5, 3) := by decide +kernel
theorem dX5_shelf_86 : decode cX5_shelf 86 = .ok (.bipush (-2), 2) := by decide +kernel
theorem dX5_shelf_88 : decode cX5_shelf 88 = .ok (.ireturn, 1) := by decide +kernel
theorem dX5_arriving_0 : decode cX5_arriving 0 = .ok (.iload_n 1, 1) := by decide +kernel
theorem dX5_arriving_1 : decode cX5_arriving 1 = .ok (.invokestatic 93, 3) := by decide +kernel
theorem dX5_arriving_4 : decode cX5_arriving 4 = .ok (.ifCond .eq 13, 3) := by decide +kernel
theorem dX5_arriving_7 : decode cX5_arriving 7 = .ok (.aload_n 0, 1) := by decide +kernel
theorem dX5_arriving_8 : decode cX5_arriving 8 = .ok (.iconst 2, 1) := by decide +kernel
theorem dX5_arriving_9 : decode cX5_arriving 9 = .ok (.iload_n 1, 1) := by decide +kernel
theorem dX5_arriving_10 : decode cX5_arriving 10 = .ok (.iload_n 2, 1) := by decide +kernel
theorem dX5_arriving_11 : decode cX5_arriving 11 = .ok (.invokevirtual 207, 3) := by decide +kernel
theorem dX5_arriving_14 : decode cX5_arriving 14 = .ok (.goto 4, 3) := by decide +kernel
theorem dX5_arriving_17 : decode cX5_arriving 17 = .ok (.iconst (-1), 1) := by decide +kernel
theorem dX5_arriving_18 : decode cX5_arriving 18 = .ok (.ireturn, 1) := by decide +kernel
theorem dX5_feed_0 : decode cX5_feed 0 = .ok (.iload_n 1, 1) := by decide +kernel
theorem dX5_feed_1 : decode cX5_feed 1 = .ok (.bipush 32, 2) := by decide +kernel
theorem dX5_feed_3 : decode cX5_feed 3 = .ok (.bipush 126, 2) := by decide +kernel
theorem dX5_feed_5 : decode cX5_feed 5 = .ok (.invokestatic 51, 3) := by decide +kernel
theorem dX5_feed_8 : decode cX5_feed 8 = .ok (.ifCond .ne 5, 3) := by decide +kernel
theorem dX5_feed_11 : decode cX5_feed 11 = .ok (.iconst (-1), 1) := by decide +kernel
theorem dX5_feed_12 : decode cX5_feed 12 = .ok (.ireturn, 1) := by decide +kernel
theorem dX5_feed_13 : decode cX5_feed 13 = .ok (.aload_n 0, 1) := by decide +kernel
theorem dX5_feed_14 : decode cX5_feed 14 = .ok (.getfield 38, 3) := by decide +kernel
theorem dX5_feed_17 : decode cX5_feed 17 = .ok (.bipush 60, 2) := by decide +kernel
theorem dX5_feed_19 : decode cX5_feed 19 = .ok (.if_icmp .ne 6, 3) := by decide +kernel
theorem dX5_feed_22 : decode cX5_feed 22 = .ok (.bipush (-3), 2) := by decide +kernel
theorem dX5_feed_24 : decode cX5_feed 24 = .ok (.ireturn, 1) := by decide +kernel
theorem dX5_feed_25 : decode cX5_feed 25 = .ok (.aload_n 0, 1) := by decide +kernel
theorem dX5_feed_26 : decode cX5_feed 26 = .ok (.getfield 32, 3) := by decide +kernel
theorem dX5_feed_29 : decode cX5_feed 29 = .ok (.aload_n 0, 1) := by decide +kernel
theorem dX5_feed_30 : decode cX5_feed 30 = .ok (.getfield 38, 3) := by decide +kernel
theorem dX5_feed_33 : decode cX5_feed 33 = .ok (.iload_n 1, 1) := by decide +kernel
theorem dX5_feed_34 : decode cX5_feed 34 = .ok (.iastore, 1) := by decide +kernel
theorem dX5_feed_35 : decode cX5_feed 35 = .ok (.aload_n 0, 1) := by decide +kernel
theorem dX5_feed_36 : decode cX5_feed 36 = .ok (.dup, 1) := by decide +kernel
theorem dX5_feed_37 : decode cX5_feed 37 = .ok (.getfield 38, 3) := by decide +kernel
theorem dX5_feed_40 : decode cX5_feed 40 = .ok (.iconst 1, 1) := by decide +kernel
theorem dX5_feed_41 : decode cX5_feed 41 = .ok (.iadd, 1) := by decide +kernel
theorem dX5_feed_42 : decode cX5_feed 42 = .ok (.putfield 38, 3) := by decide +kernel
theorem dX5_feed_45 : decode cX5_feed 45 = .ok (.aload_n 0, 1) := by decide +kernel
theorem dX5_feed_46 : decode cX5_feed 46 = .ok (.getfield 38, 3) := by decide +kernel
theorem dX5_feed_49 : decode cX5_feed 49 = .ok (.ireturn, 1) := by decide +kernel
theorem dX5_sign_0 : decode cX5_sign 0 = .ok (.aload_n 0, 1) := by decide +kernel
theorem dX5_sign_1 : decode cX5_sign 1 = .ok (.getfield 44, 3) := by decide +kernel
theorem dX5_sign_4 : decode cX5_sign 4 = .ok (.ifCond .ne 26, 3) := by decide +kernel
theorem dX5_sign_7 : decode cX5_sign 7 = .ok (.aload_n 0, 1) := by decide +kernel
theorem dX5_sign_8 : decode cX5_sign 8 = .ok (.getfield 41, 3) := by decide +kernel
theorem dX5_sign_11 : decode cX5_sign 11 = .ok (.aload_n 0, 1) := by decide +kernel
theorem dX5_sign_12 : decode cX5_sign 12 = .ok (.getfield 38, 3) := by decide +kernel
theorem dX5_sign_15 : decode cX5_sign 15 = .ok (.if_icmp .ge 15, 3) := by decide +kernel
theorem dX5_sign_18 : decode cX5_sign 18 = .ok (.aload_n 0, 1) := by decide +kernel
theorem dX5_sign_19 : decode cX5_sign 19 = .ok (.getfield 32, 3) := by decide +kernel
theorem dX5_sign_22 : decode cX5_sign 22 = .ok (.aload_n 0, 1) := by decide +kernel
theorem dX5_sign_23 : decode cX5_sign 23 = .ok (.getfield 41, 3) := by decide +kernel
theorem dX5_sign_26 : decode cX5_sign 26 = .ok (.iaload, 1) := by decide +kernel
theorem dX5_sign_27 : decode cX5_sign 27 = .ok (.goto 5, 3) := by decide +kernel
theorem dX5_sign_30 : decode cX5_sign 30 = .ok (.bipush (-2), 2) := by decide +kernel
theorem dX5_sign_32 : decode cX5_sign 32 = .ok (.ireturn, 1) := by decide +kernel
theorem dX5_number_0 : decode cX5_number 0 = .ok (.iconst 0, 1) := by decide +kernel
theorem dX5_number_1 : decode cX5_number 1 = .ok (.istore_n 1, 1) := by decide +kernel
theorem dX5_number_2 : decode cX5_number 2 = .ok (.iconst 0, 1) := by decide +kernel
theorem dX5_number_3 : decode cX5_number 3 = .ok (.istore_n 2, 1) := by decide +kernel
theorem dX5_number_4 : decode cX5_number 4 = .ok (.iload_n 2, 1) := by decide +kernel
theorem dX5_number_5 : decode cX5_number 5 = .ok (.iconst 5, 1) := by decide +kernel
theorem dX5_number_6 : decode cX5_number 6 = .ok (.if_icmp .ge 46, 3) := by decide +kernel
theorem dX5_number_9 : decode cX5_number 9 = .ok (.aload_n 0, 1) := by decide +kernel
theorem dX5_number_10 : decode cX5_number 10 = .ok (.invokevirtual 214, 3) := by decide +kernel
theorem dX5_number_13 : decode cX5_number 13 = .ok (.bipush 48, 2) := by decide +kernel
theorem dX5_number_15 : decode cX5_number 15 = .ok (.bipush 57, 2) := by decide +kernel
theorem dX5_number_17 : decode cX5_number 17 = .ok (.invokestatic 51, 3) := by decide +kernel
theorem dX5_number_20 : decode cX5_number 20 = .ok (.ifCond .eq 32, 3) := by decide +kernel
theorem dX5_number_23 : decode cX5_number 23 = .ok (.bipush 10, 2) := by decide +kernel
theorem dX5_number_25 : decode cX5_number 25 = .ok (.iload_n 1, 1) := by decide +kernel
theorem dX5_number_26 : decode cX5_number 26 = .ok (.imul, 1) := by decide +kernel
theorem dX5_number_27 : decode cX5_number 27 = .ok (.aload_n 0, 1) := by decide +kernel
theorem dX5_number_28 : decode cX5_number 28 = .ok (.invokevirtual 214, 3) := by decide +kernel
theorem dX5_number_31 : decode cX5_number 31 = .ok (.iadd, 1) := by decide +kernel
theorem dX5_number_32 : decode cX5_number 32 = .ok (.bipush 48, 2) := by decide +kernel
theorem dX5_number_34 : decode cX5_number 34 = .ok (.isub, 1) := by decide +kernel
theorem dX5_number_35 : decode cX5_number 35 = .ok (.istore_n 1, 1) := by decide +kernel
theorem dX5_number_36 : decode cX5_number 36 = .ok (.aload_n 0, 1) := by decide +kernel
theorem dX5_number_37 : decode cX5_number 37 = .ok (.dup, 1) := by decide +kernel
theorem dX5_number_38 : decode cX5_number 38 = .ok (.getfield 41, 3) := by decide +kernel
theorem dX5_number_41 : decode cX5_number 41 = .ok (.iconst 1, 1) := by decide +kernel
theorem dX5_number_42 : decode cX5_number 42 = .ok (.iadd, 1) := by decide +kernel
theorem dX5_number_43 : decode cX5_number 43 = .ok (.putfield 41, 3) := by decide +kernel
theorem dX5_number_46 : decode cX5_number 46 = .ok (.iinc 2 1, 3) := by decide +kernel
theorem dX5_number_49 : decode cX5_number 49 = .ok (.goto (-45), 3) := by decide +kernel
theorem dX5_number_52 : decode cX5_number 52 = .ok (.aload_n 0, 1) := by decide +kernel
theorem dX5_number_53 : decode cX5_number 53 = .ok (.dup, 1) := by decide +kernel
theorem dX5_number_54 : decode cX5_number 54 = .ok (.getfield 44, 3) := by decide +kernel
theorem dX5_number_57 : decode cX5_number 57 = .ok (.iload_n 2, 1) := by decide +kernel
theorem dX5_number_58 : decode cX5_number 58 = .ok (.ifCond .ne 7, 3) := by decide +kernel
theorem dX5_number_61 : decode cX5_number 61 = .ok (.iconst 1, 1) := by decide +kernel
theorem dX5_number_62 : decode cX5_number 62 = .ok (.goto 4, 3) := by decide +kernel
theorem dX5_number_65 : decode cX5_number 65 = .ok (.iconst 0, 1) := by decide +kernel
theorem dX5_number_66 : decode cX5_number 66 = .ok (.ior, 1) := by decide +kernel
theorem dX5_number_67 : decode cX5_number 67 = .ok (.putfield 44, 3) := by decide +kernel
theorem dX5_number_70 : decode cX5_number 70 = .ok (.iload_n 1, 1) := by decide +kernel
theorem dX5_number_71 : decode cX5_number 71 = .ok (.ireturn, 1) := by decide +kernel
theorem dX5_command_0 : decode cX5_command 0 = .ok (.aload_n 0, 1) := by decide +kernel
theorem dX5_command_1 : decode cX5_command 1 = .ok (.invokevirtual 214, 3) := by decide +kernel
theorem dX5_command_4 : decode cX5_command 4 = .ok (.istore_n 1, 1) := by decide +kernel
theorem dX5_command_5 : decode cX5_command 5 = .ok (.iload_n 1, 1) := by decide +kernel
theorem dX5_command_6 : decode cX5_command 6 = .ok (.bipush 111, 2) := by decide +kernel
theorem dX5_command_8 : decode cX5_command 8 = .ok (.if_icmp .eq 21, 3) := by decide +kernel
theorem dX5_command_11 : decode cX5_command 11 = .ok (.iload_n 1, 1) := by decide +kernel
theorem dX5_command_12 : decode cX5_command 12 = .ok (.bipush 105, 2) := by decide +kernel
theorem dX5_command_14 : decode cX5_command 14 = .ok (.if_icmp .eq 15, 3) := by decide +kernel
theorem dX5_command_17 : decode cX5_command 17 = .ok (.iload_n 1, 1) := by decide +kernel
theorem dX5_command_18 : decode cX5_command 18 = .ok (.bipush 99, 2) := by decide +kernel
theorem dX5_command_20 : decode cX5_command 20 = .ok (.if_icmp .eq 9, 3) := by decide +kernel
theorem dX5_command_23 : decode cX5_command 23 = .ok (.iload_n 1, 1) := by decide +kernel
theorem dX5_command_24 : decode cX5_command 24 = .ok (.bipush 112, 2) := by decide +kernel
theorem dX5_command_26 : decode cX5_command 26 = .ok (.if_icmp .ne 7, 3) := by decide +kernel
theorem dX5_command_29 : decode cX5_command 29 = .ok (.iconst 2, 1) := by decide +kernel
theorem dX5_command_30 : decode cX5_command 30 = .ok (.goto 30, 3) := by decide +kernel
theorem dX5_command_33 : decode cX5_command 33 = .ok (.iload_n 1, 1) := by decide +kernel
theorem dX5_command_34 : decode cX5_command 34 = .ok (.bipush 104, 2) := by decide +kernel
theorem dX5_command_36 : decode cX5_command 36 = .ok (.if_icmp .ne 7, 3) := by decide +kernel
theorem dX5_command_39 : decode cX5_command 39 = .ok (.iconst 3, 1) := by decide +kernel
theorem dX5_command_40 : decode cX5_command 40 = .ok (.goto 20, 3) := by decide +kernel
theorem dX5_command_43 : decode cX5_command 43 = .ok (.iload_n 1, 1) := by decide +kernel
theorem dX5_command_44 : decode cX5_command 44 = .ok (.bipush 114, 2) := by decide +kernel
theorem dX5_command_46 : decode cX5_command 46 = .ok (.if_icmp .eq 9, 3) := by decide +kernel
theorem dX5_command_49 : decode cX5_command 49 = .ok (.iload_n 1, 1) := by decide +kernel
theorem dX5_command_50 : decode cX5_command 50 = .ok (.bipush 100, 2) := by decide +kernel
theorem dX5_command_52 : decode cX5_command 52 = .ok (.if_icmp .ne 7, 3) := by decide +kernel
theorem dX5_command_55 : decode cX5_command 55 = .ok (.iconst 1, 1) := by decide +kernel
theorem dX5_command_56 : decode cX5_command 56 = .ok (.goto 4, 3) := by decide +kernel
theorem dX5_command_59 : decode cX5_command 59 = .ok (.iconst 0, 1) := by decide +kernel
theorem dX5_command_60 : decode cX5_command 60 = .ok (.istore_n 2, 1) := by decide +kernel
theorem dX5_command_61 : decode cX5_command 61 = .ok (.aload_n 0, 1) := by decide +kernel
theorem dX5_command_62 : decode cX5_command 62 = .ok (.dup, 1) := by decide +kernel
theorem dX5_command_63 : decode cX5_command 63 = .ok (.getfield 44, 3) := by decide +kernel
theorem dX5_command_66 : decode cX5_command 66 = .ok (.iload_n 2, 1) := by decide +kernel
theorem dX5_command_67 : decode cX5_command 67 = .ok (.ifCond .ne 7, 3) := by decide +kernel
theorem dX5_command_70 : decode cX5_command 70 = .ok (.iconst 1, 1) := by decide +kernel
theorem dX5_command_71 : decode cX5_command 71 = .ok (.goto 4, 3) := by decide +kernel
theorem dX5_command_74 : decode cX5_command 74 = .ok (.iconst 0, 1) := by decide +kernel
theorem dX5_command_75 : decode cX5_command 75 = .ok (.ior, 1) := by decide +kernel
theorem dX5_command_76 : decode cX5_command 76 = .ok (.putfield 44, 3) := by decide +kernel
theorem dX5_command_79 : decode cX5_command 79 = .ok (.aload_n 0, 1) := by decide +kernel
theorem dX5_command_80 : decode cX5_command 80 = .ok (.getfield 44, 3) := by decide +kernel
theorem dX5_command_83 : decode cX5_command 83 = .ok (.ifCond .eq 6, 3) := by decide +kernel
theorem dX5_command_86 : decode cX5_command 86 = .ok (.bipush (-2), 2) := by decide +kernel
theorem dX5_command_88 : decode cX5_command 88 = .ok (.ireturn, 1) := by decide +kernel
theorem dX5_command_89 : decode cX5_command 89 = .ok (.aload_n 0, 1) := by decide +kernel
theorem dX5_command_90 : decode cX5_command 90 = .ok (.dup, 1) := by decide +kernel
theorem dX5_command_91 : decode cX5_command 91 = .ok (.getfield 41, 3) := by decide +kernel
theorem dX5_command_94 : decode cX5_command 94 = .ok (.iconst 1, 1) := by decide +kernel
theorem dX5_command_95 : decode cX5_command 95 = .ok (.iadd, 1) := by decide +kernel
theorem dX5_command_96 : decode cX5_command 96 = .ok (.putfield 41, 3) := by decide +kernel
theorem dX5_command_99 : decode cX5_command 99 = .ok (.iconst 0, 1) := by decide +kernel
theorem dX5_command_100 : decode cX5_command 100 = .ok (.istore_n 3, 1) := by decide +kernel
theorem dX5_command_101 : decode cX5_command 101 = .ok (.iload_n 3, 1) := by decide +kernel
theorem dX5_command_102 : decode cX5_command 102 = .ok (.iload_n 2, 1) := by decide +kernel
theorem dX5_command_103 : decode cX5_command 103 = .ok (.if_icmp .ge 69, 3) := by decide +kernel
theorem dX5_command_106 : decode cX5_command 106 = .ok (.aload_n 0, 1) := by decide +kernel
theorem dX5_command_107 : decode cX5_command 107 = .ok (.getfield 44, 3) := by decide +kernel
theorem dX5_command_110 : decode cX5_command 110 = .ok (.ifCond .ne 62, 3) := by decide +kernel
theorem dX5_command_113 : decode cX5_command 113 = .ok (.aload_n 0, 1) := by decide +kernel
theorem dX5_command_114 : decode cX5_command 114 = .ok (.dup, 1) := by decide +kernel
theorem dX5_command_115 : decode cX5_command 115 = .ok (.getfield 44, 3) := by decide +kernel
theorem dX5_command_118 : decode cX5_command 118 = .ok (.aload_n 0, 1) := by decide +kernel
theorem dX5_command_119 : decode cX5_command 119 = .ok (.invokevirtual 214, 3) := by decide +kernel
theorem dX5_command_122 : decode cX5_command 122 = .ok (.bipush 32, 2) := by decide +kernel
theorem dX5_command_124 : decode cX5_command 124 = .ok (.if_icmp .eq 7, 3) := by decide +kernel
theorem dX5_command_127 : decode cX5_command 127 = .ok (.iconst 1, 1) := by decide +kernel
theorem dX5_command_128 : decode cX5_command 128 = .ok (.goto 4, 3) := by decide +kernel
theorem dX5_command_131 : decode cX5_command 131 = .ok (.iconst 0, 1) := by decide +kernel
theorem dX5_command_132 : decode cX5_command 132 = .ok (.ior, 1) := by decide +kernel
theorem dX5_command_133 : decode cX5_command 133 = .ok (.putfield 44, 3) := by decide +kernel
theorem dX5_command_136 : decode cX5_command 136 = .ok (.aload_n 0, 1) := by decide +kernel
theorem dX5_command_137 : decode cX5_command 137 = .ok (.getfield 44, 3) := by decide +kernel
theorem dX5_command_140 : decode cX5_command 140 = .ok (.ifCond .eq 6, 3) := by decide +kernel
theorem dX5_command_143 : decode cX5_command 143 = .ok (.goto 23, 3) := by decide +kernel
theorem dX5_command_146 : decode cX5_command 146 = .ok (.aload_n 0, 1) := by decide +kernel
theorem dX5_command_147 : decode cX5_command 147 = .ok (.dup, 1) := by decide +kernel
theorem dX5_command_148 : decode cX5_command 148 = .ok (.getfield 41, 3) := by decide +kernel
theorem dX5_command_151 : decode cX5_command 151 = .ok (.iconst 1, 1) := by decide +kernel
theorem dX5_command_152 : decode cX5_command 152 = .ok (.iadd, 1) := by decide +kernel
theorem dX5_command_153 : decode cX5_command 153 = .ok (.putfield 41, 3) := by decide +kernel
theorem dX5_command_156 : decode cX5_command 156 = .ok (.aload_n 0, 1) := by decide +kernel
theorem dX5_command_157 : decode cX5_command 157 = .ok (.getfield 35, 3) := by decide +kernel
theorem dX5_command_160 : decode cX5_command 160 = .ok (.iload_n 3, 1) := by decide +kernel
theorem dX5_command_161 : decode cX5_command 161 = .ok (.aload_n 0, 1) := by decide +kernel
theorem dX5_command_162 : decode cX5_command 162 = .ok (.invokevirtual 218, 3) := by decide +kernel
theorem dX5_command_165 : decode cX5_command 165 = .ok (.iastore, 1) := by decide +kernel
theorem dX5_command_166 : decode cX5_command 166 = .ok (.iinc 3 1, 3) := by decide +kernel
theorem dX5_command_169 : decode cX5_command 169 = .ok (.goto (-68), 3) := by decide +kernel
theorem dX5_command_172 : decode cX5_command 172 = .ok (.iload_n 1, 1) := by decide +kernel
theorem dX5_command_173 : decode cX5_command 173 = .ok (.ireturn, 1) := by decide +kernel
theorem dX5_does_0 : decode cX5_does 0 = .ok (.iload_n 1, 1) := by decide +kernel
theorem dX5_does_1 : decode cX5_does 1 = .ok (.tableswitch 175 99 114 #[136, 164, 175, 175, 175, 113, 96, 175, 175, 175, 175, 175, 79, 175, 175, 153], 79) := by decide +kernel
theorem dX5_does_80 : decode cX5_does 80 = .ok (.aload_n 0, 1) := by decide +kernel
theorem dX5_does_81 : decode cX5_does 81 = .ok (.aload_n 0, 1) := by decide +kernel
theorem dX5_does_82 : decode cX5_does 82 = .ok (.getfield 35, 3) := by decide +kernel
theorem dX5_does_85 : decode cX5_does 85 = .ok (.iconst 0, 1) := by decide +kernel
theorem dX5_does_86 : decode cX5_does 86 = .ok (.iaload, 1) := by decide +kernel
theorem dX5_does_87 : decode cX5_does 87 = .ok (.aload_n 0, 1) := by decide +kernel
theorem dX5_does_88 : decode cX5_does 88 = .ok (.getfield 35, 3) := by decide +kernel
theorem dX5_does_91 : decode cX5_does 91 = .ok (.iconst 1, 1) := by decide +kernel
theorem dX5_does_92 : decode cX5_does 92 = .ok (.iaload, 1) := by decide +kernel
theorem dX5_does_93 : decode cX5_does 93 = .ok (.invokevirtual 153, 3) := by decide +kernel
theorem dX5_does_96 : decode cX5_does 96 = .ok (.ireturn, 1) := by decide +kernel
theorem dX5_does_97 : decode cX5_does 97 = .ok (.aload_n 0, 1) := by decide +kernel
theorem dX5_does_98 : decode cX5_does 98 = .ok (.aload_n 0, 1) := by decide +kernel
theorem dX5_does_99 : decode cX5_does 99 = .ok (.getfield 35, 3) := by decide +kernel
theorem dX5_does_102 : decode cX5_does 102 = .ok (.iconst 0, 1) := by decide +kernel
theorem dX5_does_103 : decode cX5_does 103 = .ok (.iaload, 1) := by decide +kernel
theorem dX5_does_104 : decode cX5_does 104 = .ok (.aload_n 0, 1) := by decide +kernel
theorem dX5_does_105 : decode cX5_does 105 = .ok (.getfield 35, 3) := by decide +kernel
theorem dX5_does_108 : decode cX5_does 108 = .ok (.iconst 1, 1) := by decide +kernel
theorem dX5_does_109 : decode cX5_does 109 = .ok (.iaload, 1) := by decide +kernel
theorem dX5_does_110 : decode cX5_does 110 = .ok (.invokevirtual 156, 3) := by decide +kernel
theorem dX5_does_113 : decode cX5_does 113 = .ok (.ireturn, 1) := by decide +kernel
theorem dX5_does_114 : decode cX5_does 114 = .ok (.aload_n 0, 1) := by decide +kernel
theorem dX5_does_115 : decode cX5_does 115 = .ok (.aload_n 0, 1) := by decide +kernel
theorem dX5_does_116 : decode cX5_does 116 = .ok (.getfield 35, 3) := by decide +kernel
theorem dX5_does_119 : decode cX5_does 119 = .ok (.iconst 0, 1) := by decide +kernel
theorem dX5_does_120 : decode cX5_does 120 = .ok (.iaload, 1) := by decide +kernel
theorem dX5_does_121 : decode cX5_does 121 = .ok (.aload_n 0, 1) := by decide +kernel
theorem dX5_does_122 : decode cX5_does 122 = .ok (.getfield 35, 3) := by decide +kernel
theorem dX5_does_125 : decode cX5_does 125 = .ok (.iconst 1, 1) := by decide +kernel
theorem dX5_does_126 : decode cX5_does 126 = .ok (.iaload, 1) := by decide +kernel
theorem dX5_does_127 : decode cX5_does 127 = .ok (.aload_n 0, 1) := by decide +kernel
theorem dX5_does_128 : decode cX5_does 128 = .ok (.getfield 35, 3) := by decide +kernel
theorem dX5_does_131 : decode cX5_does 131 = .ok (.iconst 2, 1) := by decide +kernel
theorem dX5_does_132 : decode cX5_does 132 = .ok (.iaload, 1) := by decide +kernel
theorem dX5_does_133 : decode cX5_does 133 = .ok (.invokevirtual 188, 3) := by decide +kernel
theorem dX5_does_136 : decode cX5_does 136 = .ok (.ireturn, 1) := by decide +kernel
theorem dX5_does_137 : decode cX5_does 137 = .ok (.aload_n 0, 1) := by decide +kernel
theorem dX5_does_138 : decode cX5_does 138 = .ok (.aload_n 0, 1) := by decide +kernel
theorem dX5_does_139 : decode cX5_does 139 = .ok (.getfield 35, 3) := by decide +kernel
theorem dX5_does_142 : decode cX5_does 142 = .ok (.iconst 0, 1) := by decide +kernel
theorem dX5_does_143 : decode cX5_does 143 = .ok (.iaload, 1) := by decide +kernel
theorem dX5_does_144 : decode cX5_does 144 = .ok (.aload_n 0, 1) := by decide +kernel
theorem dX5_does_145 : decode cX5_does 145 = .ok (.getfield 35, 3) := by decide +kernel
theorem dX5_does_148 : decode cX5_does 148 = .ok (.iconst 1, 1) := by decide +kernel
theorem dX5_does_149 : decode cX5_does 149 = .ok (.iaload, 1) := by decide +kernel
theorem dX5_does_150 : decode cX5_does 150 = .ok (.invokevirtual 195, 3) := by decide +kernel
theorem dX5_does_153 : decode cX5_does 153 = .ok (.ireturn, 1) := by decide +kernel
theorem dX5_does_154 : decode cX5_does 154 = .ok (.aload_n 0, 1) := by decide +kernel
theorem dX5_does_155 : decode cX5_does 155 = .ok (.aload_n 0, 1) := by decide +kernel
theorem dX5_does_156 : decode cX5_does 156 = .ok (.getfield 35, 3) := by decide +kernel
theorem dX5_does_159 : decode cX5_does 159 = .ok (.iconst 0, 1) := by decide +kernel
theorem dX5_does_160 : decode cX5_does 160 = .ok (.iaload, 1) := by decide +kernel
theorem dX5_does_161 : decode cX5_does 161 = .ok (.invokevirtual 165, 3) := by decide +kernel
theorem dX5_does_164 : decode cX5_does 164 = .ok (.ireturn, 1) := by decide +kernel
theorem dX5_does_165 : decode cX5_does 165 = .ok (.aload_n 0, 1) := by decide +kernel
theorem dX5_does_166 : decode cX5_does 166 = .ok (.aload_n 0, 1) := by decide +kernel
theorem dX5_does_167 : decode cX5_does 167 = .ok (.getfield 35, 3) := by decide +kernel
theorem dX5_does_170 : decode cX5_does 170 = .ok (.iconst 0, 1) := by decide +kernel
theorem dX5_does_171 : decode cX5_does 171 = .ok (.iaload, 1) := by decide +kernel
theorem dX5_does_172 : decode cX5_does 172 = .ok (.invokevirtual 138, 3) := by decide +kernel
theorem dX5_does_175 : decode cX5_does 175 = .ok (.ireturn, 1) := by decide +kernel
theorem dX5_does_176 : decode cX5_does 176 = .ok (.aload_n 0, 1) := by decide +kernel
theorem dX5_does_177 : decode cX5_does 177 = .ok (.iconst 3, 1) := by decide +kernel
theorem dX5_does_178 : decode cX5_does 178 = .ok (.aload_n 0, 1) := by decide +kernel
theorem dX5_does_179 : decode cX5_does 179 = .ok (.getfield 35, 3) := by decide +kernel
theorem dX5_does_182 : decode cX5_does 182 = .ok (.iconst 0, 1) := by decide +kernel
theorem dX5_does_183 : decode cX5_does 183 = .ok (.iaload, 1) := by decide +kernel
theorem dX5_does_184 : decode cX5_does 184 = .ok (.aload_n 0, 1) := by decide +kernel
theorem dX5_does_185 : decode cX5_does 185 = .ok (.getfield 35, 3) := by decide +kernel
theorem dX5_does_188 : decode cX5_does 188 = .ok (.iconst 1, 1) := by decide +kernel
theorem dX5_does_189 : decode cX5_does 189 = .ok (.iaload, 1) := by decide +kernel
theorem dX5_does_190 : decode cX5_does 190 = .ok (.invokevirtual 210, 3) := by decide +kernel
theorem dX5_does_193 : decode cX5_does 193 = .ok (.ireturn, 1) := by decide +kernel
theorem dX5_execute_0 : decode cX5_execute 0 = .ok (.aload_n 0, 1) := by decide +kernel
theorem dX5_execute_1 : decode cX5_execute 1 = .ok (.iconst 0, 1) := by decide +kernel
theorem dX5_execute_2 : decode cX5_execute 2 = .ok (.putfield 41, 3) := by decide +kernel
theorem dX5_execute_5 : decode cX5_execute 5 = .ok (.aload_n 0, 1) := by decide +kernel
theorem dX5_execute_6 : decode cX5_execute 6 = .ok (.iconst 0, 1) := by decide +kernel
theorem dX5_execute_7 : decode cX5_execute 7 = .ok (.putfield 44, 3) := by decide +kernel
theorem dX5_execute_10 : decode cX5_execute 10 = .ok (.aload_n 0, 1) := by decide +kernel
theorem dX5_execute_11 : decode cX5_execute 11 = .ok (.invokevirtual 221, 3) := by decide +kernel
theorem dX5_execute_14 : decode cX5_execute 14 = .ok (.istore_n 1, 1) := by decide +kernel
theorem dX5_execute_15 : decode cX5_execute 15 = .ok (.aload_n 0, 1) := by decide +kernel
theorem dX5_execute_16 : decode cX5_execute 16 = .ok (.invokevirtual 214, 3) := by decide +kernel
theorem dX5_execute_19 : decode cX5_execute 19 = .ok (.bipush 59, 2) := by decide +kernel
theorem dX5_execute_21 : decode cX5_execute 21 = .ok (.if_icmp .ne 21, 3) := by decide +kernel
theorem dX5_execute_24 : decode cX5_execute 24 = .ok (.aload_n 0, 1) := by decide +kernel
theorem dX5_execute_25 : decode cX5_execute 25 = .ok (.dup, 1) := by decide +kernel
theorem dX5_execute_26 : decode cX5_execute 26 = .ok (.getfield 41, 3) := by decide +kernel
theorem dX5_execute_29 : decode cX5_execute 29 = .ok (.iconst 1, 1) := by decide +kernel
theorem dX5_execute_30 : decode cX5_execute 30 = .ok (.iadd, 1) := by decide +kernel
theorem dX5_execute_31 : decode cX5_execute 31 = .ok (.putfield 41, 3) := by decide +kernel
theorem dX5_execute_34 : decode cX5_execute 34 = .ok (.aload_n 0, 1) := by decide +kernel
theorem dX5_execute_35 : decode cX5_execute 35 = .ok (.invokevirtual 221, 3) := by decide +kernel
theorem dX5_execute_38 : decode cX5_execute 38 = .ok (.istore_n 1, 1) := by decide +kernel
theorem dX5_execute_39 : decode cX5_execute 39 = .ok (.goto (-24), 3) := by decide +kernel
theorem dX5_execute_42 : decode cX5_execute 42 = .ok (.aload_n 0, 1) := by decide +kernel
theorem dX5_execute_43 : decode cX5_execute 43 = .ok (.getfield 44, 3) := by decide +kernel
theorem dX5_execute_46 : decode cX5_execute 46 = .ok (.ifCond .ne 14, 3) := by decide +kernel
theorem dX5_execute_49 : decode cX5_execute 49 = .ok (.aload_n 0, 1) := by decide +kernel
theorem dX5_execute_50 : decode cX5_execute 50 = .ok (.getfield 41, 3) := by decide +kernel
theorem dX5_execute_53 : decode cX5_execute 53 = .ok (.aload_n 0, 1) := by decide +kernel
theorem dX5_execute_54 : decode cX5_execute 54 = .ok (.getfield 38, 3) := by decide +kernel
theorem dX5_execute_57 : decode cX5_execute 57 = .ok (.if_icmp .ge 17, 3) := by decide +kernel
theorem dX5_execute_60 : decode cX5_execute 60 = .ok (.aload_n 0, 1) := by decide +kernel
theorem dX5_execute_61 : decode cX5_execute 61 = .ok (.iconst 0, 1) := by decide +kernel
theorem dX5_execute_62 : decode cX5_execute 62 = .ok (.putfield 38, 3) := by decide +kernel
theorem dX5_execute_65 : decode cX5_execute 65 = .ok (.sipush (-200), 3) := by decide +kernel
theorem dX5_execute_68 : decode cX5_execute 68 = .ok (.aload_n 0, 1) := by decide +kernel
theorem dX5_execute_69 : decode cX5_execute 69 = .ok (.getfield 41, 3) := by decide +kernel
theorem dX5_execute_72 : decode cX5_execute 72 = .ok (.isub, 1) := by decide +kernel
theorem dX5_execute_73 : decode cX5_execute 73 = .ok (.ireturn, 1) := by decide +kernel
theorem dX5_execute_74 : decode cX5_execute 74 = .ok (.aload_n 0, 1) := by decide +kernel
theorem dX5_execute_75 : decode cX5_execute 75 = .ok (.invokevirtual 96, 3) := by decide +kernel
theorem dX5_execute_78 : decode cX5_execute 78 = .ok (.aload_n 0, 1) := by decide +kernel
theorem dX5_execute_79 : decode cX5_execute 79 = .ok (.iconst 0, 1) := by decide +kernel
theorem dX5_execute_80 : decode cX5_execute 80 = .ok (.putfield 41, 3) := by decide +kernel
theorem dX5_execute_83 : decode cX5_execute 83 = .ok (.iconst 0, 1) := by decide +kernel
theorem dX5_execute_84 : decode cX5_execute 84 = .ok (.istore_n 2, 1) := by decide +kernel
theorem dX5_execute_85 : decode cX5_execute 85 = .ok (.aload_n 0, 1) := by decide +kernel
theorem dX5_execute_86 : decode cX5_execute 86 = .ok (.getfield 41, 3) := by decide +kernel
theorem dX5_execute_89 : decode cX5_execute 89 = .ok (.aload_n 0, 1) := by decide +kernel
theorem dX5_execute_90 : decode cX5_execute 90 = .ok (.getfield 38, 3) := by decide +kernel
theorem dX5_execute_93 : decode cX5_execute 93 = .ok (.if_icmp .ge 60, 3) := by decide +kernel
theorem dX5_execute_96 : decode cX5_execute 96 = .ok (.iload_n 2, 1) := by decide +kernel
theorem dX5_execute_97 : decode cX5_execute 97 = .ok (.ifCond .le 13, 3) := by decide +kernel
theorem dX5_execute_100 : decode cX5_execute 100 = .ok (.aload_n 0, 1) := by decide +kernel
theorem dX5_execute_101 : decode cX5_execute 101 = .ok (.dup, 1) := by decide +kernel
theorem dX5_execute_102 : decode cX5_execute 102 = .ok (.getfield 41, 3) := by decide +kernel
theorem dX5_execute_105 : decode cX5_execute 105 = .ok (.iconst 1, 1) := by decide +kernel
theorem dX5_execute_106 : decode cX5_execute 106 = .ok (.iadd, 1) := by decide +kernel
theorem dX5_execute_107 : decode cX5_execute 107 = .ok (.putfield 41, 3) := by decide +kernel
theorem dX5_execute_110 : decode cX5_execute 110 = .ok (.aload_n 0, 1) := by decide +kernel
theorem dX5_execute_111 : decode cX5_execute 111 = .ok (.invokevirtual 221, 3) := by decide +kernel
theorem dX5_execute_114 : decode cX5_execute 114 = .ok (.istore_n 1, 1) := by decide +kernel
theorem dX5_execute_115 : decode cX5_execute 115 = .ok (.aload_n 0, 1) := by decide +kernel
theorem dX5_execute_116 : decode cX5_execute 116 = .ok (.iload_n 1, 1) := by decide +kernel
theorem dX5_execute_117 : decode cX5_execute 117 = .ok (.invokevirtual 224, 3) := by decide +kernel
theorem dX5_execute_120 : decode cX5_execute 120 = .ok (.ifCond .ge 27, 3) := by decide +kernel
theorem dX5_execute_123 : decode cX5_execute 123 = .ok (.aload_n 0, 1) := by decide +kernel
theorem dX5_execute_124 : decode cX5_execute 124 = .ok (.getfield 15, 3) := by decide +kernel
theorem dX5_execute_127 : decode cX5_execute 127 = .ok (.iconst 0, 1) := by decide +kernel
theorem dX5_execute_128 : decode cX5_execute 128 = .ok (.aload_n 0, 1) := by decide +kernel
theorem dX5_execute_129 : decode cX5_execute 129 = .ok (.getfield 11, 3) := by decide +kernel
theorem dX5_execute_132 : decode cX5_execute 132 = .ok (.iconst 0, 1) := by decide +kernel
theorem dX5_execute_133 : decode cX5_execute 133 = .ok (.invokestatic 47, 3) := by decide +kernel
theorem dX5_execute_136 : decode cX5_execute 136 = .ok (.aload_n 0, 1) := by decide +kernel
theorem dX5_execute_137 : decode cX5_execute 137 = .ok (.iconst 0, 1) := by decide +kernel
theorem dX5_execute_138 : decode cX5_execute 138 = .ok (.putfield 38, 3) := by decide +kernel
theorem dX5_execute_141 : decode cX5_execute 141 = .ok (.sipush (-300), 3) := by decide +kernel
theorem dX5_execute_144 : decode cX5_execute 144 = .ok (.iload_n 2, 1) := by decide +kernel
theorem dX5_execute_145 : decode cX5_execute 145 = .ok (.isub, 1) := by decide +kernel
theorem dX5_execute_146 : decode cX5_execute 146 = .ok (.ireturn, 1) := by decide +kernel
theorem dX5_execute_147 : decode cX5_execute 147 = .ok (.iinc 2 1, 3) := by decide +kernel
theorem dX5_execute_150 : decode cX5_execute 150 = .ok (.goto (-65), 3) := by decide +kernel
theorem dX5_execute_153 : decode cX5_execute 153 = .ok (.aload_n 0, 1) := by decide +kernel
theorem dX5_execute_154 : decode cX5_execute 154 = .ok (.iconst 0, 1) := by decide +kernel
theorem dX5_execute_155 : decode cX5_execute 155 = .ok (.putfield 38, 3) := by decide +kernel
theorem dX5_execute_158 : decode cX5_execute 158 = .ok (.aload_n 0, 1) := by decide +kernel
theorem dX5_execute_159 : decode cX5_execute 159 = .ok (.iload_n 2, 1) := by decide +kernel
theorem dX5_execute_160 : decode cX5_execute 160 = .ok (.invokevirtual 103, 3) := by decide +kernel
theorem dX5_execute_163 : decode cX5_execute 163 = .ok (.ireturn, 1) := by decide +kernel
theorem dX5_save_0 : decode cX5_save 0 = .ok (.aload_n 0, 1) := by decide +kernel
theorem dX5_save_1 : decode cX5_save 1 = .ok (.getfield 11, 3) := by decide +kernel
theorem dX5_save_4 : decode cX5_save 4 = .ok (.iconst 0, 1) := by decide +kernel
theorem dX5_save_5 : decode cX5_save 5 = .ok (.aload_n 0, 1) := by decide +kernel
theorem dX5_save_6 : decode cX5_save 6 = .ok (.getfield 18, 3) := by decide +kernel
theorem dX5_save_9 : decode cX5_save 9 = .ok (.iconst 0, 1) := by decide +kernel
theorem dX5_save_10 : decode cX5_save 10 = .ok (.invokestatic 47, 3) := by decide +kernel
theorem dX5_save_13 : decode cX5_save 13 = .ok (.aload_n 0, 1) := by decide +kernel
theorem dX5_save_14 : decode cX5_save 14 = .ok (.iconst 1, 1) := by decide +kernel
theorem dX5_save_15 : decode cX5_save 15 = .ok (.putfield 28, 3) := by decide +kernel
theorem dX5_save_18 : decode cX5_save 18 = .ok (.aload_n 0, 1) := by decide +kernel
theorem dX5_save_19 : decode cX5_save 19 = .ok (.getfield 11, 3) := by decide +kernel
theorem dX5_save_22 : decode cX5_save 22 = .ok (.iconst 0, 1) := by decide +kernel
theorem dX5_save_23 : decode cX5_save 23 = .ok (.iaload, 1) := by decide +kernel
theorem dX5_save_24 : decode cX5_save 24 = .ok (.ireturn, 1) := by decide +kernel
theorem dX5_restore_0 : decode cX5_restore 0 = .ok (.aload_n 0, 1) := by decide +kernel
theorem dX5_restore_1 : decode cX5_restore 1 = .ok (.getfield 28, 3) := by decide +kernel
theorem dX5_restore_4 : decode cX5_restore 4 = .ok (.ifCond .ne 6, 3) := by decide +kernel
theorem dX5_restore_7 : decode cX5_restore 7 = .ok (.bipush (-2), 2) := by decide +kernel
theorem dX5_restore_9 : decode cX5_restore 9 = .ok (.ireturn, 1) := by decide +kernel
theorem dX5_restore_10 : decode cX5_restore 10 = .ok (.aload_n 0, 1) := by decide +kernel
theorem dX5_restore_11 : decode cX5_restore 11 = .ok (.invokevirtual 96, 3) := by decide +kernel
theorem dX5_restore_14 : decode cX5_restore 14 = .ok (.aload_n 0, 1) := by decide +kernel
theorem dX5_restore_15 : decode cX5_restore 15 = .ok (.getfield 18, 3) := by decide +kernel
theorem dX5_restore_18 : decode cX5_restore 18 = .ok (.iconst 0, 1) := by decide +kernel
theorem dX5_restore_19 : decode cX5_restore 19 = .ok (.aload_n 0, 1) := by decide +kernel
theorem dX5_restore_20 : decode cX5_restore 20 = .ok (.getfield 11, 3) := by decide +kernel
theorem dX5_restore_23 : decode cX5_restore 23 = .ok (.iconst 0, 1) := by decide +kernel
theorem dX5_restore_24 : decode cX5_restore 24 = .ok (.invokestatic 47, 3) := by decide +kernel
theorem dX5_restore_27 : decode cX5_restore 27 = .ok (.aload_n 0, 1) := by decide +kernel
theorem dX5_restore_28 : decode cX5_restore 28 = .ok (.aload_n 0, 1) := by decide +kernel
theorem dX5_restore_29 : decode cX5_restore 29 = .ok (.getfield 11, 3) := by decide +kernel
theorem dX5_restore_32 : decode cX5_restore 32 = .ok (.iconst 0, 1) := by decide +kernel
theorem dX5_restore_33 : decode cX5_restore 33 = .ok (.iaload, 1) := by decide +kernel
theorem dX5_restore_34 : decode cX5_restore 34 = .ok (.invokevirtual 103, 3) := by decide +kernel
theorem dX5_restore_37 : decode cX5_restore 37 = .ok (.ireturn, 1) := by decide +kernel
theorem dX5_undo_0 : decode cX5_undo 0 = .ok (.aload_n 0, 1) := by decide +kernel
theorem dX5_undo_1 : decode cX5_undo 1 = .ok (.getfield 24, 3) := by decide +kernel
theorem dX5_undo_4 : decode cX5_undo 4 = .ok (.ifCond .ne 6, 3) := by decide +kernel
theorem dX5_undo_7 : decode cX5_undo 7 = .ok (.bipush (-2), 2) := by decide +kernel
theorem dX5_undo_9 : decode cX5_undo 9 = .ok (.ireturn, 1) := by decide +kernel
theorem dX5_undo_10 : decode cX5_undo 10 = .ok (.aload_n 0, 1) := by decide +kernel
theorem dX5_undo_11 : decode cX5_undo 11 = .ok (.dup, 1) := by decide +kernel
theorem dX5_undo_12 : decode cX5_undo 12 = .ok (.getfield 24, 3) := by decide +kernel
theorem dX5_undo_15 : decode cX5_undo 15 = .ok (.iconst 1, 1) := by decide +kernel
theorem dX5_undo_16 : decode cX5_undo 16 = .ok (.isub, 1) := by decide +kernel
theorem dX5_undo_17 : decode cX5_undo 17 = .ok (.putfield 24, 3) := by decide +kernel
theorem dX5_undo_20 : decode cX5_undo 20 = .ok (.aload_n 0, 1) := by decide +kernel
theorem dX5_undo_21 : decode cX5_undo 21 = .ok (.getfield 21, 3) := by decide +kernel
theorem dX5_undo_24 : decode cX5_undo 24 = .ok (.sipush 681, 3) := by decide +kernel
theorem dX5_undo_27 : decode cX5_undo 27 = .ok (.aload_n 0, 1) := by decide +kernel
theorem dX5_undo_28 : decode cX5_undo 28 = .ok (.getfield 24, 3) := by decide +kernel
theorem dX5_undo_31 : decode cX5_undo 31 = .ok (.imul, 1) := by decide +kernel
theorem dX5_undo_32 : decode cX5_undo 32 = .ok (.aload_n 0, 1) := by decide +kernel
theorem dX5_undo_33 : decode cX5_undo 33 = .ok (.getfield 11, 3) := by decide +kernel
theorem dX5_undo_36 : decode cX5_undo 36 = .ok (.iconst 0, 1) := by decide +kernel
theorem dX5_undo_37 : decode cX5_undo 37 = .ok (.invokestatic 47, 3) := by decide +kernel
theorem dX5_undo_40 : decode cX5_undo 40 = .ok (.aload_n 0, 1) := by decide +kernel
theorem dX5_undo_41 : decode cX5_undo 41 = .ok (.getfield 24, 3) := by decide +kernel
theorem dX5_undo_44 : decode cX5_undo 44 = .ok (.ireturn, 1) := by decide +kernel
