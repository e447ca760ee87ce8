theorem dX7_isAhead_10 : decode cX7_isAhead 10 = .ok (.iload_n 2, 1) := by decide +kernel
theorem dX7_isAhead_11 : decode cX7_isAhead 11 = .ok (.iaload, 1) := by decide +kernel
theorem dX7_isAhead_12 : decode cX7_isAhead 12 = .ok (.if_icmp .eq 24, 3) := by decide +kernel
theorem dX7_isAhead_15 : decode cX7_isAhead 15 = .ok (.aload_n 0, 1) := by decide +kernel
theorem dX7_isAhead_16 : decode cX7_isAhead 16 = .ok (.getfield 43, 3) := by decide +kernel
theorem dX7_isAhead_19 : decode cX7_isAhead 19 = .ok (.iload_n 1, 1) := by decide +kernel
theorem dX7_isAhead_20 : decode cX7_isAhead 20 = .ok (.iaload, 1) := by decide +kernel
theorem dX7_isAhead_21 : decode cX7_isAhead 21 = .ok (.aload_n 0, 1) := by decide +kernel
theorem dX7_isAhead_22 : decode cX7_isAhead 22 = .ok (.getfield 43, 3) := by decide +kernel
theorem dX7_isAhead_25 : decode cX7_isAhead 25 = .ok (.iload_n 2, 1) := by decide +kernel
theorem dX7_isAhead_26 : decode cX7_isAhead 26 = .ok (.iaload, 1) := by decide +kernel
theorem dX7_isAhead_27 : decode cX7_isAhead 27 = .ok (.if_icmp .ge 7, 3) := by decide +kernel
theorem dX7_isAhead_30 : decode cX7_isAhead 30 = .ok (.iconst 1, 1) := by decide +kernel
theorem dX7_isAhead_31 : decode cX7_isAhead 31 = .ok (.goto 4, 3) := by decide +kernel
theorem dX7_isAhead_34 : decode cX7_isAhead 34 = .ok (.iconst 0, 1) := by decide +kernel
theorem dX7_isAhead_35 : decode cX7_isAhead 35 = .ok (.ireturn, 1) := by decide +kernel
theorem dX7_isAhead_36 : decode cX7_isAhead 36 = .ok (.aload_n 0, 1) := by decide +kernel
theorem dX7_isAhead_37 : decode cX7_isAhead 37 = .ok (.getfield 19, 3) := by decide +kernel
theorem dX7_isAhead_40 : decode cX7_isAhead 40 = .ok (.iload_n 1, 1) := by decide +kernel
theorem dX7_isAhead_41 : decode cX7_isAhead 41 = .ok (.iaload, 1) := by decide +kernel
theorem dX7_isAhead_42 : decode cX7_isAhead 42 = .ok (.aload_n 0, 1) := by decide +kernel
theorem dX7_isAhead_43 : decode cX7_isAhead 43 = .ok (.getfield 19, 3) := by decide +kernel
theorem dX7_isAhead_46 : decode cX7_isAhead 46 = .ok (.iload_n 2, 1) := by decide +kernel
theorem dX7_isAhead_47 : decode cX7_isAhead 47 = .ok (.iaload, 1) := by decide +kernel
theorem dX7_isAhead_48 : decode cX7_isAhead 48 = .ok (.if_icmp .eq 24, 3) := by decide +kernel
theorem dX7_isAhead_51 : decode cX7_isAhead 51 = .ok (.aload_n 0, 1) := by decide +kernel
theorem dX7_isAhead_52 : decode cX7_isAhead 52 = .ok (.getfield 19, 3) := by decide +kernel
theorem dX7_isAhead_55 : decode cX7_isAhead 55 = .ok (.iload_n 1, 1) := by decide +kernel
theorem dX7_isAhead_56 : decode cX7_isAhead 56 = .ok (.iaload, 1) := by decide +kernel
theorem dX7_isAhead_57 : decode cX7_isAhead 57 = .ok (.aload_n 0, 1) := by decide +kernel
theorem dX7_isAhead_58 : decode cX7_isAhead 58 = .ok (.getfield 19, 3) := by decide +kernel
theorem dX7_isAhead_61 : decode cX7_isAhead 61 = .ok (.iload_n 2, 1) := by decide +kernel
theorem dX7_isAhead_62 : decode cX7_isAhead 62 = .ok (.iaload, 1) := by decide +kernel
theorem dX7_isAhead_63 : decode cX7_isAhead 63 = .ok (.if_icmp .ge 7, 3) := by decide +kernel
theorem dX7_isAhead_66 : decode cX7_isAhead 66 = .ok (.iconst 1, 1) := by decide +kernel
theorem dX7_isAhead_67 : decode cX7_isAhead 67 = .ok (.goto 4, 3) := by decide +kernel
theorem dX7_isAhead_70 : decode cX7_isAhead 70 = .ok (.iconst 0, 1) := by decide +kernel
theorem dX7_isAhead_71 : decode cX7_isAhead 71 = .ok (.ireturn, 1) := by decide +kernel
theorem dX7_isAhead_72 : decode cX7_isAhead 72 = .ok (.aload_n 0, 1) := by decide +kernel
theorem dX7_isAhead_73 : decode cX7_isAhead 73 = .ok (.getfield 22, 3) := by decide +kernel
theorem dX7_isAhead_76 : decode cX7_isAhead 76 = .ok (.iload_n 1, 1) := by decide +kernel
theorem dX7_isAhead_77 : decode cX7_isAhead 77 = .ok (.iaload, 1) := by decide +kernel
theorem dX7_isAhead_78 : decode cX7_isAhead 78 = .ok (.aload_n 0, 1) := by decide +kernel
theorem dX7_isAhead_79 : decode cX7_isAhead 79 = .ok (.getfield 22, 3) := by decide +kernel
theorem dX7_isAhead_82 : decode cX7_isAhead 82 = .ok (.iload_n 2, 1) := by decide +kernel
theorem dX7_isAhead_83 : decode cX7_isAhead 83 = .ok (.iaload, 1) := by decide +kernel
theorem dX7_isAhead_84 : decode cX7_isAhead 84 = .ok (.if_icmp .eq 26, 3) := by decide +kernel
theorem dX7_isAhead_87 : decode cX7_isAhead 87 = .ok (.aload_n 0, 1) := by decide +kernel
theorem dX7_isAhead_88 : decode cX7_isAhead 88 = .ok (.getfield 22, 3) := by decide +kernel
theorem dX7_isAhead_91 : decode cX7_isAhead 91 = .ok (.iload_n 1, 1) := by decide +kernel
theorem dX7_isAhead_92 : decode cX7_isAhead 92 = .ok (.iaload, 1) := by decide +kernel
theorem dX7_isAhead_93 : decode cX7_isAhead 93 = .ok (.aload_n 0, 1) := by decide +kernel
theorem dX7_isAhead_94 : decode cX7_isAhead 94 = .ok (.getfield 22, 3) := by decide +kernel
theorem dX7_isAhead_97 : decode cX7_isAhead 97 = .ok (.iload_n 2, 1) := by decide +kernel
theorem dX7_isAhead_98 : decode cX7_isAhead 98 = .ok (.iaload, 1) := by decide +kernel
theorem dX7_isAhead_99 : decode cX7_isAhead 99 = .ok (.if_icmp .ge 7, 3) := by decide +kernel
theorem dX7_isAhead_102 : decode cX7_isAhead 102 = .ok (.iconst 1, 1) := by decide +kernel
theorem dX7_isAhead_103 : decode cX7_isAhead 103 = .ok (.goto 17, 3) := by decide +kernel
theorem dX7_isAhead_106 : decode cX7_isAhead 106 = .ok (.iconst 0, 1) := by decide +kernel
theorem dX7_isAhead_107 : decode cX7_isAhead 107 = .ok (.goto 13, 3) := by decide +kernel
theorem dX7_isAhead_110 : decode cX7_isAhead 110 = .ok (.iload_n 1, 1) := by decide +kernel
theorem dX7_isAhead_111 : decode cX7_isAhead 111 = .ok (.iload_n 2, 1) := by decide +kernel
theorem dX7_isAhead_112 : decode cX7_isAhead 112 = .ok (.if_icmp .ge 7, 3) := by decide +kernel
theorem dX7_isAhead_115 : decode cX7_isAhead 115 = .ok (.iconst 1, 1) := by decide +kernel
theorem dX7_isAhead_116 : decode cX7_isAhead 116 = .ok (.goto 4, 3) := by decide +kernel
theorem dX7_isAhead_119 : decode cX7_isAhead 119 = .ok (.iconst 0, 1) := by decide +kernel
theorem dX7_isAhead_120 : decode cX7_isAhead 120 = .ok (.ireturn, 1) := by decide +kernel
theorem dX7_findStages_0 : decode cX7_findStages 0 = .ok (.iconst 0, 1) := by decide +kernel
theorem dX7_findStages_1 : decode cX7_findStages 1 = .ok (.istore_n 1, 1) := by decide +kernel
theorem dX7_findStages_2 : decode cX7_findStages 2 = .ok (.iload_n 1, 1) := by decide +kernel
theorem dX7_findStages_3 : decode cX7_findStages 3 = .ok (.aload_n 0, 1) := by decide +kernel
theorem dX7_findStages_4 : decode cX7_findStages 4 = .ok (.getfield 203, 3) := by decide +kernel
theorem dX7_findStages_7 : decode cX7_findStages 7 = .ok (.if_icmp .ge 94, 3) := by decide +kernel
theorem dX7_findStages_10 : decode cX7_findStages 10 = .ok (.aload_n 0, 1) := by decide +kernel
theorem dX7_findStages_11 : decode cX7_findStages 11 = .ok (.getfield 43, 3) := by decide +kernel
theorem dX7_findStages_14 : decode cX7_findStages 14 = .ok (.iload_n 1, 1) := by decide +kernel
theorem dX7_findStages_15 : decode cX7_findStages 15 = .ok (.iconst 0, 1) := by decide +kernel
theorem dX7_findStages_16 : decode cX7_findStages 16 = .ok (.iastore, 1) := by decide +kernel
theorem dX7_findStages_17 : decode cX7_findStages 17 = .ok (.iconst 0, 1) := by decide +kernel
theorem dX7_findStages_18 : decode cX7_findStages 18 = .ok (.istore_n 2, 1) := by decide +kernel
theorem dX7_findStages_19 : decode cX7_findStages 19 = .ok (.iload_n 2, 1) := by decide +kernel
theorem dX7_findStages_20 : decode cX7_findStages 20 = .ok (.iload_n 1, 1) := by decide +kernel
theorem dX7_findStages_21 : decode cX7_findStages 21 = .ok (.if_icmp .ge 74, 3) := by decide +kernel
theorem dX7_findStages_24 : decode cX7_findStages 24 = .ok (.aload_n 0, 1) := by decide +kernel
theorem dX7_findStages_25 : decode cX7_findStages 25 = .ok (.aload_n 0, 1) := by decide +kernel
theorem dX7_findStages_26 : decode cX7_findStages 26 = .ok (.iload_n 2, 1) := by decide +kernel
theorem dX7_findStages_27 : decode cX7_findStages 27 = .ok (.invokevirtual 209, 3) := by decide +kernel
theorem dX7_findStages_30 : decode cX7_findStages 30 = .ok (.aload_n 0, 1) := by decide +kernel
theorem dX7_findStages_31 : decode cX7_findStages 31 = .ok (.iload_n 1, 1) := by decide +kernel
theorem dX7_findStages_32 : decode cX7_findStages 32 = .ok (.invokevirtual 209, 3) := by decide +kernel
theorem dX7_findStages_35 : decode cX7_findStages 35 = .ok (.invokevirtual 200, 3) := by decide +kernel
theorem dX7_findStages_38 : decode cX7_findStages 38 = .ok (.ifCond .eq 7, 3) := by decide +kernel
theorem dX7_findStages_41 : decode cX7_findStages 41 = .ok (.iconst 1, 1) := by decide +kernel
theorem dX7_findStages_42 : decode cX7_findStages 42 = .ok (.goto 4, 3) := by decide +kernel
theorem dX7_findStages_45 : decode cX7_findStages 45 = .ok (.iconst 0, 1) := by decide +kernel
theorem dX7_findStages_46 : decode cX7_findStages 46 = .ok (.istore_n 3, 1) := by decide +kernel
theorem dX7_findStages_47 : decode cX7_findStages 47 = .ok (.aload_n 0, 1) := by decide +kernel
theorem dX7_findStages_48 : decode cX7_findStages 48 = .ok (.getfield 43, 3) := by decide +kernel
theorem dX7_findStages_51 : decode cX7_findStages 51 = .ok (.iload_n 1, 1) := by decide +kernel
theorem dX7_findStages_52 : decode cX7_findStages 52 = .ok (.iload_n 3, 1) := by decide +kernel
theorem dX7_findStages_53 : decode cX7_findStages 53 = .ok (.ifCond .eq 29, 3) := by decide +kernel
theorem dX7_findStages_56 : decode cX7_findStages 56 = .ok (.aload_n 0, 1) := by decide +kernel
theorem dX7_findStages_57 : decode cX7_findStages 57 = .ok (.getfield 43, 3) := by decide +kernel
theorem dX7_findStages_60 : decode cX7_findStages 60 = .ok (.iload_n 2, 1) := by decide +kernel
theorem dX7_findStages_61 : decode cX7_findStages 61 = .ok (.iaload, 1) := by decide +kernel
theorem dX7_findStages_62 : decode cX7_findStages 62 = .ok (.aload_n 0, 1) := by decide +kernel
theorem dX7_findStages_63 : decode cX7_findStages 63 = .ok (.getfield 43, 3) := by decide +kernel
theorem dX7_findStages_66 : decode cX7_findStages 66 = .ok (.iload_n 1, 1) := by decide +kernel
theorem dX7_findStages_67 : decode cX7_findStages 67 = .ok (.iaload, 1) := by decide +kernel
theorem dX7_findStages_68 : decode cX7_findStages 68 = .ok (.if_icmp .lt 14, 3) := by decide +kernel
theorem dX7_findStages_71 : decode cX7_findStages 71 = .ok (.aload_n 0, 1) := by decide +kernel
theorem dX7_findStages_72 : decode cX7_findStages 72 = .ok (.getfield 43, 3) := by decide +kernel
theorem dX7_findStages_75 : decode cX7_findStages 75 = .ok (.iload_n 2, 1) := by decide +kernel
theorem dX7_findStages_76 : decode cX7_findStages 76 = .ok (.iaload, 1) := by decide +kernel
theorem dX7_findStages_77 : decode cX7_findStages 77 = .ok (.iconst 1, 1) := by decide +kernel
theorem dX7_findStages_78 : decode cX7_findStages 78 = .ok (.iadd, 1) := by decide +kernel
theorem dX7_findStages_79 : decode cX7_findStages 79 = .ok (.goto 9, 3) := by decide +kernel
theorem dX7_findStages_82 : decode cX7_findStages 82 = .ok (.aload_n 0, 1) := by decide +kernel
theorem dX7_findStages_83 : decode cX7_findStages 83 = .ok (.getfield 43, 3) := by decide +kernel
theorem dX7_findStages_86 : decode cX7_findStages 86 = .ok (.iload_n 1, 1) := by decide +kernel
theorem dX7_findStages_87 : decode cX7_findStages 87 = .ok (.iaload, 1) := by decide +kernel
theorem dX7_findStages_88 : decode cX7_findStages 88 = .ok (.iastore, 1) := by decide +kernel
theorem dX7_findStages_89 : decode cX7_findStages 89 = .ok (.iinc 2 1, 3) := by decide +kernel
theorem dX7_findStages_92 : decode cX7_findStages 92 = .ok (.goto (-73), 3) := by decide +kernel
theorem dX7_findStages_95 : decode cX7_findStages 95 = .ok (.iinc 1 1, 3) := by decide +kernel
theorem dX7_findStages_98 : decode cX7_findStages 98 = .ok (.goto (-96), 3) := by decide +kernel
theorem dX7_findStages_101 : decode cX7_findStages 101 = .ok (.iconst 0, 1) := by decide +kernel
theorem dX7_findStages_102 : decode cX7_findStages 102 = .ok (.istore_n 1, 1) := by decide +kernel
theorem dX7_findStages_103 : decode cX7_findStages 103 = .ok (.iload_n 1, 1) := by decide +kernel
theorem dX7_findStages_104 : decode cX7_findStages 104 = .ok (.aload_n 0, 1) := by decide +kernel
theorem dX7_findStages_105 : decode cX7_findStages 105 = .ok (.getfield 203, 3) := by decide +kernel
theorem dX7_findStages_108 : decode cX7_findStages 108 = .ok (.if_icmp .ge 55, 3) := by decide +kernel
theorem dX7_findStages_111 : decode cX7_findStages 111 = .ok (.aload_n 0, 1) := by decide +kernel
theorem dX7_findStages_112 : decode cX7_findStages 112 = .ok (.getfield 46, 3) := by decide +kernel
theorem dX7_findStages_115 : decode cX7_findStages 115 = .ok (.iload_n 1, 1) := by decide +kernel
theorem dX7_findStages_116 : decode cX7_findStages 116 = .ok (.iconst 0, 1) := by decide +kernel
theorem dX7_findStages_117 : decode cX7_findStages 117 = .ok (.iastore, 1) := by decide +kernel
theorem dX7_findStages_118 : decode cX7_findStages 118 = .ok (.iconst 0, 1) := by decide +kernel
theorem dX7_findStages_119 : decode cX7_findStages 119 = .ok (.istore_n 2, 1) := by decide +kernel
theorem dX7_findStages_120 : decode cX7_findStages 120 = .ok (.iload_n 2, 1) := by decide +kernel
theorem dX7_findStages_121 : decode cX7_findStages 121 = .ok (.aload_n 0, 1) := by decide +kernel
theorem dX7_findStages_122 : decode cX7_findStages 122 = .ok (.getfield 203, 3) := by decide +kernel
theorem dX7_findStages_125 : decode cX7_findStages 125 = .ok (.if_icmp .ge 32, 3) := by decide +kernel
theorem dX7_findStages_128 : decode cX7_findStages 128 = .ok (.aload_n 0, 1) := by decide +kernel
theorem dX7_findStages_129 : decode cX7_findStages 129 = .ok (.getfield 46, 3) := by decide +kernel
theorem dX7_findStages_132 : decode cX7_findStages 132 = .ok (.iload_n 1, 1) := by decide +kernel
theorem dX7_findStages_133 : decode cX7_findStages 133 = .ok (.dup2, 1) := by decide +kernel
theorem dX7_findStages_134 : decode cX7_findStages 134 = .ok (.iaload, 1) := by decide +kernel
theorem dX7_findStages_135 : decode cX7_findStages 135 = .ok (.aload_n 0, 1) := by decide +kernel
theorem dX7_findStages_136 : decode cX7_findStages 136 = .ok (.iload_n 2, 1) := by decide +kernel
theorem dX7_findStages_137 : decode cX7_findStages 137 = .ok (.iload_n 1, 1) := by decide +kernel
theorem dX7_findStages_138 : decode cX7_findStages 138 = .ok (.invokevirtual 216, 3) := by decide +kernel
theorem dX7_findStages_141 : decode cX7_findStages 141 = .ok (.ifCond .eq 7, 3) := by decide +kernel
theorem dX7_findStages_144 : decode cX7_findStages 144 = .ok (.iconst 1, 1) := by decide +kernel
theorem dX7_findStages_145 : decode cX7_findStages 145 = .ok (.goto 4, 3) := by decide +kernel
theorem dX7_findStages_148 : decode cX7_findStages 148 = .ok (.iconst 0, 1) := by decide +kernel
theorem dX7_findStages_149 : decode cX7_findStages 149 = .ok (.iadd, 1) := by decide +kernel
theorem dX7_findStages_150 : decode cX7_findStages 150 = .ok (.iastore, 1) := by decide +kernel
theorem dX7_findStages_151 : decode cX7_findStages 151 = .ok (.iinc 2 1, 3) := by decide +kernel
theorem dX7_findStages_154 : decode cX7_findStages 154 = .ok (.goto (-34), 3) := by decide +kernel
theorem dX7_findStages_157 : decode cX7_findStages 157 = .ok (.iinc 1 1, 3) := by decide +kernel
theorem dX7_findStages_160 : decode cX7_findStages 160 = .ok (.goto (-57), 3) := by decide +kernel
theorem dX7_findStages_163 : decode cX7_findStages 163 = .ok (.return_, 1) := by decide +kernel
theorem dX7_isFound_0 : decode cX7_isFound 0 = .ok (.aload_n 0, 1) := by decide +kernel
theorem dX7_isFound_1 : decode cX7_isFound 1 = .ok (.invokevirtual 194, 3) := by decide +kernel
theorem dX7_isFound_4 : decode cX7_isFound 4 = .ok (.aload_n 0, 1) := by decide +kernel
theorem dX7_isFound_5 : decode cX7_isFound 5 = .ok (.invokevirtual 220, 3) := by decide +kernel
theorem dX7_isFound_8 : decode cX7_isFound 8 = .ok (.ifCond .ne 5, 3) := by decide +kernel
theorem dX7_isFound_11 : decode cX7_isFound 11 = .ok (.iconst 0, 1) := by decide +kernel
theorem dX7_isFound_12 : decode cX7_isFound 12 = .ok (.ireturn, 1) := by decide +kernel
theorem dX7_isFound_13 : decode cX7_isFound 13 = .ok (.aload_n 0, 1) := by decide +kernel
theorem dX7_isFound_14 : decode cX7_isFound 14 = .ok (.invokevirtual 223, 3) := by decide +kernel
theorem dX7_isFound_17 : decode cX7_isFound 17 = .ok (.iconst 1, 1) := by decide +kernel
theorem dX7_isFound_18 : decode cX7_isFound 18 = .ok (.ireturn, 1) := by decide +kernel
theorem dX7_told_0 : decode cX7_told 0 = .ok (.aload_n 0, 1) := by decide +kernel
theorem dX7_told_1 : decode cX7_told 1 = .ok (.iload_n 1, 1) := by decide +kernel
theorem dX7_told_2 : decode cX7_told 2 = .ok (.invokevirtual 206, 3) := by decide +kernel
theorem dX7_told_5 : decode cX7_told 5 = .ok (.ifCond .ne 5, 3) := by decide +kernel
theorem dX7_told_8 : decode cX7_told 8 = .ok (.iconst (-1), 1) := by decide +kernel
theorem dX7_told_9 : decode cX7_told 9 = .ok (.ireturn, 1) := by decide +kernel
theorem dX7_told_10 : decode cX7_told 10 = .ok (.iload_n 2, 1) := by decide +kernel
theorem dX7_told_11 : decode cX7_told 11 = .ok (.i2l, 1) := by decide +kernel
theorem dX7_told_12 : decode cX7_told 12 = .ok (.lconst 0, 1) := by decide +kernel
theorem dX7_told_13 : decode cX7_told 13 = .ok (.ldc2_w 192, 3) := by decide +kernel
theorem dX7_told_16 : decode cX7_told 16 = .ok (.invokestatic 79, 3) := by decide +kernel
theorem dX7_told_19 : decode cX7_told 19 = .ok (.ifCond .ne 6, 3) := by decide +kernel
theorem dX7_told_22 : decode cX7_told 22 = .ok (.bipush (-2), 2) := by decide +kernel
theorem dX7_told_24 : decode cX7_told 24 = .ok (.ireturn, 1) := by decide +kernel
theorem dX7_told_25 : decode cX7_told 25 = .ok (.iload_n 2, 1) := by decide +kernel
theorem dX7_told_26 : decode cX7_told 26 = .ok (.iconst 2, 1) := by decide +kernel
theorem dX7_told_27 : decode cX7_told 27 = .ok (.if_icmp .ge 23, 3) := by decide +kernel
theorem dX7_told_30 : decode cX7_told 30 = .ok (.iload_n 2, 1) := by decide +kernel
theorem dX7_told_31 : decode cX7_told 31 = .ok (.ifCond .ne 12, 3) := by decide +kernel
theorem dX7_told_34 : decode cX7_told 34 = .ok (.aload_n 0, 1) := by decide +kernel
theorem dX7_told_35 : decode cX7_told 35 = .ok (.getfield 19, 3) := by decide +kernel
theorem dX7_told_38 : decode cX7_told 38 = .ok (.iload_n 1, 1) := by decide +kernel
theorem dX7_told_39 : decode cX7_told 39 = .ok (.iaload, 1) := by decide +kernel
theorem dX7_told_40 : decode cX7_told 40 = .ok (.goto 9, 3) := by decide +kernel
theorem dX7_told_43 : decode cX7_told 43 = .ok (.aload_n 0, 1) := by decide +kernel
theorem dX7_told_44 : decode cX7_told 44 = .ok (.getfield 22, 3) := by decide +kernel
theorem dX7_told_47 : decode cX7_told 47 = .ok (.iload_n 1, 1) := by decide +kernel
theorem dX7_told_48 : decode cX7_told 48 = .ok (.iaload, 1) := by decide +kernel
theorem dX7_told_49 : decode cX7_told 49 = .ok (.ireturn, 1) := by decide +kernel
theorem dX7_told_50 : decode cX7_told 50 = .ok (.aload_n 0, 1) := by decide +kernel
theorem dX7_told_51 : decode cX7_told 51 = .ok (.invokevirtual 226, 3) := by decide +kernel
theorem dX7_told_54 : decode cX7_told 54 = .ok (.ifCond .ne 8, 3) := by decide +kernel
theorem dX7_told_57 : decode cX7_told 57 = .ok (.bipush (-5), 2) := by decide +kernel
theorem dX7_told_59 : decode cX7_told 59 = .ok (.goto 23, 3) := by decide +kernel
theorem dX7_told_62 : decode cX7_told 62 = .ok (.iload_n 2, 1) := by decide +kernel
theorem dX7_told_63 : decode cX7_told 63 = .ok (.iconst 2, 1) := by decide +kernel
theorem dX7_told_64 : decode cX7_told 64 = .ok (.if_icmp .ne 12, 3) := by decide +kernel
theorem dX7_told_67 : decode cX7_told 67 = .ok (.aload_n 0, 1) := by decide +kernel
theorem dX7_told_68 : decode cX7_told 68 = .ok (.getfield 43, 3) := by decide +kernel
theorem dX7_told_71 : decode cX7_told 71 = .ok (.iload_n 1, 1) := by decide +kernel
theorem dX7_told_72 : decode cX7_told 72 = .ok (.iaload, 1) := by decide +kernel
theorem dX7_told_73 : decode cX7_told 73 = .ok (.goto 9, 3) := by decide +kernel
theorem dX7_told_76 : decode cX7_told 76 = .ok (.aload_n 0, 1) := by decide +kernel
theorem dX7_told_77 : decode cX7_told 77 = .ok (.getfield 46, 3) := by decide +kernel
theorem dX7_told_80 : decode cX7_told 80 = .ok (.iload_n 1, 1) := by decide +kernel
theorem dX7_told_81 : decode cX7_told 81 = .ok (.iaload, 1) := by decide +kernel
theorem dX7_told_82 : decode cX7_told 82 = .ok (.ireturn, 1) := by decide +kernel
theorem dX7_stageMany_0 : decode cX7_stageMany 0 = .ok (.iconst 0, 1) := by decide +kernel
theorem dX7_stageMany_1 : decode cX7_stageMany 1 = .ok (.istore_n 1, 1) := by decide +kernel
theorem dX7_stageMany_2 : decode cX7_stageMany 2 = .ok (.iconst 0, 1) := by decide +kernel
theorem dX7_stageMany_3 : decode cX7_stageMany 3 = .ok (.istore_n 2, 1) := by decide +kernel
theorem dX7_stageMany_4 : decode cX7_stageMany 4 = .ok (.iload_n 2, 1) := by decide +kernel
theorem dX7_stageMany_5 : decode cX7_stageMany 5 = .ok (.aload_n 0, 1) := by decide +kernel
theorem dX7_stageMany_6 : decode cX7_stageMany 6 = .ok (.getfield 203, 3) := by decide +kernel
theorem dX7_stageMany_9 : decode cX7_stageMany 9 = .ok (.if_icmp .ge 32, 3) := by decide +kernel
theorem dX7_stageMany_12 : decode cX7_stageMany 12 = .ok (.aload_n 0, 1) := by decide +kernel
theorem dX7_stageMany_13 : decode cX7_stageMany 13 = .ok (.getfield 43, 3) := by decide +kernel
theorem dX7_stageMany_16 : decode cX7_stageMany 16 = .ok (.iload_n 2, 1) := by decide +kernel
theorem dX7_stageMany_17 : decode cX7_stageMany 17 = .ok (.iaload, 1) := by decide +kernel
theorem dX7_stageMany_18 : decode cX7_stageMany 18 = .ok (.iload_n 1, 1) := by decide +kernel
theorem dX7_stageMany_19 : decode cX7_stageMany 19 = .ok (.if_icmp .lt 14, 3) := by decide +kernel
theorem dX7_stageMany_22 : decode cX7_stageMany 22 = .ok (.aload_n 0, 1) := by decide +kernel
theorem dX7_stageMany_23 : decode cX7_stageMany 23 = .ok (.getfield 43, 3) := by decide +kernel
theorem dX7_stageMany_26 : decode cX7_stageMany 26 = .ok (.iload_n 2, 1) := by decide +kernel
theorem dX7_stageMany_27 : decode cX7_stageMany 27 = .ok (.iaload, 1) := by decide +kernel
theorem dX7_stageMany_28 : decode cX7_stageMany 28 = .ok (.iconst 1, 1) := by decide +kernel
theorem dX7_stageMany_29 : decode cX7_stageMany 29 = .ok (.iadd, 1) := by decide +kernel
theorem dX7_stageMany_30 : decode cX7_stageMany 30 = .ok (.goto 4, 3) := by decide +kernel
theorem dX7_stageMany_33 : decode cX7_stageMany 33 = .ok (.iload_n 1, 1) := by decide +kernel
theorem dX7_stageMany_34 : decode cX7_stageMany 34 = .ok (.istore_n 1, 1) := by decide +kernel
theorem dX7_stageMany_35 : decode cX7_stageMany 35 = .ok (.iinc 2 1, 3) := by decide +kernel
theorem dX7_stageMany_38 : decode cX7_stageMany 38 = .ok (.goto (-34), 3) := by decide +kernel
theorem dX7_stageMany_41 : decode cX7_stageMany 41 = .ok (.iload_n 1, 1) := by decide +kernel
theorem dX7_stageMany_42 : decode cX7_stageMany 42 = .ok (.ireturn, 1) := by decide +kernel
theorem dX7_callsAt_0 : decode cX7_callsAt 0 = .ok (.iconst 0, 1) := by decide +kernel
theorem dX7_callsAt_1 : decode cX7_callsAt 1 = .ok (.istore_n 2, 1) := by decide +kernel
theorem dX7_callsAt_2 : decode cX7_callsAt 2 = .ok (.iconst 0, 1) := by decide +kernel
theorem dX7_callsAt_3 : decode cX7_callsAt 3 = .ok (.istore_n 3, 1) := by decide +kernel
theorem dX7_callsAt_4 : decode cX7_callsAt 4 = .ok (.iload_n 3, 1) := by decide +kernel
theorem dX7_callsAt_5 : decode cX7_callsAt 5 = .ok (.aload_n 0, 1) := by decide +kernel
theorem dX7_callsAt_6 : decode cX7_callsAt 6 = .ok (.getfield 203, 3) := by decide +kernel
theorem dX7_callsAt_9 : decode cX7_callsAt 9 = .ok (.if_icmp .ge 27, 3) := by decide +kernel
theorem dX7_callsAt_12 : decode cX7_callsAt 12 = .ok (.iload_n 2, 1) := by decide +kernel
theorem dX7_callsAt_13 : decode cX7_callsAt 13 = .ok (.aload_n 0, 1) := by decide +kernel
theorem dX7_callsAt_14 : decode cX7_callsAt 14 = .ok (.getfield 43, 3) := by decide +kernel
theorem dX7_callsAt_17 : decode cX7_callsAt 17 = .ok (.iload_n 3, 1) := by decide +kernel
theorem dX7_callsAt_18 : decode cX7_callsAt 18 = .ok (.iaload, 1) := by decide +kernel
theorem dX7_callsAt_19 : decode cX7_callsAt 19 = .ok (.iload_n 1, 1) := by decide +kernel
theorem dX7_callsAt_20 : decode cX7_callsAt 20 = .ok (.if_icmp .ne 7, 3) := by decide +kernel
theorem dX7_callsAt_23 : decode cX7_callsAt 23 = .ok (.iconst 1, 1) := by decide +kernel
theorem dX7_callsAt_24 : decode cX7_callsAt 24 = .ok (.goto 4, 3) := by decide +kernel
theorem dX7_callsAt_27 : decode cX7_callsAt 27 = .ok (.iconst 0, 1) := by decide +kernel
theorem dX7_callsAt_28 : decode cX7_callsAt 28 = .ok (.iadd, 1) := by decide +kernel
theorem dX7_callsAt_29 : decode cX7_callsAt 29 = .ok (.istore_n 2, 1) := by decide +kernel
theorem dX7_callsAt_30 : decode cX7_callsAt 30 = .ok (.iinc 3 1, 3) := by decide +kernel
theorem dX7_callsAt_33 : decode cX7_callsAt 33 = .ok (.goto (-29), 3) := by decide +kernel
theorem dX7_callsAt_36 : decode cX7_callsAt 36 = .ok (.iload_n 2, 1) := by decide +kernel
theorem dX7_callsAt_37 : decode cX7_callsAt 37 = .ok (.ireturn, 1) := by decide +kernel
theorem dX7_widest_0 : decode cX7_widest 0 = .ok (.bipush (-6), 2) := by decide +kernel
theorem dX7_widest_2 : decode cX7_widest 2 = .ok (.istore_n 1, 1) := by decide +kernel
theorem dX7_widest_3 : decode cX7_widest 3 = .ok (.iconst 0, 1) := by decide +kernel
theorem dX7_widest_4 : decode cX7_widest 4 = .ok (.istore_n 2, 1) := by decide +kernel
theorem dX7_widest_5 : decode cX7_widest 5 = .ok (.iload_n 2, 1) := by decide +kernel
theorem dX7_widest_6 : decode cX7_widest 6 = .ok (.aload_n 0, 1) := by decide +kernel
theorem dX7_widest_7 : decode cX7_widest 7 = .ok (.invokevirtual 229, 3) := by decide +kernel
theorem dX7_widest_10 : decode cX7_widest 10 = .ok (.if_icmp .ge 32, 3) := by decide +kernel
theorem dX7_widest_13 : decode cX7_widest 13 = .ok (.iload_n 1, 1) := by decide +kernel
theorem dX7_widest_14 : decode cX7_widest 14 = .ok (.ifCond .lt 16, 3) := by decide +kernel
theorem dX7_widest_17 : decode cX7_widest 17 = .ok (.aload_n 0, 1) := by decide +kernel
theorem dX7_widest_18 : decode cX7_widest 18 = .ok (.iload_n 2, 1) := by decide +kernel
theorem dX7_widest_19 : decode cX7_widest 19 = .ok (.invokevirtual 232, 3) := by decide +kernel
theorem dX7_widest_22 : decode cX7_widest 22 = .ok (.aload_n 0, 1) := by decide +kernel
theorem dX7_widest_23 : decode cX7_widest 23 = .ok (.iload_n 1, 1) := by decide +kernel
theorem dX7_widest_24 : decode cX7_widest 24 = .ok (.invokevirtual 232, 3) := by decide +kernel
theorem dX7_widest_27 : decode cX7_widest 27 = .ok (.if_icmp .le 7, 3) := by decide +kernel
theorem dX7_widest_30 : decode cX7_widest 30 = .ok (.iload_n 2, 1) := by decide +kernel
theorem dX7_widest_31 : decode cX7_widest 31 = .ok (.goto 4, 3) := by decide +kernel
theorem dX7_widest_34 : decode cX7_widest 34 = .ok (.iload_n 1, 1) := by decide +kernel
theorem dX7_widest_35 : decode cX7_widest 35 = .ok (.istore_n 1, 1) := by decide +kernel
theorem dX7_widest_36 : decode cX7_widest 36 = .ok (.iinc 2 1, 3) := by decide +kernel
theorem dX7_widest_39 : decode cX7_widest 39 = .ok (.goto (-34), 3) := by decide +kernel
theorem dX7_widest_42 : decode cX7_widest 42 = .ok (.iload_n 1, 1) := by decide +kernel
theorem dX7_widest_43 : decode cX7_widest 43 = .ok (.ireturn, 1) := by decide +kernel
theorem dX7_single_0 : decode cX7_single 0 = .ok (.iconst 0, 1) := by decide +kernel
theorem dX7_single_1 : decode cX7_single 1 = .ok (.istore_n 2, 1) := by decide +kernel
theorem dX7_single_2 : decode cX7_single 2 = .ok (.iload_n 0, 1) := by decide +kernel
theorem dX7_single_3 : decode cX7_single 3 = .ok (.iload_n 1, 1) := by decide +kernel
theorem dX7_single_4 : decode cX7_single 4 = .ok (.iload_n 2, 1) := by decide +kernel
theorem dX7_single_5 : decode cX7_single 5 = .ok (.iconst 1, 1) := by decide +kernel
theorem dX7_single_6 : decode cX7_single 6 = .ok (.iadd, 1) := by decide +kernel
theorem dX7_single_7 : decode cX7_single 7 = .ok (.ishl, 1) := by decide +kernel
theorem dX7_single_8 : decode cX7_single 8 = .ok (.if_icmp .lt 9, 3) := by decide +kernel
theorem dX7_single_11 : decode cX7_single 11 = .ok (.iinc 2 1, 3) := by decide +kernel
theorem dX7_single_14 : decode cX7_single 14 = .ok (.goto (-12), 3) := by decide +kernel
theorem dX7_single_17 : decode cX7_single 17 = .ok (.iload_n 0, 1) := by decide +kernel
theorem dX7_single_18 : decode cX7_single 18 = .ok (.bipush 23, 2) := by decide +kernel
theorem dX7_single_20 : decode cX7_single 20 = .ok (.iload_n 2, 1) := by decide +kernel
theorem dX7_single_21 : decode cX7_single 21 = .ok (.isub, 1) := by decide +kernel
theorem dX7_single_22 : decode cX7_single 22 = .ok (.ishl, 1) := by decide +kernel
theorem dX7_single_23 : decode cX7_single 23 = .ok (.istore_n 3, 1) := by decide +kernel
theorem dX7_single_24 : decode cX7_single 24 = .ok (.iload_n 3, 1) := by decide +kernel
theorem dX7_single_25 : decode cX7_single 25 = .ok (.iload_n 1, 1) := by decide +kernel
theorem dX7_single_26 : decode cX7_single 26 = .ok (.idiv, 1) := by decide +kernel
theorem dX7_single_27 : decode cX7_single 27 = .ok (.istore 4, 2) := by decide +kernel
theorem dX7_single_29 : decode cX7_single 29 = .ok (.iload_n 3, 1) := by decide +kernel
theorem dX7_single_30 : decode cX7_single 30 = .ok (.iload_n 1, 1) := by decide +kernel
theorem dX7_single_31 : decode cX7_single 31 = .ok (.irem, 1) := by decide +kernel
theorem dX7_single_32 : decode cX7_single 32 = .ok (.istore 5, 2) := by decide +kernel
theorem dX7_single_34 : decode cX7_single 34 = .ok (.iload 4, 2) := by decide +kernel
theorem dX7_single_36 : decode cX7_single 36 = .ok (.iconst 2, 1) := by decide +kernel
theorem dX7_single_37 : decode cX7_single 37 = .ok (.iload 5, 2) := by decide +kernel
theorem dX7_single_39 : decode cX7_single 39 = .ok (.imul, 1) := by decide +kernel
theorem dX7_single_40 : decode cX7_single 40 = .ok (.iload_n 1, 1) := by decide +kernel
theorem dX7_single_41 : decode cX7_single 41 = .ok (.if_icmp .gt 19, 3) := by decide +kernel
theorem dX7_single_44 : decode cX7_single 44 = .ok (.iconst 2, 1) := by decide +kernel
theorem dX7_single_45 : decode cX7_single 45 = .ok (.iload 5, 2) := by decide +kernel
theorem dX7_single_47 : decode cX7_single 47 = .ok (.imul, 1) := by decide +kernel
theorem dX7_single_48 : decode cX7_single 48 = .ok (.iload_n 1, 1) := by decide +kernel
theorem dX7_single_49 : decode cX7_single 49 = .ok (.if_icmp .ne 15, 3) := by decide +kernel
theorem dX7_single_52 : decode cX7_single 52 = .ok (.iload 4, 2) := by decide +kernel
theorem dX7_single_54 : decode cX7_single 54 = .ok (.iconst 2, 1) := by decide +kernel
theorem dX7_single_55 : decode cX7_single 55 = .ok (.irem, 1) := by decide +kernel
theorem dX7_single_56 : decode cX7_single 56 = .ok (.iconst 1, 1) := by decide +kernel
theorem dX7_single_57 : decode cX7_single 57 = .ok (.if_icmp .ne 7, 3) := by decide +kernel
theorem dX7_single_60 : decode cX7_single 60 = .ok (.iconst 1, 1) := by decide +kernel
theorem dX7_single_61 : decode cX7_single 61 = .ok (.goto 4, 3) := by decide +kernel
theorem dX7_single_64 : decode cX7_single 64 = .ok (.iconst 0, 1) := by decide +kernel
theorem dX7_single_65 : decode cX7_single 65 = .ok (.iadd, 1) := by decide +kernel
theorem dX7_single_66 : decode cX7_single 66 = .ok (.istore 4, 2) := by decide +kernel
theorem dX7_single_68 : decode cX7_single 68 = .ok (.bipush 127, 2) := by decide +kernel
theorem dX7_single_70 : decode cX7_single 70 = .ok (.iload_n 2, 1) := by decide +kernel
theorem dX7_single_71 : decode cX7_single 71 = .ok (.iadd, 1) := by decide +kernel
theorem dX7_single_72 : decode cX7_single 72 = .ok (.bipush 23, 2) := by decide +kernel
theorem dX7_single_74 : decode cX7_single 74 = .ok (.ishl, 1) := by decide +kernel
theorem dX7_single_75 : decode cX7_single 75 = .ok (.iload 4, 2) := by decide +kernel
theorem dX7_single_77 : decode cX7_single 77 = .ok (.iadd, 1) := by decide +kernel
theorem dX7_single_78 : decode cX7_single 78 = .ok (.ldc 235, 2) := by decide +kernel
theorem dX7_single_80 : decode cX7_single 80 = .ok (.isub, 1) := by decide +kernel
theorem dX7_single_81 : decode cX7_single 81 = .ok (.ireturn, 1) := by decide +kernel
theorem dX7_freePairs_0 : decode cX7_freePairs 0 = .ok (.iconst 0, 1) := by decide +kernel
theorem dX7_freePairs_1 : decode cX7_freePairs 1 = .ok (.istore_n 1, 1) := by decide +kernel
theorem dX7_freePairs_2 : decode cX7_freePairs 2 = .ok (.iconst 0, 1) := by decide +kernel
theorem dX7_freePairs_3 : decode cX7_freePairs 3 = .ok (.istore_n 2, 1) := by decide +kernel
theorem dX7_freePairs_4 : decode cX7_freePairs 4 = .ok (.iload_n 2, 1) := by decide +kernel
theorem dX7_freePairs_5 : decode cX7_freePairs 5 = .ok (.aload_n 0, 1) := by decide +kernel
theorem dX7_freePairs_6 : decode cX7_freePairs 6 = .ok (.getfield 203, 3) := by decide +kernel
theorem dX7_freePairs_9 : decode cX7_freePairs 9 = .ok (.if_icmp .ge 47, 3) := by decide +kernel
theorem dX7_freePairs_12 : decode cX7_freePairs 12 = .ok (.iconst 0, 1) := by decide +kernel
theorem dX7_freePairs_13 : decode cX7_freePairs 13 = .ok (.istore_n 3, 1) := by decide +kernel
theorem dX7_freePairs_14 : decode cX7_freePairs 14 = .ok (.iload_n 3, 1) := by decide +kernel
theorem dX7_freePairs_15 : decode cX7_freePairs 15 = .ok (.iload_n 2, 1) := by decide +kernel
theorem dX7_freePairs_16 : decode cX7_freePairs 16 = .ok (.if_icmp .ge 34, 3) := by decide +kernel
theorem dX7_freePairs_19 : decode cX7_freePairs 19 = .ok (.iload_n 1, 1) := by decide +kernel
theorem dX7_freePairs_20 : decode cX7_freePairs 20 = .ok (.aload_n 0, 1) := by decide +kernel
theorem dX7_freePairs_21 : decode cX7_freePairs 21 = .ok (.aload_n 0, 1) := by decide +kernel
theorem dX7_freePairs_22 : decode cX7_freePairs 22 = .ok (.iload_n 2, 1) := by decide +kernel
theorem dX7_freePairs_23 : decode cX7_freePairs 23 = .ok (.invokevirtual 209, 3) := by decide +kernel
theorem dX7_freePairs_26 : decode cX7_freePairs 26 = .ok (.aload_n 0, 1) := by decide +kernel
theorem dX7_freePairs_27 : decode cX7_freePairs 27 = .ok (.iload_n 3, 1) := by decide +kernel
theorem dX7_freePairs_28 : decode cX7_freePairs 28 = .ok (.invokevirtual 209, 3) := by decide +kernel
theorem dX7_freePairs_31 : decode cX7_freePairs 31 = .ok (.invokevirtual 200, 3) := by decide +kernel
theorem dX7_freePairs_34 : decode cX7_freePairs 34 = .ok (.ifCond .ne 7, 3) := by decide +kernel
theorem dX7_freePairs_37 : decode cX7_freePairs 37 = .ok (.iconst 1, 1) := by decide +kernel
theorem dX7_freePairs_38 : decode cX7_freePairs 38 = .ok (.goto 4, 3) := by decide +kernel
theorem dX7_freePairs_41 : decode cX7_freePairs 41 = .ok (.iconst 0, 1) := by decide +kernel
theorem dX7_freePairs_42 : decode cX7_freePairs 42 = .ok (.iadd, 1) := by decide +kernel
theorem dX7_freePairs_43 : decode cX7_freePairs 43 = .ok (.istore_n 1, 1) := by decide +kernel
theorem dX7_freePairs_44 : decode cX7_freePairs 44 = .ok (.iinc 3 1, 3) := by decide +kernel
theorem dX7_freePairs_47 : decode cX7_freePairs 47 = .ok (.goto (-33), 3) := by decide +kernel
theorem dX7_freePairs_50 : decode cX7_freePairs 50 = .ok (.iinc 2 1, 3) := by decide +kernel
theorem dX7_freePairs_53 : decode cX7_freePairs 53 = .ok (.goto (-49), 3) := by decide +kernel
theorem dX7_freePairs_56 : decode cX7_freePairs 56 = .ok (.iload_n 1, 1) := by decide +kernel
theorem dX7_freePairs_57 : decode cX7_freePairs 57 = .ok (.ireturn, 1) := by decide +kernel
theorem dX7_isNormal_0 : decode cX7_isNormal 0 = .ok (.iconst 1, 1) := by decide +kernel
theorem dX7_isNormal_1 : decode cX7_isNormal 1 = .ok (.istore_n 1, 1) := by decide +kernel
theorem dX7_isNormal_2 : decode cX7_isNormal 2 = .ok (.iconst 0, 1) := by decide +kernel
theorem dX7_isNormal_3 : decode cX7_isNormal 3 = .ok (.istore_n 2, 1) := by decide +kernel
theorem dX7_isNormal_4 : decode cX7_isNormal 4 = .ok (.iload_n 2, 1) := by decide +kernel
theorem dX7_isNormal_5 : decode cX7_isNormal 5 = .ok (.aload_n 0, 1) := by decide +kernel
theorem dX7_isNormal_6 : decode cX7_isNormal 6 = .ok (.getfield 203, 3) := by decide +kernel
theorem dX7_isNormal_9 : decode cX7_isNormal 9 = .ok (.if_icmp .ge 25, 3) := by decide +kernel
theorem dX7_isNormal_12 : decode cX7_isNormal 12 = .ok (.aload_n 0, 1) := by decide +kernel
theorem dX7_isNormal_13 : decode cX7_isNormal 13 = .ok (.getfield 46, 3) := by decide +kernel
theorem dX7_isNormal_16 : decode cX7_isNormal 16 = .ok (.iload_n 2, 1) := by decide +kernel
theorem dX7_isNormal_17 : decode cX7_isNormal 17 = .ok (.iaload, 1) := by decide +kernel
theorem dX7_isNormal_18 : decode cX7_isNormal 18 = .ok (.iload_n 2, 1) := by decide +kernel
theorem dX7_isNormal_19 : decode cX7_isNormal 19 = .ok (.if_icmp .ne 7, 3) := by decide +kernel
theorem dX7_isNormal_22 : decode cX7_isNormal 22 = .ok (.iload_n 1, 1) := by decide +kernel
theorem dX7_isNormal_23 : decode cX7_isNormal 23 = .ok (.goto 4, 3) := by decide +kernel
theorem dX7_isNormal_26 : decode cX7_isNormal 26 = .ok (.iconst 0, 1) := by decide +kernel
theorem dX7_isNormal_27 : decode cX7_isNormal 27 = .ok (.istore_n 1, 1) := by decide +kernel
theorem dX7_isNormal_28 : decode cX7_isNormal 28 = .ok (.iinc 2 1, 3) := by decide +kernel
theorem dX7_isNormal_31 : decode cX7_isNormal 31 = .ok (.goto (-27), 3) := by decide +kernel
theorem dX7_isNormal_34 : decode cX7_isNormal 34 = .ok (.iload_n 1, 1) := by decide +kernel
theorem dX7_isNormal_35 : decode cX7_isNormal 35 = .ok (.ireturn, 1) := by decide +kernel
theorem dX7_layNormal_0 : decode cX7_layNormal 0 = .ok (.iconst 0, 1) := by decide +kernel
theorem dX7_layNormal_1 : decode cX7_layNormal 1 = .ok (.istore_n 1, 1) := by decide +kernel
theorem dX7_layNormal_2 : decode cX7_layNormal 2 = .ok (.iload_n 1, 1) := by decide +kernel
theorem dX7_layNormal_3 : decode cX7_layNormal 3 = .ok (.aload_n 0, 1) := by decide +kernel
theorem dX7_layNormal_4 : decode cX7_layNormal 4 = .ok (.getfield 203, 3) := by decide +kernel
theorem dX7_layNormal_7 : decode cX7_layNormal 7 = .ok (.if_icmp .ge 25, 3) := by decide +kernel
theorem dX7_layNormal_10 : decode cX7_layNormal 10 = .ok (.aload_n 0, 1) := by decide +kernel
theorem dX7_layNormal_11 : decode cX7_layNormal 11 = .ok (.getfield 49, 3) := by decide +kernel
theorem dX7_layNormal_14 : decode cX7_layNormal 14 = .ok (.aload_n 0, 1) := by decide +kernel
theorem dX7_layNormal_15 : decode cX7_layNormal 15 = .ok (.getfield 46, 3) := by decide +kernel
theorem dX7_layNormal_18 : decode cX7_layNormal 18 = .ok (.iload_n 1, 1) := by decide +kernel
theorem dX7_layNormal_19 : decode cX7_layNormal 19 = .ok (.iaload, 1) := by decide +kernel
theorem dX7_layNormal_20 : decode cX7_layNormal 20 = .ok (.aload_n 0, 1) := by decide +kernel
theorem dX7_layNormal_21 : decode cX7_layNormal 21 = .ok (.iload_n 1, 1) := by decide +kernel
theorem dX7_layNormal_22 : decode cX7_layNormal 22 = .ok (.invokevirtual 209, 3) := by decide +kernel
theorem dX7_layNormal_25 : decode cX7_layNormal 25 = .ok (.iastore, 1) := by decide +kernel
theorem dX7_layNormal_26 : decode cX7_layNormal 26 = .ok (.iinc 1 1, 3) := by decide +kernel
theorem dX7_layNormal_29 : decode cX7_layNormal 29 = .ok (.goto (-27), 3) := by decide +kernel
theorem dX7_layNormal_32 : decode cX7_layNormal 32 = .ok (.return_, 1) := by decide +kernel
theorem dX7_hold_0 : decode cX7_hold 0 = .ok (.aload_n 0, 1) := by decide +kernel
theorem dX7_hold_1 : decode cX7_hold 1 = .ok (.aload_n 0, 1) := by decide +kernel
theorem dX7_hold_2 : decode cX7_hold 2 = .ok (.getfield 203, 3) := by decide +kernel
theorem dX7_hold_5 : decode cX7_hold 5 = .ok (.putfield 236, 3) := by decide +kernel
theorem dX7_hold_8 : decode cX7_hold 8 = .ok (.iconst 0, 1) := by decide +kernel
theorem dX7_hold_9 : decode cX7_hold 9 = .ok (.istore_n 1, 1) := by decide +kernel
theorem dX7_hold_10 : decode cX7_hold 10 = .ok (.iload_n 1, 1) := by decide +kernel
theorem dX7_hold_11 : decode cX7_hold 11 = .ok (.bipush 16, 2) := by decide +kernel
theorem dX7_hold_13 : decode cX7_hold 13 = .ok (.if_icmp .ge 33, 3) := by decide +kernel
theorem dX7_hold_16 : decode cX7_hold 16 = .ok (.aload_n 0, 1) := by decide +kernel
theorem dX7_hold_17 : decode cX7_hold 17 = .ok (.getfield 52, 3) := by decide +kernel
theorem dX7_hold_20 : decode cX7_hold 20 = .ok (.iload_n 1, 1) := by decide +kernel
theorem dX7_hold_21 : decode cX7_hold 21 = .ok (.aload_n 0, 1) := by decide +kernel
theorem dX7_hold_22 : decode cX7_hold 22 = .ok (.getfield 19, 3) := by decide +kernel
theorem dX7_hold_25 : decode cX7_hold 25 = .ok (.iload_n 1, 1) := by decide +kernel
theorem dX7_hold_26 : decode cX7_hold 26 = .ok (.iaload, 1) := by decide +kernel
theorem dX7_hold_27 : decode cX7_hold 27 = .ok (.iastore, 1) := by decide +kernel
theorem dX7_hold_28 : decode cX7_hold 28 = .ok (.aload_n 0, 1) := by decide +kernel
theorem dX7_hold_29 : decode cX7_hold 29 = .ok (.getfield 55, 3) := by decide +kernel
theorem dX7_hold_32 : decode cX7_hold 32 = .ok (.iload_n 1, 1) := by decide +kernel
theorem dX7_hold_33 : decode cX7_hold 33 = .ok (.aload_n 0, 1) := by decide +kernel
theorem dX7_hold_34 : decode cX7_hold 34 = .ok (.getfield 22, 3) := by decide +kernel
theorem dX7_hold_37 : decode cX7_hold 37 = .ok (.iload_n 1, 1) := by decide +kernel
theorem dX7_hold_38 : decode cX7_hold 38 = .ok (.iaload, 1) := by decide +kernel
theorem dX7_hold_39 : decode cX7_hold 39 = .ok (.iastore, 1) := by decide +kernel
theorem dX7_hold_40 : decode cX7_hold 40 = .ok (.iinc 1 1, 3) := by decide +kernel
theorem dX7_hold_43 : decode cX7_hold 43 = .ok (.goto (-33), 3) := by decide +kernel
theorem dX7_hold_46 : decode cX7_hold 46 = .ok (.return_, 1) := by decide +kernel
theorem dX7_giveBack_0 : decode cX7_giveBack 0 = .ok (.aload_n 0, 1) := by decide +kernel
theorem dX7_giveBack_1 : decode cX7_giveBack 1 = .ok (.aload_n 0, 1) := by decide +kernel
theorem dX7_giveBack_2 : decode cX7_giveBack 2 = .ok (.getfield 236, 3) := by decide +kernel
theorem dX7_giveBack_5 : decode cX7_giveBack 5 = .ok (.putfield 203, 3) := by decide +kernel
theorem dX7_giveBack_8 : decode cX7_giveBack 8 = .ok (.iconst 0, 1) := by decide +kernel
theorem dX7_giveBack_9 : decode cX7_giveBack 9 = .ok (.istore_n 1, 1) := by decide +kernel
theorem dX7_giveBack_10 : decode cX7_giveBack 10 = .ok (.iload_n 1, 1) := by decide +kernel
theorem dX7_giveBack_11 : decode cX7_giveBack 11 = .ok (.bipush 16, 2) := by decide +kernel
theorem dX7_giveBack_13 : decode cX7_giveBack 13 = .ok (.if_icmp .ge 33, 3) := by decide +kernel
theorem dX7_giveBack_16 : decode cX7_giveBack 16 = .ok (.aload_n 0, 1) := by decide +kernel
theorem dX7_giveBack_17 : decode cX7_giveBack 17 = .ok (.getfield 19, 3) := by decide +kernel
theorem dX7_giveBack_20 : decode cX7_giveBack 20 = .ok (.iload_n 1, 1) := by decide +kernel
theorem dX7_giveBack_21 : decode cX7_giveBack 21 = .ok (.aload_n 0, 1) := by decide +kernel
theorem dX7_giveBack_22 : decode cX7_giveBack 22 = .ok (.getfield 52, 3) := by decide +kernel
theorem dX7_giveBack_25 : decode cX7_giveBack 25 = .ok (.iload_n 1, 1) := by decide +kernel
theorem dX7_giveBack_26 : decode cX7_giveBack 26 = .ok (.iaload, 1) := by decide +kernel
theorem dX7_giveBack_27 : decode cX7_giveBack 27 = .ok (.iastore, 1) := by decide +kernel
theorem dX7_giveBack_28 : decode cX7_giveBack 28 = .ok (.aload_n 0, 1) := by decide +kernel
theorem dX7_giveBack_29 : decode cX7_giveBack 29 = .ok (.getfield 22, 3) := by decide +kernel
theorem dX7_giveBack_32 : decode cX7_giveBack 32 = .ok (.iload_n 1, 1) := by decide +kernel
theorem dX7_giveBack_33 : decode cX7_giveBack 33 = .ok (.aload_n 0, 1) := by decide +kernel
theorem dX7_giveBack_34 : decode cX7_giveBack 34 = .ok (.getfield 55, 3) := by decide +kernel
theorem dX7_giveBack_37 : decode cX7_giveBack 37 = .ok (.iload_n 1, 1) := by decide +kernel
theorem dX7_giveBack_38 : decode cX7_giveBack 38 = .ok (.iaload, 1) := by decide +kernel
theorem dX7_giveBack_39 : decode cX7_giveBack 39 = .ok (.iastore, 1) := by decide +kernel
theorem dX7_giveBack_40 : decode cX7_giveBack 40 = .ok (.iinc 1 1, 3) := by decide +kernel
theorem dX7_giveBack_43 : decode cX7_giveBack 43 = .ok (.goto (-33), 3) := by decide +kernel
theorem dX7_giveBack_46 : decode cX7_giveBack 46 = .ok (.return_, 1) := by decide +kernel
theorem dX7_compared_0 : decode cX7_compared 0 = .ok (.aload_n 0, 1) := by decide +kernel
theorem dX7_compared_1 : decode cX7_compared 1 = .ok (.invokevirtual 239, 3) := by decide +kernel
theorem dX7_compared_4 : decode cX7_compared 4 = .ok (.aload_n 0, 1) := by decide +kernel
theorem dX7_compared_5 : decode cX7_compared 5 = .ok (.invokevirtual 242, 3) := by decide +kernel
theorem dX7_compared_8 : decode cX7_compared 8 = .ok (.aload_n 0, 1) := by decide +kernel
theorem dX7_compared_9 : decode cX7_compared 9 = .ok (.aload_n 0, 1) := by decide +kernel
theorem dX7_compared_10 : decode cX7_compared 10 = .ok (.getfield 70, 3) := by decide +kernel
theorem dX7_compared_13 : decode cX7_compared 13 = .ok (.bipush 50, 2) := by decide +kernel
theorem dX7_compared_15 : decode cX7_compared 15 = .ok (.iaload, 1) := by decide +kernel
theorem dX7_compared_16 : decode cX7_compared 16 = .ok (.putfield 203, 3) := by decide +kernel
theorem dX7_compared_19 : decode cX7_compared 19 = .ok (.iconst 0, 1) := by decide +kernel
theorem dX7_compared_20 : decode cX7_compared 20 = .ok (.istore_n 1, 1) := by decide +kernel
theorem dX7_compared_21 : decode cX7_compared 21 = .ok (.iload_n 1, 1) := by decide +kernel
theorem dX7_compared_22 : decode cX7_compared 22 = .ok (.bipush 16, 2) := by decide +kernel
theorem dX7_compared_24 : decode cX7_compared 24 = .ok (.if_icmp .ge 39, 3) := by decide +kernel
theorem dX7_compared_27 : decode cX7_compared 27 = .ok (.aload_n 0, 1) := by decide +kernel
theorem dX7_compared_28 : decode cX7_compared 28 = .ok (.getfield 19, 3) := by decide +kernel
theorem dX7_compared_31 : decode cX7_compared 31 = .ok (.iload_n 1, 1) := by decide +kernel
theorem dX7_compared_32 : decode cX7_compared 32 = .ok (.aload_n 0, 1) := by decide +kernel
theorem dX7_compared_33 : decode cX7_compared 33 = .ok (.getfield 70, 3) := by decide +kernel
theorem dX7_compared_36 : decode cX7_compared 36 = .ok (.bipush 18, 2) := by decide +kernel
theorem dX7_compared_38 : decode cX7_compared 38 = .ok (.iload_n 1, 1) := by decide +kernel
theorem dX7_compared_39 : decode cX7_compared 39 = .ok (.iadd, 1) := by decide +kernel
theorem dX7_compared_40 : decode cX7_compared 40 = .ok (.iaload, 1) := by decide +kernel
theorem dX7_compared_41 : decode cX7_compared 41 = .ok (.iastore, 1) := by decide +kernel
theorem dX7_compared_42 : decode cX7_compared 42 = .ok (.aload_n 0, 1) := by decide +kernel
theorem dX7_compared_43 : decode cX7_compared 43 = .ok (.getfield 22, 3) := by decide +kernel
theorem dX7_compared_46 : decode cX7_compared 46 = .ok (.iload_n 1, 1) := by decide +kernel
theorem dX7_compared_47 : decode cX7_compared 47 = .ok (.aload_n 0, 1) := by decide +kernel
theorem dX7_compared_48 : decode cX7_compared 48 = .ok (.getfield 70, 3) := by decide +kernel
theorem dX7_compared_51 : decode cX7_compared 51 = .ok (.bipush 34, 2) := by decide +kernel
theorem dX7_compared_53 : decode cX7_compared 53 = .ok (.iload_n 1, 1) := by decide +kernel
theorem dX7_compared_54 : decode cX7_compared 54 = .ok (.iadd, 1) := by decide +kernel
theorem dX7_compared_55 : decode cX7_compared 55 = .ok (.iaload, 1) := by decide +kernel
theorem dX7_compared_56 : decode cX7_compared 56 = .ok (.iastore, 1) := by decide +kernel
theorem dX7_compared_57 : decode cX7_compared 57 = .ok (.iinc 1 1, 3) := by decide +kernel
theorem dX7_compared_60 : decode cX7_compared 60 = .ok (.goto (-39), 3) := by decide +kernel
theorem dX7_compared_63 : decode cX7_compared 63 = .ok (.aload_n 0, 1) := by decide +kernel
theorem dX7_compared_64 : decode cX7_compared 64 = .ok (.invokevirtual 220, 3) := by decide +kernel
theorem dX7_compared_67 : decode cX7_compared 67 = .ok (.istore_n 1, 1) := by decide +kernel
theorem dX7_compared_68 : decode cX7_compared 68 = .ok (.iload_n 1, 1) := by decide +kernel
theorem dX7_compared_69 : decode cX7_compared 69 = .ok (.ifCond .eq 18, 3) := by decide +kernel
theorem dX7_compared_72 : decode cX7_compared 72 = .ok (.aload_n 0, 1) := by decide +kernel
theorem dX7_compared_73 : decode cX7_compared 73 = .ok (.getfield 203, 3) := by decide +kernel
theorem dX7_compared_76 : decode cX7_compared 76 = .ok (.aload_n 0, 1) := by decide +kernel
theorem dX7_compared_77 : decode cX7_compared 77 = .ok (.getfield 236, 3) := by decide +kernel
theorem dX7_compared_80 : decode cX7_compared 80 = .ok (.if_icmp .ne 7, 3) := by decide +kernel
theorem dX7_compared_83 : decode cX7_compared 83 = .ok (.iconst 1, 1) := by decide +kernel
theorem dX7_compared_84 : decode cX7_compared 84 = .ok (.goto 4, 3) := by decide +kernel
theorem dX7_compared_87 : decode cX7_compared 87 = .ok (.iconst 0, 1) := by decide +kernel
theorem dX7_compared_88 : decode cX7_compared 88 = .ok (.istore_n 2, 1) := by decide +kernel
theorem dX7_compared_89 : decode cX7_compared 89 = .ok (.iload_n 2, 1) := by decide +kernel
theorem dX7_compared_90 : decode cX7_compared 90 = .ok (.ifCond .eq 7, 3) := by decide +kernel
theorem dX7_compared_93 : decode cX7_compared 93 = .ok (.aload_n 0, 1) := by decide +kernel
theorem dX7_compared_94 : decode cX7_compared 94 = .ok (.invokevirtual 223, 3) := by decide +kernel
theorem dX7_compared_97 : decode cX7_compared 97 = .ok (.iconst 0, 1) := by decide +kernel
theorem dX7_compared_98 : decode cX7_compared 98 = .ok (.istore_n 3, 1) := by decide +kernel
theorem dX7_compared_99 : decode cX7_compared 99 = .ok (.iload_n 3, 1) := by decide +kernel
theorem dX7_compared_100 : decode cX7_compared 100 = .ok (.aload_n 0, 1) := by decide +kernel
theorem dX7_compared_101 : decode cX7_compared 101 = .ok (.getfield 203, 3) := by decide +kernel
theorem dX7_compared_104 : decode cX7_compared 104 = .ok (.if_icmp .ge 38, 3) := by decide +kernel
theorem dX7_compared_107 : decode cX7_compared 107 = .ok (.iload_n 2, 1) := by decide +kernel
theorem dX7_compared_108 : decode cX7_compared 108 = .ok (.ifCond .eq 34, 3) := by decide +kernel
theorem dX7_compared_111 : decode cX7_compared 111 = .ok (.aload_n 0, 1) := by decide +kernel
theorem dX7_compared_112 : decode cX7_compared 112 = .ok (.getfield 49, 3) := by decide +kernel
theorem dX7_compared_115 : decode cX7_compared 115 = .ok (.aload_n 0, 1) := by decide +kernel
theorem dX7_compared_116 : decode cX7_compared 116 = .ok (.getfield 46, 3) := by decide +kernel
theorem dX7_compared_119 : decode cX7_compared 119 = .ok (.iload_n 3, 1) := by decide +kernel
theorem dX7_compared_120 : decode cX7_compared 120 = .ok (.iaload, 1) := by decide +kernel
theorem dX7_compared_121 : decode cX7_compared 121 = .ok (.iaload, 1) := by decide +kernel
theorem dX7_compared_122 : decode cX7_compared 122 = .ok (.aload_n 0, 1) := by decide +kernel
theorem dX7_compared_123 : decode cX7_compared 123 = .ok (.iload_n 3, 1) := by decide +kernel
theorem dX7_compared_124 : decode cX7_compared 124 = .ok (.invokevirtual 209, 3) := by decide +kernel
theorem dX7_compared_127 : decode cX7_compared 127 = .ok (.if_icmp .ne 7, 3) := by decide +kernel
theorem dX7_compared_130 : decode cX7_compared 130 = .ok (.iconst 1, 1) := by decide +kernel
theorem dX7_compared_131 : decode cX7_compared 131 = .ok (.goto 4, 3) := by decide +kernel
theorem dX7_compared_134 : decode cX7_compared 134 = .ok (.iconst 0, 1) := by decide +kernel
theorem dX7_compared_135 : decode cX7_compared 135 = .ok (.istore_n 2, 1) := by decide +kernel
theorem dX7_compared_136 : decode cX7_compared 136 = .ok (.iinc 3 1, 3) := by decide +kernel
theorem dX7_compared_139 : decode cX7_compared 139 = .ok (.goto (-40), 3) := by decide +kernel
theorem dX7_compared_142 : decode cX7_compared 142 = .ok (.aload_n 0, 1) := by decide +kernel
theorem dX7_compared_143 : decode cX7_compared 143 = .ok (.invokevirtual 245, 3) := by decide +kernel
theorem dX7_compared_146 : decode cX7_compared 146 = .ok (.iload_n 1, 1) := by decide +kernel
theorem dX7_compared_147 : decode cX7_compared 147 = .ok (.ifCond .ne 8, 3) := by decide +kernel
theorem dX7_compared_150 : decode cX7_compared 150 = .ok (.bipush (-5), 2) := by decide +kernel
theorem dX7_compared_152 : decode cX7_compared 152 = .ok (.goto 12, 3) := by decide +kernel
theorem dX7_compared_155 : decode cX7_compared 155 = .ok (.iload_n 2, 1) := by decide +kernel
theorem dX7_compared_156 : decode cX7_compared 156 = .ok (.ifCond .eq 7, 3) := by decide +kernel
theorem dX7_compared_159 : decode cX7_compared 159 = .ok (.iconst 1, 1) := by decide +kernel
theorem dX7_compared_160 : decode cX7_compared 160 = .ok (.goto 4, 3) := by decide +kernel
theorem dX7_compared_163 : decode cX7_compared 163 = .ok (.iconst 0, 1) := by decide +kernel
theorem dX7_compared_164 : decode cX7_compared 164 = .ok (.ireturn, 1) := by decide +kernel
theorem dX7_stages_0 : decode cX7_stages 0 = .ok (.iload_n 1, 1) := by decide +kernel
theorem dX7_stages_1 : decode cX7_stages 1 = .ok (.i2l, 1) := by decide +kernel
theorem dX7_stages_2 : decode cX7_stages 2 = .ok (.lconst 0, 1) := by decide +kernel
theorem dX7_stages_3 : decode cX7_stages 3 = .ok (.ldc2_w 248, 3) := by decide +kernel
theorem dX7_stages_6 : decode cX7_stages 6 = .ok (.invokestatic 79, 3) := by decide +kernel
theorem dX7_stages_9 : decode cX7_stages 9 = .ok (.ifCond .ne 6, 3) := by decide +kernel
theorem dX7_stages_12 : decode cX7_stages 12 = .ok (.bipush (-2), 2) := by decide +kernel
theorem dX7_stages_14 : decode cX7_stages 14 = .ok (.ireturn, 1) := by decide +kernel
theorem dX7_stages_15 : decode cX7_stages 15 = .ok (.iload_n 1, 1) := by decide +kernel
theorem dX7_stages_16 : decode cX7_stages 16 = .ok (.bipush 6, 2) := by decide +kernel
theorem dX7_stages_18 : decode cX7_stages 18 = .ok (.if_icmp .ne 15, 3) := by decide +kernel
theorem dX7_stages_21 : decode cX7_stages 21 = .ok (.aload_n 0, 1) := by decide +kernel
theorem dX7_stages_22 : decode cX7_stages 22 = .ok (.getfield 73, 3) := by decide +kernel
theorem dX7_stages_25 : decode cX7_stages 25 = .ok (.iconst 0, 1) := by decide +kernel
theorem dX7_stages_26 : decode cX7_stages 26 = .ok (.baload, 1) := by decide +kernel
theorem dX7_stages_27 : decode cX7_stages 27 = .ok (.ifCond .ne 6, 3) := by decide +kernel
theorem dX7_stages_30 : decode cX7_stages 30 = .ok (.bipush (-3), 2) := by decide +kernel
theorem dX7_stages_32 : decode cX7_stages 32 = .ok (.ireturn, 1) := by decide +kernel
theorem dX7_stages_33 : decode cX7_stages 33 = .ok (.aload_n 0, 1) := by decide +kernel
theorem dX7_stages_34 : decode cX7_stages 34 = .ok (.invokevirtual 226, 3) := by decide +kernel
theorem dX7_stages_37 : decode cX7_stages 37 = .ok (.ifCond .ne 6, 3) := by decide +kernel
theorem dX7_stages_40 : decode cX7_stages 40 = .ok (.bipush (-5), 2) := by decide +kernel
theorem dX7_stages_42 : decode cX7_stages 42 = .ok (.ireturn, 1) := by decide +kernel
theorem dX7_stages_43 : decode cX7_stages 43 = .ok (.iload_n 1, 1) := by decide +kernel
theorem dX7_stages_44 : decode cX7_stages 44 = .ok (.tableswitch 103 0 5 #[40, 45, 65, 70, 93, 98], 40) := by decide +kernel
theorem dX7_stages_84 : decode cX7_stages 84 = .ok (.aload_n 0, 1) := by decide +kernel
theorem dX7_stages_85 : decode cX7_stages 85 = .ok (.invokevirtual 229, 3) := by decide +kernel
theorem dX7_stages_88 : decode cX7_stages 88 = .ok (.ireturn, 1) := by decide +kernel
theorem dX7_stages_89 : decode cX7_stages 89 = .ok (.aload_n 0, 1) := by decide +kernel
theorem dX7_stages_90 : decode cX7_stages 90 = .ok (.getfield 203, 3) := by decide +kernel
theorem dX7_stages_93 : decode cX7_stages 93 = .ok (.ifCond .ne 7, 3) := by decide +kernel
theorem dX7_stages_96 : decode cX7_stages 96 = .ok (.iconst 0, 1) := by decide +kernel
theorem dX7_stages_97 : decode cX7_stages 97 = .ok (.goto 11, 3) := by decide +kernel
theorem dX7_stages_100 : decode cX7_stages 100 = .ok (.aload_n 0, 1) := by decide +kernel
theorem dX7_stages_101 : decode cX7_stages 101 = .ok (.aload_n 0, 1) := by decide +kernel
theorem dX7_stages_102 : decode cX7_stages 102 = .ok (.invokevirtual 250, 3) := by decide +kernel
theorem dX7_stages_105 : decode cX7_stages 105 = .ok (.invokevirtual 232, 3) := by decide +kernel
theorem dX7_stages_108 : decode cX7_stages 108 = .ok (.ireturn, 1) := by decide +kernel
theorem dX7_stages_109 : decode cX7_stages 109 = .ok (.aload_n 0, 1) := by decide +kernel
theorem dX7_stages_110 : decode cX7_stages 110 = .ok (.invokevirtual 250, 3) := by decide +kernel
theorem dX7_stages_113 : decode cX7_stages 113 = .ok (.ireturn, 1) := by decide +kernel
theorem dX7_stages_114 : decode cX7_stages 114 = .ok (.aload_n 0, 1) := by decide +kernel
theorem dX7_stages_115 : decode cX7_stages 115 = .ok (.getfield 203, 3) := by decide +kernel
theorem dX7_stages_118 : decode cX7_stages 118 = .ok (.ifCond .ne 7, 3) := by decide +kernel
theorem dX7_stages_121 : decode cX7_stages 121 = .ok (.iconst 0, 1) := by decide +kernel
theorem dX7_stages_122 : decode cX7_stages 122 = .ok (.goto 14, 3) := by decide +kernel
theorem dX7_stages_125 : decode cX7_stages 125 = .ok (.aload_n 0, 1) := by decide +kernel
theorem dX7_stages_126 : decode cX7_stages 126 = .ok (.getfield 203, 3) := by decide +kernel
theorem dX7_stages_129 : decode cX7_stages 129 = .ok (.aload_n 0, 1) := by decide +kernel
theorem dX7_stages_130 : decode cX7_stages 130 = .ok (.invokevirtual 229, 3) := by decide +kernel
theorem dX7_stages_133 : decode cX7_stages 133 = .ok (.invokestatic 253, 3) := by decide +kernel
theorem dX7_stages_136 : decode cX7_stages 136 = .ok (.ireturn, 1) := by decide +kernel
theorem dX7_stages_137 : decode cX7_stages 137 = .ok (.aload_n 0, 1) := by decide +kernel
theorem dX7_stages_138 : decode cX7_stages 138 = .ok (.invokevirtual 256, 3) := by decide +kernel
theorem dX7_stages_141 : decode cX7_stages 141 = .ok (.ireturn, 1) := by decide +kernel
theorem dX7_stages_142 : decode cX7_stages 142 = .ok (.aload_n 0, 1) := by decide +kernel
theorem dX7_stages_143 : decode cX7_stages 143 = .ok (.invokevirtual 259, 3) := by decide +kernel
theorem dX7_stages_146 : decode cX7_stages 146 = .ok (.ireturn, 1) := by decide +kernel
theorem dX7_stages_147 : decode cX7_stages 147 = .ok (.aload_n 0, 1) := by decide +kernel
theorem dX7_stages_148 : decode cX7_stages 148 = .ok (.invokevirtual 262, 3) := by decide +kernel
theorem dX7_stages_151 : decode cX7_stages 151 = .ok (.ireturn, 1) := by decide +kernel
theorem dX7_push_0 : decode cX7_push 0 = .ok (.aload_n 0, 1) := by decide +kernel
theorem dX7_push_1 : decode cX7_push 1 = .ok (.getfield 58, 3) := by decide +kernel
theorem dX7_push_4 : decode cX7_push 4 = .ok (.aload_n 0, 1) := by decide +kernel
theorem dX7_push_5 : decode cX7_push 5 = .ok (.getfield 265, 3) := by decide +kernel
theorem dX7_push_8 : decode cX7_push 8 = .ok (.iload_n 1, 1) := by decide +kernel
theorem dX7_push_9 : decode cX7_push 9 = .ok (.iastore, 1) := by decide +kernel
theorem dX7_push_10 : decode cX7_push 10 = .ok (.aload_n 0, 1) := by decide +kernel
theorem dX7_push_11 : decode cX7_push 11 = .ok (.getfield 61, 3) := by decide +kernel
theorem dX7_push_14 : decode cX7_push 14 = .ok (.aload_n 0, 1) := by decide +kernel
theorem dX7_push_15 : decode cX7_push 15 = .ok (.getfield 265, 3) := by decide +kernel
theorem dX7_push_18 : decode cX7_push 18 = .ok (.iconst 0, 1) := by decide +kernel
theorem dX7_push_19 : decode cX7_push 19 = .ok (.iastore, 1) := by decide +kernel
theorem dX7_push_20 : decode cX7_push 20 = .ok (.aload_n 0, 1) := by decide +kernel
theorem dX7_push_21 : decode cX7_push 21 = .ok (.getfield 64, 3) := by decide +kernel
theorem dX7_push_24 : decode cX7_push 24 = .ok (.aload_n 0, 1) := by decide +kernel
theorem dX7_push_25 : decode cX7_push 25 = .ok (.getfield 265, 3) := by decide +kernel
theorem dX7_push_28 : decode cX7_push 28 = .ok (.iload_n 2, 1) := by decide +kernel
theorem dX7_push_29 : decode cX7_push 29 = .ok (.iastore, 1) := by decide +kernel
theorem dX7_push_30 : decode cX7_push 30 = .ok (.aload_n 0, 1) := by decide +kernel
theorem dX7_push_31 : decode cX7_push 31 = .ok (.dup, 1) := by decide +kernel
theorem dX7_push_32 : decode cX7_push 32 = .ok (.getfield 265, 3) := by decide +kernel
theorem dX7_push_35 : decode cX7_push 35 = .ok (.iconst 1, 1) := by decide +kernel
theorem dX7_push_36 : decode cX7_push 36 = .ok (.iadd, 1) := by decide +kernel
theorem dX7_push_37 : decode cX7_push 37 = .ok (.putfield 265, 3) := by decide +kernel
theorem dX7_push_40 : decode cX7_push 40 = .ok (.return_, 1) := by decide +kernel
theorem dX7_isThrowing_0 : decode cX7_isThrowing 0 = .ok (.aload_n 0, 1) := by decide +kernel
theorem dX7_isThrowing_1 : decode cX7_isThrowing 1 = .ok (.getfield 133, 3) := by decide +kernel
theorem dX7_isThrowing_4 : decode cX7_isThrowing 4 = .ok (.bipush 63, 2) := by decide +kernel
theorem dX7_isThrowing_6 : decode cX7_isThrowing 6 = .ok (.if_icmp .ne 21, 3) := by decide +kernel
theorem dX7_isThrowing_9 : decode cX7_isThrowing 9 = .ok (.aload_n 0, 1) := by decide +kernel
theorem dX7_isThrowing_10 : decode cX7_isThrowing 10 = .ok (.getfield 40, 3) := by decide +kernel
theorem dX7_isThrowing_13 : decode cX7_isThrowing 13 = .ok (.aload_n 0, 1) := by decide +kernel
theorem dX7_isThrowing_14 : decode cX7_isThrowing 14 = .ok (.getfield 124, 3) := by decide +kernel
theorem dX7_isThrowing_17 : decode cX7_isThrowing 17 = .ok (.iaload, 1) := by decide +kernel
theorem dX7_isThrowing_18 : decode cX7_isThrowing 18 = .ok (.ifCond .ne 7, 3) := by decide +kernel
theorem dX7_isThrowing_21 : decode cX7_isThrowing 21 = .ok (.iconst 1, 1) := by decide +kernel
theorem dX7_isThrowing_22 : decode cX7_isThrowing 22 = .ok (.goto 4, 3) := by decide +kernel
theorem dX7_isThrowing_25 : decode cX7_isThrowing 25 = .ok (.iconst 0, 1) := by decide +kernel
theorem dX7_isThrowing_26 : decode cX7_isThrowing 26 = .ok (.ireturn, 1) := by decide +kernel
theorem dX7_isThrowing_27 : decode cX7_isThrowing 27 = .ok (.aload_n 0, 1) := by decide +kernel
theorem dX7_isThrowing_28 : decode cX7_isThrowing 28 = .ok (.getfield 40, 3) := by decide +kernel
theorem dX7_isThrowing_31 : decode cX7_isThrowing 31 = .ok (.aload_n 0, 1) := by decide +kernel
theorem dX7_isThrowing_32 : decode cX7_isThrowing 32 = .ok (.getfield 124, 3) := by decide +kernel
theorem dX7_isThrowing_35 : decode cX7_isThrowing 35 = .ok (.aload_n 0, 1) := by decide +kernel
theorem dX7_isThrowing_36 : decode cX7_isThrowing 36 = .ok (.getfield 133, 3) := by decide +kernel
theorem dX7_isThrowing_39 : decode cX7_isThrowing 39 = .ok (.bipush 61, 2) := by decide +kernel
theorem dX7_isThrowing_41 : decode cX7_isThrowing 41 = .ok (.if_icmp .eq 12, 3) := by decide +kernel
theorem dX7_isThrowing_44 : decode cX7_isThrowing 44 = .ok (.aload_n 0, 1) := by decide +kernel
theorem dX7_isThrowing_45 : decode cX7_isThrowing 45 = .ok (.getfield 133, 3) := by decide +kernel
theorem dX7_isThrowing_48 : decode cX7_isThrowing 48 = .ok (.bipush 35, 2) := by decide +kernel
theorem dX7_isThrowing_50 : decode cX7_isThrowing 50 = .ok (.if_icmp .ne 10, 3) := by decide +kernel
theorem dX7_isThrowing_53 : decode cX7_isThrowing 53 = .ok (.aload_n 0, 1) := by decide +kernel
theorem dX7_isThrowing_54 : decode cX7_isThrowing 54 = .ok (.getfield 112, 3) := by decide +kernel
theorem dX7_isThrowing_57 : decode cX7_isThrowing 57 = .ok (.goto 20, 3) := by decide +kernel
theorem dX7_isThrowing_60 : decode cX7_isThrowing 60 = .ok (.aload_n 0, 1) := by decide +kernel
theorem dX7_isThrowing_61 : decode cX7_isThrowing 61 = .ok (.getfield 40, 3) := by decide +kernel
theorem dX7_isThrowing_64 : decode cX7_isThrowing 64 = .ok (.aload_n 0, 1) := by decide +kernel
theorem dX7_isThrowing_65 : decode cX7_isThrowing 65 = .ok (.getfield 124, 3) := by decide +kernel
theorem dX7_isThrowing_68 : decode cX7_isThrowing 68 = .ok (.iaload, 1) := by decide +kernel
theorem dX7_isThrowing_69 : decode cX7_isThrowing 69 = .ok (.aload_n 0, 1) := by decide +kernel
theorem dX7_isThrowing_70 : decode cX7_isThrowing 70 = .ok (.getfield 112, 3) := by decide +kernel
theorem dX7_isThrowing_73 : decode cX7_isThrowing 73 = .ok (.iadd, 1) := by decide +kernel
theorem dX7_isThrowing_74 : decode cX7_isThrowing 74 = .ok (.bipush 100, 2) := by decide +kernel
