theorem dX7_isThrowing_76 : decode cX7_isThrowing 76 = .ok (.irem, 1) := by decide +kernel
theorem dX7_isThrowing_77 : decode cX7_isThrowing 77 = .ok (.iastore, 1) := by decide +kernel
theorem dX7_isThrowing_78 : decode cX7_isThrowing 78 = .ok (.iconst 0, 1) := by decide +kernel
theorem dX7_isThrowing_79 : decode cX7_isThrowing 79 = .ok (.ireturn, 1) := by decide +kernel
theorem dX7_doCall_0 : decode cX7_doCall 0 = .ok (.aload_n 0, 1) := by decide +kernel
theorem dX7_doCall_1 : decode cX7_doCall 1 = .ok (.iconst 0, 1) := by decide +kernel
theorem dX7_doCall_2 : decode cX7_doCall 2 = .ok (.putfield 265, 3) := by decide +kernel
theorem dX7_doCall_5 : decode cX7_doCall 5 = .ok (.aload_n 0, 1) := by decide +kernel
theorem dX7_doCall_6 : decode cX7_doCall 6 = .ok (.iconst 0, 1) := by decide +kernel
theorem dX7_doCall_7 : decode cX7_doCall 7 = .ok (.putfield 268, 3) := by decide +kernel
theorem dX7_doCall_10 : decode cX7_doCall 10 = .ok (.aload_n 0, 1) := by decide +kernel
theorem dX7_doCall_11 : decode cX7_doCall 11 = .ok (.aload_n 0, 1) := by decide +kernel
theorem dX7_doCall_12 : decode cX7_doCall 12 = .ok (.getfield 19, 3) := by decide +kernel
theorem dX7_doCall_15 : decode cX7_doCall 15 = .ok (.iload_n 1, 1) := by decide +kernel
theorem dX7_doCall_16 : decode cX7_doCall 16 = .ok (.iaload, 1) := by decide +kernel
theorem dX7_doCall_17 : decode cX7_doCall 17 = .ok (.aload_n 0, 1) := by decide +kernel
theorem dX7_doCall_18 : decode cX7_doCall 18 = .ok (.getfield 22, 3) := by decide +kernel
theorem dX7_doCall_21 : decode cX7_doCall 21 = .ok (.iload_n 1, 1) := by decide +kernel
theorem dX7_doCall_22 : decode cX7_doCall 22 = .ok (.iaload, 1) := by decide +kernel
theorem dX7_doCall_23 : decode cX7_doCall 23 = .ok (.invokevirtual 271, 3) := by decide +kernel
theorem dX7_doCall_26 : decode cX7_doCall 26 = .ok (.aload_n 0, 1) := by decide +kernel
theorem dX7_doCall_27 : decode cX7_doCall 27 = .ok (.getfield 265, 3) := by decide +kernel
theorem dX7_doCall_30 : decode cX7_doCall 30 = .ok (.ifCond .le 151, 3) := by decide +kernel
theorem dX7_doCall_33 : decode cX7_doCall 33 = .ok (.aload_n 0, 1) := by decide +kernel
theorem dX7_doCall_34 : decode cX7_doCall 34 = .ok (.getfield 265, 3) := by decide +kernel
theorem dX7_doCall_37 : decode cX7_doCall 37 = .ok (.iconst 1, 1) := by decide +kernel
theorem dX7_doCall_38 : decode cX7_doCall 38 = .ok (.isub, 1) := by decide +kernel
theorem dX7_doCall_39 : decode cX7_doCall 39 = .ok (.istore_n 2, 1) := by decide +kernel
theorem dX7_doCall_40 : decode cX7_doCall 40 = .ok (.aload_n 0, 1) := by decide +kernel
theorem dX7_doCall_41 : decode cX7_doCall 41 = .ok (.aload_n 0, 1) := by decide +kernel
theorem dX7_doCall_42 : decode cX7_doCall 42 = .ok (.getfield 58, 3) := by decide +kernel
theorem dX7_doCall_45 : decode cX7_doCall 45 = .ok (.iload_n 2, 1) := by decide +kernel
theorem dX7_doCall_46 : decode cX7_doCall 46 = .ok (.iaload, 1) := by decide +kernel
theorem dX7_doCall_47 : decode cX7_doCall 47 = .ok (.putfield 99, 3) := by decide +kernel
theorem dX7_doCall_50 : decode cX7_doCall 50 = .ok (.aload_n 0, 1) := by decide +kernel
theorem dX7_doCall_51 : decode cX7_doCall 51 = .ok (.aload_n 0, 1) := by decide +kernel
theorem dX7_doCall_52 : decode cX7_doCall 52 = .ok (.getfield 61, 3) := by decide +kernel
theorem dX7_doCall_55 : decode cX7_doCall 55 = .ok (.iload_n 2, 1) := by decide +kernel
theorem dX7_doCall_56 : decode cX7_doCall 56 = .ok (.iaload, 1) := by decide +kernel
theorem dX7_doCall_57 : decode cX7_doCall 57 = .ok (.putfield 95, 3) := by decide +kernel
theorem dX7_doCall_60 : decode cX7_doCall 60 = .ok (.aload_n 0, 1) := by decide +kernel
theorem dX7_doCall_61 : decode cX7_doCall 61 = .ok (.invokevirtual 153, 3) := by decide +kernel
theorem dX7_doCall_64 : decode cX7_doCall 64 = .ok (.ifCond .ne 16, 3) := by decide +kernel
theorem dX7_doCall_67 : decode cX7_doCall 67 = .ok (.aload_n 0, 1) := by decide +kernel
theorem dX7_doCall_68 : decode cX7_doCall 68 = .ok (.dup, 1) := by decide +kernel
theorem dX7_doCall_69 : decode cX7_doCall 69 = .ok (.getfield 265, 3) := by decide +kernel
theorem dX7_doCall_72 : decode cX7_doCall 72 = .ok (.iconst 1, 1) := by decide +kernel
theorem dX7_doCall_73 : decode cX7_doCall 73 = .ok (.isub, 1) := by decide +kernel
theorem dX7_doCall_74 : decode cX7_doCall 74 = .ok (.putfield 265, 3) := by decide +kernel
theorem dX7_doCall_77 : decode cX7_doCall 77 = .ok (.goto 101, 3) := by decide +kernel
theorem dX7_doCall_80 : decode cX7_doCall 80 = .ok (.aload_n 0, 1) := by decide +kernel
theorem dX7_doCall_81 : decode cX7_doCall 81 = .ok (.aload_n 0, 1) := by decide +kernel
theorem dX7_doCall_82 : decode cX7_doCall 82 = .ok (.getfield 64, 3) := by decide +kernel
theorem dX7_doCall_85 : decode cX7_doCall 85 = .ok (.iload_n 2, 1) := by decide +kernel
theorem dX7_doCall_86 : decode cX7_doCall 86 = .ok (.iaload, 1) := by decide +kernel
theorem dX7_doCall_87 : decode cX7_doCall 87 = .ok (.invokevirtual 156, 3) := by decide +kernel
theorem dX7_doCall_90 : decode cX7_doCall 90 = .ok (.istore_n 3, 1) := by decide +kernel
theorem dX7_doCall_91 : decode cX7_doCall 91 = .ok (.aload_n 0, 1) := by decide +kernel
theorem dX7_doCall_92 : decode cX7_doCall 92 = .ok (.getfield 61, 3) := by decide +kernel
theorem dX7_doCall_95 : decode cX7_doCall 95 = .ok (.iload_n 2, 1) := by decide +kernel
theorem dX7_doCall_96 : decode cX7_doCall 96 = .ok (.aload_n 0, 1) := by decide +kernel
theorem dX7_doCall_97 : decode cX7_doCall 97 = .ok (.getfield 95, 3) := by decide +kernel
theorem dX7_doCall_100 : decode cX7_doCall 100 = .ok (.iastore, 1) := by decide +kernel
theorem dX7_doCall_101 : decode cX7_doCall 101 = .ok (.aload_n 0, 1) := by decide +kernel
theorem dX7_doCall_102 : decode cX7_doCall 102 = .ok (.dup, 1) := by decide +kernel
theorem dX7_doCall_103 : decode cX7_doCall 103 = .ok (.getfield 268, 3) := by decide +kernel
theorem dX7_doCall_106 : decode cX7_doCall 106 = .ok (.iconst 1, 1) := by decide +kernel
theorem dX7_doCall_107 : decode cX7_doCall 107 = .ok (.iadd, 1) := by decide +kernel
theorem dX7_doCall_108 : decode cX7_doCall 108 = .ok (.putfield 268, 3) := by decide +kernel
theorem dX7_doCall_111 : decode cX7_doCall 111 = .ok (.iload_n 3, 1) := by decide +kernel
theorem dX7_doCall_112 : decode cX7_doCall 112 = .ok (.ifCond .eq 31, 3) := by decide +kernel
theorem dX7_doCall_115 : decode cX7_doCall 115 = .ok (.aload_n 0, 1) := by decide +kernel
theorem dX7_doCall_116 : decode cX7_doCall 116 = .ok (.getfield 268, 3) := by decide +kernel
theorem dX7_doCall_119 : decode cX7_doCall 119 = .ok (.sipush 200, 3) := by decide +kernel
theorem dX7_doCall_122 : decode cX7_doCall 122 = .ok (.if_icmp .gt 21, 3) := by decide +kernel
theorem dX7_doCall_125 : decode cX7_doCall 125 = .ok (.aload_n 0, 1) := by decide +kernel
theorem dX7_doCall_126 : decode cX7_doCall 126 = .ok (.getfield 133, 3) := by decide +kernel
theorem dX7_doCall_129 : decode cX7_doCall 129 = .ok (.bipush 99, 2) := by decide +kernel
theorem dX7_doCall_131 : decode cX7_doCall 131 = .ok (.if_icmp .ne 14, 3) := by decide +kernel
theorem dX7_doCall_134 : decode cX7_doCall 134 = .ok (.aload_n 0, 1) := by decide +kernel
theorem dX7_doCall_135 : decode cX7_doCall 135 = .ok (.getfield 265, 3) := by decide +kernel
theorem dX7_doCall_138 : decode cX7_doCall 138 = .ok (.bipush 20, 2) := by decide +kernel
theorem dX7_doCall_140 : decode cX7_doCall 140 = .ok (.if_icmp .ne 5, 3) := by decide +kernel
theorem dX7_doCall_143 : decode cX7_doCall 143 = .ok (.iconst 2, 1) := by decide +kernel
theorem dX7_doCall_144 : decode cX7_doCall 144 = .ok (.ireturn, 1) := by decide +kernel
theorem dX7_doCall_145 : decode cX7_doCall 145 = .ok (.aload_n 0, 1) := by decide +kernel
theorem dX7_doCall_146 : decode cX7_doCall 146 = .ok (.getfield 133, 3) := by decide +kernel
theorem dX7_doCall_149 : decode cX7_doCall 149 = .ok (.bipush 99, 2) := by decide +kernel
theorem dX7_doCall_151 : decode cX7_doCall 151 = .ok (.if_icmp .ne 18, 3) := by decide +kernel
theorem dX7_doCall_154 : decode cX7_doCall 154 = .ok (.aload_n 0, 1) := by decide +kernel
theorem dX7_doCall_155 : decode cX7_doCall 155 = .ok (.aload_n 0, 1) := by decide +kernel
theorem dX7_doCall_156 : decode cX7_doCall 156 = .ok (.getfield 127, 3) := by decide +kernel
theorem dX7_doCall_159 : decode cX7_doCall 159 = .ok (.aload_n 0, 1) := by decide +kernel
theorem dX7_doCall_160 : decode cX7_doCall 160 = .ok (.getfield 130, 3) := by decide +kernel
theorem dX7_doCall_163 : decode cX7_doCall 163 = .ok (.invokevirtual 271, 3) := by decide +kernel
theorem dX7_doCall_166 : decode cX7_doCall 166 = .ok (.goto 12, 3) := by decide +kernel
theorem dX7_doCall_169 : decode cX7_doCall 169 = .ok (.aload_n 0, 1) := by decide +kernel
theorem dX7_doCall_170 : decode cX7_doCall 170 = .ok (.invokevirtual 274, 3) := by decide +kernel
theorem dX7_doCall_173 : decode cX7_doCall 173 = .ok (.ifCond .eq 5, 3) := by decide +kernel
theorem dX7_doCall_176 : decode cX7_doCall 176 = .ok (.iconst 1, 1) := by decide +kernel
theorem dX7_doCall_177 : decode cX7_doCall 177 = .ok (.ireturn, 1) := by decide +kernel
theorem dX7_doCall_178 : decode cX7_doCall 178 = .ok (.goto (-152), 3) := by decide +kernel
theorem dX7_doCall_181 : decode cX7_doCall 181 = .ok (.iconst 0, 1) := by decide +kernel
theorem dX7_doCall_182 : decode cX7_doCall 182 = .ok (.ireturn, 1) := by decide +kernel
theorem dX7_kth_0 : decode cX7_kth 0 = .ok (.iconst 0, 1) := by decide +kernel
theorem dX7_kth_1 : decode cX7_kth 1 = .ok (.istore_n 3, 1) := by decide +kernel
theorem dX7_kth_2 : decode cX7_kth 2 = .ok (.iload_n 3, 1) := by decide +kernel
theorem dX7_kth_3 : decode cX7_kth 3 = .ok (.aload_n 0, 1) := by decide +kernel
theorem dX7_kth_4 : decode cX7_kth 4 = .ok (.getfield 203, 3) := by decide +kernel
theorem dX7_kth_7 : decode cX7_kth 7 = .ok (.if_icmp .ge 145, 3) := by decide +kernel
theorem dX7_kth_10 : decode cX7_kth 10 = .ok (.iconst 0, 1) := by decide +kernel
theorem dX7_kth_11 : decode cX7_kth 11 = .ok (.istore 4, 2) := by decide +kernel
theorem dX7_kth_13 : decode cX7_kth 13 = .ok (.iconst 0, 1) := by decide +kernel
theorem dX7_kth_14 : decode cX7_kth 14 = .ok (.istore 5, 2) := by decide +kernel
theorem dX7_kth_16 : decode cX7_kth 16 = .ok (.iload 5, 2) := by decide +kernel
theorem dX7_kth_18 : decode cX7_kth 18 = .ok (.aload_n 0, 1) := by decide +kernel
theorem dX7_kth_19 : decode cX7_kth 19 = .ok (.getfield 203, 3) := by decide +kernel
theorem dX7_kth_22 : decode cX7_kth 22 = .ok (.if_icmp .ge 116, 3) := by decide +kernel
theorem dX7_kth_25 : decode cX7_kth 25 = .ok (.aload_n 0, 1) := by decide +kernel
theorem dX7_kth_26 : decode cX7_kth 26 = .ok (.getfield 43, 3) := by decide +kernel
theorem dX7_kth_29 : decode cX7_kth 29 = .ok (.iload 5, 2) := by decide +kernel
theorem dX7_kth_31 : decode cX7_kth 31 = .ok (.iaload, 1) := by decide +kernel
theorem dX7_kth_32 : decode cX7_kth 32 = .ok (.aload_n 0, 1) := by decide +kernel
theorem dX7_kth_33 : decode cX7_kth 33 = .ok (.getfield 43, 3) := by decide +kernel
theorem dX7_kth_36 : decode cX7_kth 36 = .ok (.iload_n 3, 1) := by decide +kernel
theorem dX7_kth_37 : decode cX7_kth 37 = .ok (.iaload, 1) := by decide +kernel
theorem dX7_kth_38 : decode cX7_kth 38 = .ok (.if_icmp .lt 25, 3) := by decide +kernel
theorem dX7_kth_41 : decode cX7_kth 41 = .ok (.aload_n 0, 1) := by decide +kernel
theorem dX7_kth_42 : decode cX7_kth 42 = .ok (.getfield 43, 3) := by decide +kernel
theorem dX7_kth_45 : decode cX7_kth 45 = .ok (.iload 5, 2) := by decide +kernel
theorem dX7_kth_47 : decode cX7_kth 47 = .ok (.iaload, 1) := by decide +kernel
theorem dX7_kth_48 : decode cX7_kth 48 = .ok (.aload_n 0, 1) := by decide +kernel
theorem dX7_kth_49 : decode cX7_kth 49 = .ok (.getfield 43, 3) := by decide +kernel
theorem dX7_kth_52 : decode cX7_kth 52 = .ok (.iload_n 3, 1) := by decide +kernel
theorem dX7_kth_53 : decode cX7_kth 53 = .ok (.iaload, 1) := by decide +kernel
theorem dX7_kth_54 : decode cX7_kth 54 = .ok (.if_icmp .ne 13, 3) := by decide +kernel
theorem dX7_kth_57 : decode cX7_kth 57 = .ok (.iload 5, 2) := by decide +kernel
theorem dX7_kth_59 : decode cX7_kth 59 = .ok (.iload_n 3, 1) := by decide +kernel
theorem dX7_kth_60 : decode cX7_kth 60 = .ok (.if_icmp .le 7, 3) := by decide +kernel
theorem dX7_kth_63 : decode cX7_kth 63 = .ok (.iconst 1, 1) := by decide +kernel
theorem dX7_kth_64 : decode cX7_kth 64 = .ok (.goto 4, 3) := by decide +kernel
theorem dX7_kth_67 : decode cX7_kth 67 = .ok (.iconst 0, 1) := by decide +kernel
theorem dX7_kth_68 : decode cX7_kth 68 = .ok (.istore 6, 2) := by decide +kernel
theorem dX7_kth_70 : decode cX7_kth 70 = .ok (.iload 4, 2) := by decide +kernel
theorem dX7_kth_72 : decode cX7_kth 72 = .ok (.iload_n 1, 1) := by decide +kernel
theorem dX7_kth_73 : decode cX7_kth 73 = .ok (.ifCond .ne 17, 3) := by decide +kernel
theorem dX7_kth_76 : decode cX7_kth 76 = .ok (.iload 5, 2) := by decide +kernel
theorem dX7_kth_78 : decode cX7_kth 78 = .ok (.iload_n 3, 1) := by decide +kernel
theorem dX7_kth_79 : decode cX7_kth 79 = .ok (.if_icmp .ge 7, 3) := by decide +kernel
theorem dX7_kth_82 : decode cX7_kth 82 = .ok (.iconst 1, 1) := by decide +kernel
theorem dX7_kth_83 : decode cX7_kth 83 = .ok (.goto 46, 3) := by decide +kernel
theorem dX7_kth_86 : decode cX7_kth 86 = .ok (.iconst 0, 1) := by decide +kernel
theorem dX7_kth_87 : decode cX7_kth 87 = .ok (.goto 42, 3) := by decide +kernel
theorem dX7_kth_90 : decode cX7_kth 90 = .ok (.iload_n 1, 1) := by decide +kernel
theorem dX7_kth_91 : decode cX7_kth 91 = .ok (.iconst 1, 1) := by decide +kernel
theorem dX7_kth_92 : decode cX7_kth 92 = .ok (.if_icmp .ne 16, 3) := by decide +kernel
theorem dX7_kth_95 : decode cX7_kth 95 = .ok (.iload 6, 2) := by decide +kernel
theorem dX7_kth_97 : decode cX7_kth 97 = .ok (.ifCond .eq 7, 3) := by decide +kernel
theorem dX7_kth_100 : decode cX7_kth 100 = .ok (.iconst 1, 1) := by decide +kernel
theorem dX7_kth_101 : decode cX7_kth 101 = .ok (.goto 28, 3) := by decide +kernel
theorem dX7_kth_104 : decode cX7_kth 104 = .ok (.iconst 0, 1) := by decide +kernel
theorem dX7_kth_105 : decode cX7_kth 105 = .ok (.goto 24, 3) := by decide +kernel
theorem dX7_kth_108 : decode cX7_kth 108 = .ok (.aload_n 0, 1) := by decide +kernel
theorem dX7_kth_109 : decode cX7_kth 109 = .ok (.getfield 46, 3) := by decide +kernel
theorem dX7_kth_112 : decode cX7_kth 112 = .ok (.iload 5, 2) := by decide +kernel
theorem dX7_kth_114 : decode cX7_kth 114 = .ok (.iaload, 1) := by decide +kernel
theorem dX7_kth_115 : decode cX7_kth 115 = .ok (.aload_n 0, 1) := by decide +kernel
theorem dX7_kth_116 : decode cX7_kth 116 = .ok (.getfield 46, 3) := by decide +kernel
theorem dX7_kth_119 : decode cX7_kth 119 = .ok (.iload_n 3, 1) := by decide +kernel
theorem dX7_kth_120 : decode cX7_kth 120 = .ok (.iaload, 1) := by decide +kernel
theorem dX7_kth_121 : decode cX7_kth 121 = .ok (.if_icmp .ge 7, 3) := by decide +kernel
theorem dX7_kth_124 : decode cX7_kth 124 = .ok (.iconst 1, 1) := by decide +kernel
theorem dX7_kth_125 : decode cX7_kth 125 = .ok (.goto 4, 3) := by decide +kernel
theorem dX7_kth_128 : decode cX7_kth 128 = .ok (.iconst 0, 1) := by decide +kernel
theorem dX7_kth_129 : decode cX7_kth 129 = .ok (.iadd, 1) := by decide +kernel
theorem dX7_kth_130 : decode cX7_kth 130 = .ok (.istore 4, 2) := by decide +kernel
theorem dX7_kth_132 : decode cX7_kth 132 = .ok (.iinc 5 1, 3) := by decide +kernel
theorem dX7_kth_135 : decode cX7_kth 135 = .ok (.goto (-119), 3) := by decide +kernel
theorem dX7_kth_138 : decode cX7_kth 138 = .ok (.iload 4, 2) := by decide +kernel
theorem dX7_kth_140 : decode cX7_kth 140 = .ok (.iload_n 2, 1) := by decide +kernel
theorem dX7_kth_141 : decode cX7_kth 141 = .ok (.if_icmp .ne 5, 3) := by decide +kernel
theorem dX7_kth_144 : decode cX7_kth 144 = .ok (.iload_n 3, 1) := by decide +kernel
theorem dX7_kth_145 : decode cX7_kth 145 = .ok (.ireturn, 1) := by decide +kernel
theorem dX7_kth_146 : decode cX7_kth 146 = .ok (.iinc 3 1, 3) := by decide +kernel
theorem dX7_kth_149 : decode cX7_kth 149 = .ok (.goto (-147), 3) := by decide +kernel
theorem dX7_kth_152 : decode cX7_kth 152 = .ok (.bipush (-6), 2) := by decide +kernel
theorem dX7_kth_154 : decode cX7_kth 154 = .ok (.ireturn, 1) := by decide +kernel
theorem dX7_isRun_0 : decode cX7_isRun 0 = .ok (.aload_n 0, 1) := by decide +kernel
theorem dX7_isRun_1 : decode cX7_isRun 1 = .ok (.invokevirtual 226, 3) := by decide +kernel
theorem dX7_isRun_4 : decode cX7_isRun 4 = .ok (.ifCond .ne 5, 3) := by decide +kernel
theorem dX7_isRun_7 : decode cX7_isRun 7 = .ok (.iconst 0, 1) := by decide +kernel
theorem dX7_isRun_8 : decode cX7_isRun 8 = .ok (.ireturn, 1) := by decide +kernel
theorem dX7_isRun_9 : decode cX7_isRun 9 = .ok (.iconst 0, 1) := by decide +kernel
theorem dX7_isRun_10 : decode cX7_isRun 10 = .ok (.istore_n 2, 1) := by decide +kernel
theorem dX7_isRun_11 : decode cX7_isRun 11 = .ok (.iload_n 2, 1) := by decide +kernel
theorem dX7_isRun_12 : decode cX7_isRun 12 = .ok (.bipush 18, 2) := by decide +kernel
theorem dX7_isRun_14 : decode cX7_isRun 14 = .ok (.if_icmp .ge 21, 3) := by decide +kernel
theorem dX7_isRun_17 : decode cX7_isRun 17 = .ok (.aload_n 0, 1) := by decide +kernel
theorem dX7_isRun_18 : decode cX7_isRun 18 = .ok (.getfield 40, 3) := by decide +kernel
theorem dX7_isRun_21 : decode cX7_isRun 21 = .ok (.iload_n 2, 1) := by decide +kernel
theorem dX7_isRun_22 : decode cX7_isRun 22 = .ok (.aload_n 0, 1) := by decide +kernel
theorem dX7_isRun_23 : decode cX7_isRun 23 = .ok (.getfield 16, 3) := by decide +kernel
theorem dX7_isRun_26 : decode cX7_isRun 26 = .ok (.iload_n 2, 1) := by decide +kernel
theorem dX7_isRun_27 : decode cX7_isRun 27 = .ok (.iaload, 1) := by decide +kernel
theorem dX7_isRun_28 : decode cX7_isRun 28 = .ok (.iastore, 1) := by decide +kernel
theorem dX7_isRun_29 : decode cX7_isRun 29 = .ok (.iinc 2 1, 3) := by decide +kernel
theorem dX7_isRun_32 : decode cX7_isRun 32 = .ok (.goto (-21), 3) := by decide +kernel
theorem dX7_isRun_35 : decode cX7_isRun 35 = .ok (.aload_n 0, 1) := by decide +kernel
theorem dX7_isRun_36 : decode cX7_isRun 36 = .ok (.iconst 0, 1) := by decide +kernel
theorem dX7_isRun_37 : decode cX7_isRun 37 = .ok (.putfield 277, 3) := by decide +kernel
theorem dX7_isRun_40 : decode cX7_isRun 40 = .ok (.aload_n 0, 1) := by decide +kernel
theorem dX7_isRun_41 : decode cX7_isRun 41 = .ok (.iconst 0, 1) := by decide +kernel
theorem dX7_isRun_42 : decode cX7_isRun 42 = .ok (.putfield 280, 3) := by decide +kernel
theorem dX7_isRun_45 : decode cX7_isRun 45 = .ok (.iconst 0, 1) := by decide +kernel
theorem dX7_isRun_46 : decode cX7_isRun 46 = .ok (.istore_n 2, 1) := by decide +kernel
theorem dX7_isRun_47 : decode cX7_isRun 47 = .ok (.iload_n 2, 1) := by decide +kernel
theorem dX7_isRun_48 : decode cX7_isRun 48 = .ok (.aload_n 0, 1) := by decide +kernel
theorem dX7_isRun_49 : decode cX7_isRun 49 = .ok (.getfield 203, 3) := by decide +kernel
theorem dX7_isRun_52 : decode cX7_isRun 52 = .ok (.if_icmp .ge 70, 3) := by decide +kernel
theorem dX7_isRun_55 : decode cX7_isRun 55 = .ok (.aload_n 0, 1) := by decide +kernel
theorem dX7_isRun_56 : decode cX7_isRun 56 = .ok (.iload_n 1, 1) := by decide +kernel
theorem dX7_isRun_57 : decode cX7_isRun 57 = .ok (.iload_n 2, 1) := by decide +kernel
theorem dX7_isRun_58 : decode cX7_isRun 58 = .ok (.invokevirtual 283, 3) := by decide +kernel
theorem dX7_isRun_61 : decode cX7_isRun 61 = .ok (.istore_n 3, 1) := by decide +kernel
theorem dX7_isRun_62 : decode cX7_isRun 62 = .ok (.aload_n 0, 1) := by decide +kernel
theorem dX7_isRun_63 : decode cX7_isRun 63 = .ok (.iload_n 3, 1) := by decide +kernel
theorem dX7_isRun_64 : decode cX7_isRun 64 = .ok (.invokevirtual 286, 3) := by decide +kernel
theorem dX7_isRun_67 : decode cX7_isRun 67 = .ok (.istore 4, 2) := by decide +kernel
theorem dX7_isRun_69 : decode cX7_isRun 69 = .ok (.iload 4, 2) := by decide +kernel
theorem dX7_isRun_71 : decode cX7_isRun 71 = .ok (.iconst 2, 1) := by decide +kernel
theorem dX7_isRun_72 : decode cX7_isRun 72 = .ok (.if_icmp .ne 5, 3) := by decide +kernel
theorem dX7_isRun_75 : decode cX7_isRun 75 = .ok (.iconst 0, 1) := by decide +kernel
theorem dX7_isRun_76 : decode cX7_isRun 76 = .ok (.ireturn, 1) := by decide +kernel
theorem dX7_isRun_77 : decode cX7_isRun 77 = .ok (.aload_n 0, 1) := by decide +kernel
theorem dX7_isRun_78 : decode cX7_isRun 78 = .ok (.dup, 1) := by decide +kernel
theorem dX7_isRun_79 : decode cX7_isRun 79 = .ok (.getfield 280, 3) := by decide +kernel
theorem dX7_isRun_82 : decode cX7_isRun 82 = .ok (.aload_n 0, 1) := by decide +kernel
theorem dX7_isRun_83 : decode cX7_isRun 83 = .ok (.getfield 268, 3) := by decide +kernel
theorem dX7_isRun_86 : decode cX7_isRun 86 = .ok (.iadd, 1) := by decide +kernel
theorem dX7_isRun_87 : decode cX7_isRun 87 = .ok (.putfield 280, 3) := by decide +kernel
theorem dX7_isRun_90 : decode cX7_isRun 90 = .ok (.iload 4, 2) := by decide +kernel
theorem dX7_isRun_92 : decode cX7_isRun 92 = .ok (.iconst 1, 1) := by decide +kernel
theorem dX7_isRun_93 : decode cX7_isRun 93 = .ok (.if_icmp .ne 23, 3) := by decide +kernel
theorem dX7_isRun_96 : decode cX7_isRun 96 = .ok (.aload_n 0, 1) := by decide +kernel
theorem dX7_isRun_97 : decode cX7_isRun 97 = .ok (.getfield 67, 3) := by decide +kernel
theorem dX7_isRun_100 : decode cX7_isRun 100 = .ok (.aload_n 0, 1) := by decide +kernel
theorem dX7_isRun_101 : decode cX7_isRun 101 = .ok (.getfield 277, 3) := by decide +kernel
theorem dX7_isRun_104 : decode cX7_isRun 104 = .ok (.iload_n 3, 1) := by decide +kernel
theorem dX7_isRun_105 : decode cX7_isRun 105 = .ok (.iastore, 1) := by decide +kernel
theorem dX7_isRun_106 : decode cX7_isRun 106 = .ok (.aload_n 0, 1) := by decide +kernel
theorem dX7_isRun_107 : decode cX7_isRun 107 = .ok (.dup, 1) := by decide +kernel
theorem dX7_isRun_108 : decode cX7_isRun 108 = .ok (.getfield 277, 3) := by decide +kernel
theorem dX7_isRun_111 : decode cX7_isRun 111 = .ok (.iconst 1, 1) := by decide +kernel
theorem dX7_isRun_112 : decode cX7_isRun 112 = .ok (.iadd, 1) := by decide +kernel
theorem dX7_isRun_113 : decode cX7_isRun 113 = .ok (.putfield 277, 3) := by decide +kernel
theorem dX7_isRun_116 : decode cX7_isRun 116 = .ok (.iinc 2 1, 3) := by decide +kernel
theorem dX7_isRun_119 : decode cX7_isRun 119 = .ok (.goto (-72), 3) := by decide +kernel
theorem dX7_isRun_122 : decode cX7_isRun 122 = .ok (.iconst 1, 1) := by decide +kernel
theorem dX7_isRun_123 : decode cX7_isRun 123 = .ok (.ireturn, 1) := by decide +kernel
theorem dX7_run_0 : decode cX7_run 0 = .ok (.iload_n 1, 1) := by decide +kernel
theorem dX7_run_1 : decode cX7_run 1 = .ok (.i2l, 1) := by decide +kernel
theorem dX7_run_2 : decode cX7_run 2 = .ok (.lconst 0, 1) := by decide +kernel
theorem dX7_run_3 : decode cX7_run 3 = .ok (.ldc2_w 289, 3) := by decide +kernel
theorem dX7_run_6 : decode cX7_run 6 = .ok (.invokestatic 79, 3) := by decide +kernel
theorem dX7_run_9 : decode cX7_run 9 = .ok (.ifCond .eq 15, 3) := by decide +kernel
theorem dX7_run_12 : decode cX7_run 12 = .ok (.iload_n 2, 1) := by decide +kernel
theorem dX7_run_13 : decode cX7_run 13 = .ok (.i2l, 1) := by decide +kernel
theorem dX7_run_14 : decode cX7_run 14 = .ok (.lconst 0, 1) := by decide +kernel
theorem dX7_run_15 : decode cX7_run 15 = .ok (.ldc2_w 291, 3) := by decide +kernel
theorem dX7_run_18 : decode cX7_run 18 = .ok (.invokestatic 79, 3) := by decide +kernel
theorem dX7_run_21 : decode cX7_run 21 = .ok (.ifCond .ne 6, 3) := by decide +kernel
theorem dX7_run_24 : decode cX7_run 24 = .ok (.bipush (-2), 2) := by decide +kernel
theorem dX7_run_26 : decode cX7_run 26 = .ok (.ireturn, 1) := by decide +kernel
theorem dX7_run_27 : decode cX7_run 27 = .ok (.aload_n 0, 1) := by decide +kernel
theorem dX7_run_28 : decode cX7_run 28 = .ok (.iload_n 1, 1) := by decide +kernel
theorem dX7_run_29 : decode cX7_run 29 = .ok (.invokevirtual 293, 3) := by decide +kernel
theorem dX7_run_32 : decode cX7_run 32 = .ok (.ifCond .ne 6, 3) := by decide +kernel
theorem dX7_run_35 : decode cX7_run 35 = .ok (.bipush (-3), 2) := by decide +kernel
theorem dX7_run_37 : decode cX7_run 37 = .ok (.ireturn, 1) := by decide +kernel
theorem dX7_run_38 : decode cX7_run 38 = .ok (.iload_n 2, 1) := by decide +kernel
theorem dX7_run_39 : decode cX7_run 39 = .ok (.bipush 18, 2) := by decide +kernel
theorem dX7_run_41 : decode cX7_run 41 = .ok (.if_icmp .ge 12, 3) := by decide +kernel
theorem dX7_run_44 : decode cX7_run 44 = .ok (.aload_n 0, 1) := by decide +kernel
theorem dX7_run_45 : decode cX7_run 45 = .ok (.getfield 40, 3) := by decide +kernel
theorem dX7_run_48 : decode cX7_run 48 = .ok (.iload_n 2, 1) := by decide +kernel
theorem dX7_run_49 : decode cX7_run 49 = .ok (.iaload, 1) := by decide +kernel
theorem dX7_run_50 : decode cX7_run 50 = .ok (.goto 20, 3) := by decide +kernel
theorem dX7_run_53 : decode cX7_run 53 = .ok (.iload_n 2, 1) := by decide +kernel
theorem dX7_run_54 : decode cX7_run 54 = .ok (.bipush 18, 2) := by decide +kernel
theorem dX7_run_56 : decode cX7_run 56 = .ok (.if_icmp .ne 10, 3) := by decide +kernel
theorem dX7_run_59 : decode cX7_run 59 = .ok (.aload_n 0, 1) := by decide +kernel
theorem dX7_run_60 : decode cX7_run 60 = .ok (.getfield 277, 3) := by decide +kernel
theorem dX7_run_63 : decode cX7_run 63 = .ok (.goto 7, 3) := by decide +kernel
theorem dX7_run_66 : decode cX7_run 66 = .ok (.aload_n 0, 1) := by decide +kernel
theorem dX7_run_67 : decode cX7_run 67 = .ok (.getfield 280, 3) := by decide +kernel
theorem dX7_run_70 : decode cX7_run 70 = .ok (.ireturn, 1) := by decide +kernel
theorem dX7_thrower_0 : decode cX7_thrower 0 = .ok (.iload_n 1, 1) := by decide +kernel
theorem dX7_thrower_1 : decode cX7_thrower 1 = .ok (.i2l, 1) := by decide +kernel
theorem dX7_thrower_2 : decode cX7_thrower 2 = .ok (.lconst 0, 1) := by decide +kernel
theorem dX7_thrower_3 : decode cX7_thrower 3 = .ok (.ldc2_w 289, 3) := by decide +kernel
theorem dX7_thrower_6 : decode cX7_thrower 6 = .ok (.invokestatic 79, 3) := by decide +kernel
theorem dX7_thrower_9 : decode cX7_thrower 9 = .ok (.ifCond .ne 6, 3) := by decide +kernel
theorem dX7_thrower_12 : decode cX7_thrower 12 = .ok (.bipush (-2), 2) := by decide +kernel
theorem dX7_thrower_14 : decode cX7_thrower 14 = .ok (.ireturn, 1) := by decide +kernel
theorem dX7_thrower_15 : decode cX7_thrower 15 = .ok (.aload_n 0, 1) := by decide +kernel
theorem dX7_thrower_16 : decode cX7_thrower 16 = .ok (.iload_n 1, 1) := by decide +kernel
theorem dX7_thrower_17 : decode cX7_thrower 17 = .ok (.invokevirtual 293, 3) := by decide +kernel
theorem dX7_thrower_20 : decode cX7_thrower 20 = .ok (.ifCond .ne 6, 3) := by decide +kernel
theorem dX7_thrower_23 : decode cX7_thrower 23 = .ok (.bipush (-3), 2) := by decide +kernel
theorem dX7_thrower_25 : decode cX7_thrower 25 = .ok (.ireturn, 1) := by decide +kernel
theorem dX7_thrower_26 : decode cX7_thrower 26 = .ok (.iload_n 2, 1) := by decide +kernel
theorem dX7_thrower_27 : decode cX7_thrower 27 = .ok (.i2l, 1) := by decide +kernel
theorem dX7_thrower_28 : decode cX7_thrower 28 = .ok (.lconst 0, 1) := by decide +kernel
theorem dX7_thrower_29 : decode cX7_thrower 29 = .ok (.aload_n 0, 1) := by decide +kernel
theorem dX7_thrower_30 : decode cX7_thrower 30 = .ok (.getfield 277, 3) := by decide +kernel
theorem dX7_thrower_33 : decode cX7_thrower 33 = .ok (.iconst 1, 1) := by decide +kernel
theorem dX7_thrower_34 : decode cX7_thrower 34 = .ok (.isub, 1) := by decide +kernel
theorem dX7_thrower_35 : decode cX7_thrower 35 = .ok (.i2l, 1) := by decide +kernel
theorem dX7_thrower_36 : decode cX7_thrower 36 = .ok (.invokestatic 79, 3) := by decide +kernel
theorem dX7_thrower_39 : decode cX7_thrower 39 = .ok (.ifCond .eq 12, 3) := by decide +kernel
theorem dX7_thrower_42 : decode cX7_thrower 42 = .ok (.aload_n 0, 1) := by decide +kernel
theorem dX7_thrower_43 : decode cX7_thrower 43 = .ok (.getfield 67, 3) := by decide +kernel
theorem dX7_thrower_46 : decode cX7_thrower 46 = .ok (.iload_n 2, 1) := by decide +kernel
theorem dX7_thrower_47 : decode cX7_thrower 47 = .ok (.iaload, 1) := by decide +kernel
theorem dX7_thrower_48 : decode cX7_thrower 48 = .ok (.goto 5, 3) := by decide +kernel
theorem dX7_thrower_51 : decode cX7_thrower 51 = .ok (.bipush (-6), 2) := by decide +kernel
theorem dX7_thrower_53 : decode cX7_thrower 53 = .ok (.ireturn, 1) := by decide +kernel
theorem dX7_commit_0 : decode cX7_commit 0 = .ok (.aload_n 0, 1) := by decide +kernel
theorem dX7_commit_1 : decode cX7_commit 1 = .ok (.iconst 0, 1) := by decide +kernel
theorem dX7_commit_2 : decode cX7_commit 2 = .ok (.invokevirtual 293, 3) := by decide +kernel
theorem dX7_commit_5 : decode cX7_commit 5 = .ok (.ifCond .ne 6, 3) := by decide +kernel
theorem dX7_commit_8 : decode cX7_commit 8 = .ok (.bipush (-3), 2) := by decide +kernel
theorem dX7_commit_10 : decode cX7_commit 10 = .ok (.ireturn, 1) := by decide +kernel
theorem dX7_commit_11 : decode cX7_commit 11 = .ok (.iconst 0, 1) := by decide +kernel
theorem dX7_commit_12 : decode cX7_commit 12 = .ok (.istore_n 1, 1) := by decide +kernel
theorem dX7_commit_13 : decode cX7_commit 13 = .ok (.iload_n 1, 1) := by decide +kernel
theorem dX7_commit_14 : decode cX7_commit 14 = .ok (.bipush 18, 2) := by decide +kernel
theorem dX7_commit_16 : decode cX7_commit 16 = .ok (.if_icmp .ge 21, 3) := by decide +kernel
theorem dX7_commit_19 : decode cX7_commit 19 = .ok (.aload_n 0, 1) := by decide +kernel
theorem dX7_commit_20 : decode cX7_commit 20 = .ok (.getfield 16, 3) := by decide +kernel
theorem dX7_commit_23 : decode cX7_commit 23 = .ok (.iload_n 1, 1) := by decide +kernel
theorem dX7_commit_24 : decode cX7_commit 24 = .ok (.aload_n 0, 1) := by decide +kernel
theorem dX7_commit_25 : decode cX7_commit 25 = .ok (.getfield 40, 3) := by decide +kernel
theorem dX7_commit_28 : decode cX7_commit 28 = .ok (.iload_n 1, 1) := by decide +kernel
theorem dX7_commit_29 : decode cX7_commit 29 = .ok (.iaload, 1) := by decide +kernel
theorem dX7_commit_30 : decode cX7_commit 30 = .ok (.iastore, 1) := by decide +kernel
theorem dX7_commit_31 : decode cX7_commit 31 = .ok (.iinc 1 1, 3) := by decide +kernel
theorem dX7_commit_34 : decode cX7_commit 34 = .ok (.goto (-21), 3) := by decide +kernel
theorem dX7_commit_37 : decode cX7_commit 37 = .ok (.aload_n 0, 1) := by decide +kernel
theorem dX7_commit_38 : decode cX7_commit 38 = .ok (.iconst 0, 1) := by decide +kernel
theorem dX7_commit_39 : decode cX7_commit 39 = .ok (.putfield 203, 3) := by decide +kernel
theorem dX7_commit_42 : decode cX7_commit 42 = .ok (.aload_n 0, 1) := by decide +kernel
theorem dX7_commit_43 : decode cX7_commit 43 = .ok (.getfield 277, 3) := by decide +kernel
theorem dX7_commit_46 : decode cX7_commit 46 = .ok (.ireturn, 1) := by decide +kernel
theorem dX7_passRow_0 : decode cX7_passRow 0 = .ok (.iconst 0, 1) := by decide +kernel
theorem dX7_passRow_1 : decode cX7_passRow 1 = .ok (.istore_n 3, 1) := by decide +kernel
theorem dX7_passRow_2 : decode cX7_passRow 2 = .ok (.iload_n 3, 1) := by decide +kernel
theorem dX7_passRow_3 : decode cX7_passRow 3 = .ok (.iload_n 2, 1) := by decide +kernel
theorem dX7_passRow_4 : decode cX7_passRow 4 = .ok (.if_icmp .ge 56, 3) := by decide +kernel
theorem dX7_passRow_7 : decode cX7_passRow 7 = .ok (.aload_n 1, 1) := by decide +kernel
theorem dX7_passRow_8 : decode cX7_passRow 8 = .ok (.iload_n 3, 1) := by decide +kernel
theorem dX7_passRow_9 : decode cX7_passRow 9 = .ok (.aload_n 0, 1) := by decide +kernel
theorem dX7_passRow_10 : decode cX7_passRow 10 = .ok (.getfield 296, 3) := by decide +kernel
theorem dX7_passRow_13 : decode cX7_passRow 13 = .ok (.ifCond .eq 9, 3) := by decide +kernel
theorem dX7_passRow_16 : decode cX7_passRow 16 = .ok (.aload_n 1, 1) := by decide +kernel
theorem dX7_passRow_17 : decode cX7_passRow 17 = .ok (.iload_n 3, 1) := by decide +kernel
theorem dX7_passRow_18 : decode cX7_passRow 18 = .ok (.iaload, 1) := by decide +kernel
theorem dX7_passRow_19 : decode cX7_passRow 19 = .ok (.goto 12, 3) := by decide +kernel
theorem dX7_passRow_22 : decode cX7_passRow 22 = .ok (.aload_n 0, 1) := by decide +kernel
theorem dX7_passRow_23 : decode cX7_passRow 23 = .ok (.getfield 70, 3) := by decide +kernel
theorem dX7_passRow_26 : decode cX7_passRow 26 = .ok (.aload_n 0, 1) := by decide +kernel
theorem dX7_passRow_27 : decode cX7_passRow 27 = .ok (.getfield 299, 3) := by decide +kernel
theorem dX7_passRow_30 : decode cX7_passRow 30 = .ok (.iaload, 1) := by decide +kernel
theorem dX7_passRow_31 : decode cX7_passRow 31 = .ok (.iastore, 1) := by decide +kernel
theorem dX7_passRow_32 : decode cX7_passRow 32 = .ok (.aload_n 0, 1) := by decide +kernel
theorem dX7_passRow_33 : decode cX7_passRow 33 = .ok (.getfield 70, 3) := by decide +kernel
theorem dX7_passRow_36 : decode cX7_passRow 36 = .ok (.aload_n 0, 1) := by decide +kernel
theorem dX7_passRow_37 : decode cX7_passRow 37 = .ok (.getfield 299, 3) := by decide +kernel
theorem dX7_passRow_40 : decode cX7_passRow 40 = .ok (.aload_n 1, 1) := by decide +kernel
theorem dX7_passRow_41 : decode cX7_passRow 41 = .ok (.iload_n 3, 1) := by decide +kernel
theorem dX7_passRow_42 : decode cX7_passRow 42 = .ok (.iaload, 1) := by decide +kernel
theorem dX7_passRow_43 : decode cX7_passRow 43 = .ok (.iastore, 1) := by decide +kernel
theorem dX7_passRow_44 : decode cX7_passRow 44 = .ok (.aload_n 0, 1) := by decide +kernel
theorem dX7_passRow_45 : decode cX7_passRow 45 = .ok (.dup, 1) := by decide +kernel
theorem dX7_passRow_46 : decode cX7_passRow 46 = .ok (.getfield 299, 3) := by decide +kernel
theorem dX7_passRow_49 : decode cX7_passRow 49 = .ok (.iconst 1, 1) := by decide +kernel
theorem dX7_passRow_50 : decode cX7_passRow 50 = .ok (.iadd, 1) := by decide +kernel
theorem dX7_passRow_51 : decode cX7_passRow 51 = .ok (.putfield 299, 3) := by decide +kernel
theorem dX7_passRow_54 : decode cX7_passRow 54 = .ok (.iinc 3 1, 3) := by decide +kernel
theorem dX7_passRow_57 : decode cX7_passRow 57 = .ok (.goto (-55), 3) := by decide +kernel
theorem dX7_passRow_60 : decode cX7_passRow 60 = .ok (.return_, 1) := by decide +kernel
theorem dX7_passAll_0 : decode cX7_passAll 0 = .ok (.aload_n 0, 1) := by decide +kernel
theorem dX7_passAll_1 : decode cX7_passAll 1 = .ok (.aload_n 0, 1) := by decide +kernel
theorem dX7_passAll_2 : decode cX7_passAll 2 = .ok (.getfield 16, 3) := by decide +kernel
theorem dX7_passAll_5 : decode cX7_passAll 5 = .ok (.bipush 18, 2) := by decide +kernel
theorem dX7_passAll_7 : decode cX7_passAll 7 = .ok (.invokevirtual 302, 3) := by decide +kernel
theorem dX7_passAll_10 : decode cX7_passAll 10 = .ok (.aload_n 0, 1) := by decide +kernel
theorem dX7_passAll_11 : decode cX7_passAll 11 = .ok (.aload_n 0, 1) := by decide +kernel
theorem dX7_passAll_12 : decode cX7_passAll 12 = .ok (.getfield 19, 3) := by decide +kernel
theorem dX7_passAll_15 : decode cX7_passAll 15 = .ok (.bipush 16, 2) := by decide +kernel
theorem dX7_passAll_17 : decode cX7_passAll 17 = .ok (.invokevirtual 302, 3) := by decide +kernel
theorem dX7_passAll_20 : decode cX7_passAll 20 = .ok (.aload_n 0, 1) := by decide +kernel
theorem dX7_passAll_21 : decode cX7_passAll 21 = .ok (.aload_n 0, 1) := by decide +kernel
theorem dX7_passAll_22 : decode cX7_passAll 22 = .ok (.getfield 22, 3) := by decide +kernel
theorem dX7_passAll_25 : decode cX7_passAll 25 = .ok (.bipush 16, 2) := by decide +kernel
theorem dX7_passAll_27 : decode cX7_passAll 27 = .ok (.invokevirtual 302, 3) := by decide +kernel
theorem dX7_passAll_30 : decode cX7_passAll 30 = .ok (.aload_n 0, 1) := by decide +kernel
theorem dX7_passAll_31 : decode cX7_passAll 31 = .ok (.aload_n 0, 1) := by decide +kernel
theorem dX7_passAll_32 : decode cX7_passAll 32 = .ok (.getfield 296, 3) := by decide +kernel
theorem dX7_passAll_35 : decode cX7_passAll 35 = .ok (.ifCond .eq 10, 3) := by decide +kernel
theorem dX7_passAll_38 : decode cX7_passAll 38 = .ok (.aload_n 0, 1) := by decide +kernel
theorem dX7_passAll_39 : decode cX7_passAll 39 = .ok (.getfield 203, 3) := by decide +kernel
theorem dX7_passAll_42 : decode cX7_passAll 42 = .ok (.goto 12, 3) := by decide +kernel
theorem dX7_passAll_45 : decode cX7_passAll 45 = .ok (.aload_n 0, 1) := by decide +kernel
theorem dX7_passAll_46 : decode cX7_passAll 46 = .ok (.getfield 70, 3) := by decide +kernel
theorem dX7_passAll_49 : decode cX7_passAll 49 = .ok (.aload_n 0, 1) := by decide +kernel
theorem dX7_passAll_50 : decode cX7_passAll 50 = .ok (.getfield 299, 3) := by decide +kernel
theorem dX7_passAll_53 : decode cX7_passAll 53 = .ok (.iaload, 1) := by decide +kernel
theorem dX7_passAll_54 : decode cX7_passAll 54 = .ok (.putfield 203, 3) := by decide +kernel
theorem dX7_passAll_57 : decode cX7_passAll 57 = .ok (.aload_n 0, 1) := by decide +kernel
theorem dX7_passAll_58 : decode cX7_passAll 58 = .ok (.getfield 70, 3) := by decide +kernel
theorem dX7_passAll_61 : decode cX7_passAll 61 = .ok (.aload_n 0, 1) := by decide +kernel
theorem dX7_passAll_62 : decode cX7_passAll 62 = .ok (.getfield 299, 3) := by decide +kernel
theorem dX7_passAll_65 : decode cX7_passAll 65 = .ok (.aload_n 0, 1) := by decide +kernel
theorem dX7_passAll_66 : decode cX7_passAll 66 = .ok (.getfield 203, 3) := by decide +kernel
theorem dX7_passAll_69 : decode cX7_passAll 69 = .ok (.iastore, 1) := by decide +kernel
theorem dX7_passAll_70 : decode cX7_passAll 70 = .ok (.return_, 1) := by decide +kernel
theorem dX7_image_0 : decode cX7_image 0 = .ok (.iload_n 1, 1) := by decide +kernel
theorem dX7_image_1 : decode cX7_image 1 = .ok (.i2l, 1) := by decide +kernel
theorem dX7_image_2 : decode cX7_image 2 = .ok (.lconst 0, 1) := by decide +kernel
theorem dX7_image_3 : decode cX7_image 3 = .ok (.lconst 1, 1) := by decide +kernel
theorem dX7_image_4 : decode cX7_image 4 = .ok (.invokestatic 79, 3) := by decide +kernel
theorem dX7_image_7 : decode cX7_image 7 = .ok (.ifCond .ne 6, 3) := by decide +kernel
theorem dX7_image_10 : decode cX7_image 10 = .ok (.bipush (-2), 2) := by decide +kernel
theorem dX7_image_12 : decode cX7_image 12 = .ok (.ireturn, 1) := by decide +kernel
theorem dX7_image_13 : decode cX7_image 13 = .ok (.aload_n 0, 1) := by decide +kernel
theorem dX7_image_14 : decode cX7_image 14 = .ok (.bipush 51, 2) := by decide +kernel
theorem dX7_image_16 : decode cX7_image 16 = .ok (.iload_n 1, 1) := by decide +kernel
theorem dX7_image_17 : decode cX7_image 17 = .ok (.imul, 1) := by decide +kernel
theorem dX7_image_18 : decode cX7_image 18 = .ok (.putfield 299, 3) := by decide +kernel
theorem dX7_image_21 : decode cX7_image 21 = .ok (.aload_n 0, 1) := by decide +kernel
theorem dX7_image_22 : decode cX7_image 22 = .ok (.iconst 1, 1) := by decide +kernel
theorem dX7_image_23 : decode cX7_image 23 = .ok (.putfield 296, 3) := by decide +kernel
theorem dX7_image_26 : decode cX7_image 26 = .ok (.aload_n 0, 1) := by decide +kernel
theorem dX7_image_27 : decode cX7_image 27 = .ok (.invokevirtual 305, 3) := by decide +kernel
theorem dX7_image_30 : decode cX7_image 30 = .ok (.aload_n 0, 1) := by decide +kernel
theorem dX7_image_31 : decode cX7_image 31 = .ok (.getfield 73, 3) := by decide +kernel
theorem dX7_image_34 : decode cX7_image 34 = .ok (.iload_n 1, 1) := by decide +kernel
theorem dX7_image_35 : decode cX7_image 35 = .ok (.iconst 1, 1) := by decide +kernel
theorem dX7_image_36 : decode cX7_image 36 = .ok (.bastore, 1) := by decide +kernel
theorem dX7_image_37 : decode cX7_image 37 = .ok (.iconst 1, 1) := by decide +kernel
theorem dX7_image_38 : decode cX7_image 38 = .ok (.ireturn, 1) := by decide +kernel
theorem dX7_restore_0 : decode cX7_restore 0 = .ok (.iload_n 1, 1) := by decide +kernel
theorem dX7_restore_1 : decode cX7_restore 1 = .ok (.i2l, 1) := by decide +kernel
theorem dX7_restore_2 : decode cX7_restore 2 = .ok (.lconst 0, 1) := by decide +kernel
theorem dX7_restore_3 : decode cX7_restore 3 = .ok (.lconst 1, 1) := by decide +kernel
theorem dX7_restore_4 : decode cX7_restore 4 = .ok (.invokestatic 79, 3) := by decide +kernel
theorem dX7_restore_7 : decode cX7_restore 7 = .ok (.ifCond .ne 6, 3) := by decide +kernel
theorem dX7_restore_10 : decode cX7_restore 10 = .ok (.bipush (-2), 2) := by decide +kernel
theorem dX7_restore_12 : decode cX7_restore 12 = .ok (.ireturn, 1) := by decide +kernel
theorem dX7_restore_13 : decode cX7_restore 13 = .ok (.aload_n 0, 1) := by decide +kernel
theorem dX7_restore_14 : decode cX7_restore 14 = .ok (.getfield 73, 3) := by decide +kernel
theorem dX7_restore_17 : decode cX7_restore 17 = .ok (.iload_n 1, 1) := by decide +kernel
theorem dX7_restore_18 : decode cX7_restore 18 = .ok (.baload, 1) := by decide +kernel
theorem dX7_restore_19 : decode cX7_restore 19 = .ok (.ifCond .ne 6, 3) := by decide +kernel
theorem dX7_restore_22 : decode cX7_restore 22 = .ok (.bipush (-3), 2) := by decide +kernel
theorem dX7_restore_24 : decode cX7_restore 24 = .ok (.ireturn, 1) := by decide +kernel
theorem dX7_restore_25 : decode cX7_restore 25 = .ok (.aload_n 0, 1) := by decide +kernel
theorem dX7_restore_26 : decode cX7_restore 26 = .ok (.bipush 51, 2) := by decide +kernel
theorem dX7_restore_28 : decode cX7_restore 28 = .ok (.iload_n 1, 1) := by decide +kernel
theorem dX7_restore_29 : decode cX7_restore 29 = .ok (.imul, 1) := by decide +kernel
theorem dX7_restore_30 : decode cX7_restore 30 = .ok (.putfield 299, 3) := by decide +kernel
theorem dX7_restore_33 : decode cX7_restore 33 = .ok (.aload_n 0, 1) := by decide +kernel
theorem dX7_restore_34 : decode cX7_restore 34 = .ok (.iconst 0, 1) := by decide +kernel
theorem dX7_restore_35 : decode cX7_restore 35 = .ok (.putfield 296, 3) := by decide +kernel
theorem dX7_restore_38 : decode cX7_restore 38 = .ok (.aload_n 0, 1) := by decide +kernel
theorem dX7_restore_39 : decode cX7_restore 39 = .ok (.invokevirtual 305, 3) := by decide +kernel
theorem dX7_restore_42 : decode cX7_restore 42 = .ok (.iconst 1, 1) := by decide +kernel
theorem dX7_restore_43 : decode cX7_restore 43 = .ok (.ireturn, 1) := by decide +kernel
theorem dX7_statementsOf_0 : decode cX7_statementsOf 0 = .ok (.iconst 0, 1) := by decide +kernel
theorem dX7_statementsOf_1 : decode cX7_statementsOf 1 = .ok (.istore_n 2, 1) := by decide +kernel
theorem dX7_statementsOf_2 : decode cX7_statementsOf 2 = .ok (.aload_n 0, 1) := by decide +kernel
theorem dX7_statementsOf_3 : decode cX7_statementsOf 3 = .ok (.iload_n 1, 1) := by decide +kernel
theorem dX7_statementsOf_4 : decode cX7_statementsOf 4 = .ok (.invokevirtual 149, 3) := by decide +kernel
theorem dX7_statementsOf_7 : decode cX7_statementsOf 7 = .ok (.aload_n 0, 1) := by decide +kernel
theorem dX7_statementsOf_8 : decode cX7_statementsOf 8 = .ok (.invokevirtual 153, 3) := by decide +kernel
theorem dX7_statementsOf_11 : decode cX7_statementsOf 11 = .ok (.ifCond .eq 20, 3) := by decide +kernel
theorem dX7_statementsOf_14 : decode cX7_statementsOf 14 = .ok (.aload_n 0, 1) := by decide +kernel
theorem dX7_statementsOf_15 : decode cX7_statementsOf 15 = .ok (.iconst 0, 1) := by decide +kernel
theorem dX7_statementsOf_16 : decode cX7_statementsOf 16 = .ok (.invokevirtual 156, 3) := by decide +kernel
theorem dX7_statementsOf_19 : decode cX7_statementsOf 19 = .ok (.ifCond .ne 6, 3) := by decide +kernel
theorem dX7_statementsOf_22 : decode cX7_statementsOf 22 = .ok (.bipush (-6), 2) := by decide +kernel
theorem dX7_statementsOf_24 : decode cX7_statementsOf 24 = .ok (.ireturn, 1) := by decide +kernel
theorem dX7_statementsOf_25 : decode cX7_statementsOf 25 = .ok (.iinc 2 1, 3) := by decide +kernel
theorem dX7_statementsOf_28 : decode cX7_statementsOf 28 = .ok (.goto (-21), 3) := by decide +kernel
theorem dX7_statementsOf_31 : decode cX7_statementsOf 31 = .ok (.iload_n 2, 1) := by decide +kernel
theorem dX7_statementsOf_32 : decode cX7_statementsOf 32 = .ok (.ireturn, 1) := by decide +kernel
theorem dX7_count_0 : decode cX7_count 0 = .ok (.iload_n 1, 1) := by decide +kernel
theorem dX7_count_1 : decode cX7_count 1 = .ok (.ifCond .ne 8, 3) := by decide +kernel
theorem dX7_count_4 : decode cX7_count 4 = .ok (.aload_n 0, 1) := by decide +kernel
theorem dX7_count_5 : decode cX7_count 5 = .ok (.getfield 203, 3) := by decide +kernel
theorem dX7_count_8 : decode cX7_count 8 = .ok (.ireturn, 1) := by decide +kernel
theorem dX7_count_9 : decode cX7_count 9 = .ok (.iload_n 1, 1) := by decide +kernel
theorem dX7_count_10 : decode cX7_count 10 = .ok (.i2l, 1) := by decide +kernel
theorem dX7_count_11 : decode cX7_count 11 = .ok (.ldc2_w 308, 3) := by decide +kernel
theorem dX7_count_14 : decode cX7_count 14 = .ok (.ldc2_w 310, 3) := by decide +kernel
theorem dX7_count_17 : decode cX7_count 17 = .ok (.invokestatic 79, 3) := by decide +kernel
theorem dX7_count_20 : decode cX7_count 20 = .ok (.ifCond .eq 13, 3) := by decide +kernel
theorem dX7_count_23 : decode cX7_count 23 = .ok (.iload_n 1, 1) := by decide +kernel
theorem dX7_count_24 : decode cX7_count 24 = .ok (.bipush 10, 2) := by decide +kernel
theorem dX7_count_26 : decode cX7_count 26 = .ok (.irem, 1) := by decide +kernel
theorem dX7_count_27 : decode cX7_count 27 = .ok (.invokestatic 87, 3) := by decide +kernel
theorem dX7_count_30 : decode cX7_count 30 = .ok (.ifCond .ne 6, 3) := by decide +kernel
theorem dX7_count_33 : decode cX7_count 33 = .ok (.bipush (-2), 2) := by decide +kernel
theorem dX7_count_35 : decode cX7_count 35 = .ok (.ireturn, 1) := by decide +kernel
theorem dX7_count_36 : decode cX7_count 36 = .ok (.iload_n 1, 1) := by decide +kernel
theorem dX7_count_37 : decode cX7_count 37 = .ok (.bipush 10, 2) := by decide +kernel
theorem dX7_count_39 : decode cX7_count 39 = .ok (.irem, 1) := by decide +kernel
theorem dX7_count_40 : decode cX7_count 40 = .ok (.istore_n 2, 1) := by decide +kernel
theorem dX7_count_41 : decode cX7_count 41 = .ok (.iload_n 1, 1) := by decide +kernel
theorem dX7_count_42 : decode cX7_count 42 = .ok (.bipush 20, 2) := by decide +kernel
theorem dX7_count_44 : decode cX7_count 44 = .ok (.if_icmp .ge 10, 3) := by decide +kernel
theorem dX7_count_47 : decode cX7_count 47 = .ok (.aload_n 0, 1) := by decide +kernel
theorem dX7_count_48 : decode cX7_count 48 = .ok (.getfield 13, 3) := by decide +kernel
theorem dX7_count_51 : decode cX7_count 51 = .ok (.iload_n 2, 1) := by decide +kernel
theorem dX7_count_52 : decode cX7_count 52 = .ok (.iaload, 1) := by decide +kernel
theorem dX7_count_53 : decode cX7_count 53 = .ok (.ireturn, 1) := by decide +kernel
theorem dX7_count_54 : decode cX7_count 54 = .ok (.iload_n 1, 1) := by decide +kernel
theorem dX7_count_55 : decode cX7_count 55 = .ok (.bipush 30, 2) := by decide +kernel
theorem dX7_count_57 : decode cX7_count 57 = .ok (.if_icmp .ge 11, 3) := by decide +kernel
theorem dX7_count_60 : decode cX7_count 60 = .ok (.aload_n 0, 1) := by decide +kernel
theorem dX7_count_61 : decode cX7_count 61 = .ok (.iload_n 2, 1) := by decide +kernel
theorem dX7_count_62 : decode cX7_count 62 = .ok (.invokevirtual 312, 3) := by decide +kernel
theorem dX7_count_65 : decode cX7_count 65 = .ok (.goto 21, 3) := by decide +kernel
theorem dX7_count_68 : decode cX7_count 68 = .ok (.aload_n 0, 1) := by decide +kernel
theorem dX7_count_69 : decode cX7_count 69 = .ok (.iload_n 2, 1) := by decide +kernel
theorem dX7_count_70 : decode cX7_count 70 = .ok (.invokevirtual 159, 3) := by decide +kernel
theorem dX7_count_73 : decode cX7_count 73 = .ok (.ifCond .ge 11, 3) := by decide +kernel
theorem dX7_count_76 : decode cX7_count 76 = .ok (.aload_n 0, 1) := by decide +kernel
theorem dX7_count_77 : decode cX7_count 77 = .ok (.iload_n 2, 1) := by decide +kernel
theorem dX7_count_78 : decode cX7_count 78 = .ok (.invokevirtual 167, 3) := by decide +kernel
theorem dX7_count_81 : decode cX7_count 81 = .ok (.goto 5, 3) := by decide +kernel
theorem dX7_count_84 : decode cX7_count 84 = .ok (.bipush (-6), 2) := by decide +kernel
theorem dX7_count_86 : decode cX7_count 86 = .ok (.ireturn, 1) := by decide +kernel
theorem dJ9_floorMod_7cf53_0 : decode cJ9_floorMod_7cf53 0 = .ok (.iload_n 0, 1) := by decide +kernel
theorem dJ9_floorMod_7cf53_1 : decode cJ9_floorMod_7cf53 1 = .ok (.iload_n 1, 1) := by decide +kernel
theorem dJ9_floorMod_7cf53_2 : decode cJ9_floorMod_7cf53 2 = .ok (.irem, 1) := by decide +kernel
theorem dJ9_floorMod_7cf53_3 : decode cJ9_floorMod_7cf53 3 = .ok (.istore_n 2, 1) := by decide +kernel
theorem dJ9_floorMod_7cf53_4 : decode cJ9_floorMod_7cf53 4 = .ok (.iload_n 0, 1) := by decide +kernel
theorem dJ9_floorMod_7cf53_5 : decode cJ9_floorMod_7cf53 5 = .ok (.iload_n 1, 1) := by decide +kernel
theorem dJ9_floorMod_7cf53_6 : decode cJ9_floorMod_7cf53 6 = .ok (.ixor, 1) := by decide +kernel
theorem dJ9_floorMod_7cf53_7 : decode cJ9_floorMod_7cf53 7 = .ok (.ifCond .ge 11, 3) := by decide +kernel
theorem dJ9_floorMod_7cf53_10 : decode cJ9_floorMod_7cf53 10 = .ok (.iload_n 2, 1) := by decide +kernel
theorem dJ9_floorMod_7cf53_11 : decode cJ9_floorMod_7cf53 11 = .ok (.ifCond .eq 7, 3) := by decide +kernel
theorem dJ9_floorMod_7cf53_14 : decode cJ9_floorMod_7cf53 14 = .ok (.iload_n 2, 1) := by decide +kernel
theorem dJ9_floorMod_7cf53_15 : decode cJ9_floorMod_7cf53 15 = .ok (.iload_n 1, 1) := by decide +kernel
theorem dJ9_floorMod_7cf53_16 : decode cJ9_floorMod_7cf53 16 = .ok (.iadd, 1) := by decide +kernel
theorem dJ9_floorMod_7cf53_17 : decode cJ9_floorMod_7cf53 17 = .ok (.ireturn, 1) := by decide +kernel
theorem dJ9_floorMod_7cf53_18 : decode cJ9_floorMod_7cf53 18 = .ok (.iload_n 2, 1) := by decide +kernel
theorem dJ9_floorMod_7cf53_19 : decode cJ9_floorMod_7cf53 19 = .ok (.ireturn, 1) := by decide +kernel
theorem dJ9_max_7cf53_0 : decode cJ9_max_7cf53 0 = .ok (.iload_n 0, 1) := by decide +kernel
theorem dJ9_max_7cf53_1 : decode cJ9_max_7cf53 1 = .ok (.iload_n 1, 1) := by decide +kernel
theorem dJ9_max_7cf53_2 : decode cJ9_max_7cf53 2 = .ok (.if_icmp .lt 7, 3) := by decide +kernel
theorem dJ9_max_7cf53_5 : decode cJ9_max_7cf53 5 = .ok (.iload_n 0, 1) := by decide +kernel
theorem dJ9_max_7cf53_6 : decode cJ9_max_7cf53 6 = .ok (.goto 4, 3) := by decide +kernel
theorem dJ9_max_7cf53_9 : decode cJ9_max_7cf53 9 = .ok (.iload_n 1, 1) := by decide +kernel
theorem dJ9_max_7cf53_10 : decode cJ9_max_7cf53 10 = .ok (.ireturn, 1) := by decide +kernel
theorem dL_law_0 : decode cL_law 0 = .ok (.new 7, 3) := by decide +kernel
theorem dL_law_3 : decode cL_law 3 = .ok (.dup, 1) := by decide +kernel
theorem dL_law_4 : decode cL_law 4 = .ok (.invokespecial 9, 3) := by decide +kernel
theorem dL_law_7 : decode cL_law 7 = .ok (.astore_n 1, 1) := by decide +kernel
theorem dL_law_8 : decode cL_law 8 = .ok (.new 10, 3) := by decide +kernel
theorem dL_law_11 : decode cL_law 11 = .ok (.dup, 1) := by decide +kernel
theorem dL_law_12 : decode cL_law 12 = .ok (.invokespecial 12, 3) := by decide +kernel
theorem dL_law_15 : decode cL_law 15 = .ok (.astore_n 2, 1) := by decide +kernel
theorem dL_law_16 : decode cL_law 16 = .ok (.iconst 0, 1) := by decide +kernel
theorem dL_law_17 : decode cL_law 17 = .ok (.istore_n 3, 1) := by decide +kernel
theorem dL_law_18 : decode cL_law 18 = .ok (.iload_n 3, 1) := by decide +kernel
theorem dL_law_19 : decode cL_law 19 = .ok (.aload_n 0, 1) := by decide +kernel
theorem dL_law_20 : decode cL_law 20 = .ok (.arraylength, 1) := by decide +kernel
theorem dL_law_21 : decode cL_law 21 = .ok (.iconst 5, 1) := by decide +kernel
theorem dL_law_22 : decode cL_law 22 = .ok (.isub, 1) := by decide +kernel
theorem dL_law_23 : decode cL_law 23 = .ok (.if_icmp .gt 617, 3) := by decide +kernel
theorem dL_law_26 : decode cL_law 26 = .ok (.aload_n 0, 1) := by decide +kernel
theorem dL_law_27 : decode cL_law 27 = .ok (.iload_n 3, 1) := by decide +kernel
theorem dL_law_28 : decode cL_law 28 = .ok (.iaload, 1) := by decide +kernel
theorem dL_law_29 : decode cL_law 29 = .ok (.bipush 31, 2) := by decide +kernel
theorem dL_law_31 : decode cL_law 31 = .ok (.iand, 1) := by decide +kernel
theorem dL_law_32 : decode cL_law 32 = .ok (.tableswitch 602 0 17 #[88, 121, 144, 167, 200, 223, 266, 319, 352, 375, 398, 431, 454, 487, 520, 533, 556, 579], 88) := by decide +kernel
theorem dL_law_120 : decode cL_law 120 = .ok (.aload_n 1, 1) := by decide +kernel
theorem dL_law_121 : decode cL_law 121 = .ok (.aload_n 0, 1) := by decide +kernel
theorem dL_law_122 : decode cL_law 122 = .ok (.iload_n 3, 1) := by decide +kernel
theorem dL_law_123 : decode cL_law 123 = .ok (.iconst 1, 1) := by decide +kernel
theorem dL_law_124 : decode cL_law 124 = .ok (.iadd, 1) := by decide +kernel
theorem dL_law_125 : decode cL_law 125 = .ok (.iaload, 1) := by decide +kernel
theorem dL_law_126 : decode cL_law 126 = .ok (.aload_n 0, 1) := by decide +kernel
theorem dL_law_127 : decode cL_law 127 = .ok (.iload_n 3, 1) := by decide +kernel
theorem dL_law_128 : decode cL_law 128 = .ok (.iconst 2, 1) := by decide +kernel
theorem dL_law_129 : decode cL_law 129 = .ok (.iadd, 1) := by decide +kernel
theorem dL_law_130 : decode cL_law 130 = .ok (.iaload, 1) := by decide +kernel
theorem dL_law_131 : decode cL_law 131 = .ok (.invokevirtual 13, 3) := by decide +kernel
theorem dL_law_134 : decode cL_law 134 = .ok (.aload_n 2, 1) := by decide +kernel
theorem dL_law_135 : decode cL_law 135 = .ok (.aload_n 0, 1) := by decide +kernel
theorem dL_law_136 : decode cL_law 136 = .ok (.iload_n 3, 1) := by decide +kernel
theorem dL_law_137 : decode cL_law 137 = .ok (.iconst 1, 1) := by decide +kernel
theorem dL_law_138 : decode cL_law 138 = .ok (.iadd, 1) := by decide +kernel
theorem dL_law_139 : decode cL_law 139 = .ok (.iaload, 1) := by decide +kernel
theorem dL_law_140 : decode cL_law 140 = .ok (.aload_n 0, 1) := by decide +kernel
theorem dL_law_141 : decode cL_law 141 = .ok (.iload_n 3, 1) := by decide +kernel
theorem dL_law_142 : decode cL_law 142 = .ok (.iconst 2, 1) := by decide +kernel
theorem dL_law_143 : decode cL_law 143 = .ok (.iadd, 1) := by decide +kernel
theorem dL_law_144 : decode cL_law 144 = .ok (.iaload, 1) := by decide +kernel
theorem dL_law_145 : decode cL_law 145 = .ok (.invokevirtual 17, 3) := by decide +kernel
theorem dL_law_148 : decode cL_law 148 = .ok (.if_icmp .eq 486, 3) := by decide +kernel
theorem dL_law_151 : decode cL_law 151 = .ok (.iconst 0, 1) := by decide +kernel
theorem dL_law_152 : decode cL_law 152 = .ok (.ireturn, 1) := by decide +kernel
theorem dL_law_153 : decode cL_law 153 = .ok (.aload_n 1, 1) := by decide +kernel
theorem dL_law_154 : decode cL_law 154 = .ok (.aload_n 0, 1) := by decide +kernel
theorem dL_law_155 : decode cL_law 155 = .ok (.iload_n 3, 1) := by decide +kernel
theorem dL_law_156 : decode cL_law 156 = .ok (.iconst 1, 1) := by decide +kernel
theorem dL_law_157 : decode cL_law 157 = .ok (.iadd, 1) := by decide +kernel
theorem dL_law_158 : decode cL_law 158 = .ok (.iaload, 1) := by decide +kernel
theorem dL_law_159 : decode cL_law 159 = .ok (.invokevirtual 18, 3) := by decide +kernel
theorem dL_law_162 : decode cL_law 162 = .ok (.aload_n 2, 1) := by decide +kernel
theorem dL_law_163 : decode cL_law 163 = .ok (.aload_n 0, 1) := by decide +kernel
theorem dL_law_164 : decode cL_law 164 = .ok (.iload_n 3, 1) := by decide +kernel
theorem dL_law_165 : decode cL_law 165 = .ok (.iconst 1, 1) := by decide +kernel
theorem dL_law_166 : decode cL_law 166 = .ok (.iadd, 1) := by decide +kernel
theorem dL_law_167 : decode cL_law 167 = .ok (.iaload, 1) := by decide +kernel
theorem dL_law_168 : decode cL_law 168 = .ok (.invokevirtual 22, 3) := by decide +kernel
theorem dL_law_171 : decode cL_law 171 = .ok (.if_icmp .eq 463, 3) := by decide +kernel
theorem dL_law_174 : decode cL_law 174 = .ok (.iconst 0, 1) := by decide +kernel
theorem dL_law_175 : decode cL_law 175 = .ok (.ireturn, 1) := by decide +kernel
theorem dL_law_176 : decode cL_law 176 = .ok (.aload_n 1, 1) := by decide +kernel
theorem dL_law_177 : decode cL_law 177 = .ok (.aload_n 0, 1) := by decide +kernel
theorem dL_law_178 : decode cL_law 178 = .ok (.iload_n 3, 1) := by decide +kernel
theorem dL_law_179 : decode cL_law 179 = .ok (.iconst 1, 1) := by decide +kernel
theorem dL_law_180 : decode cL_law 180 = .ok (.iadd, 1) := by decide +kernel
theorem dL_law_181 : decode cL_law 181 = .ok (.iaload, 1) := by decide +kernel
theorem dL_law_182 : decode cL_law 182 = .ok (.invokevirtual 23, 3) := by decide +kernel
theorem dL_law_185 : decode cL_law 185 = .ok (.aload_n 2, 1) := by decide +kernel
theorem dL_law_186 : decode cL_law 186 = .ok (.aload_n 0, 1) := by decide +kernel
theorem dL_law_187 : decode cL_law 187 = .ok (.iload_n 3, 1) := by decide +kernel
theorem dL_law_188 : decode cL_law 188 = .ok (.iconst 1, 1) := by decide +kernel
theorem dL_law_189 : decode cL_law 189 = .ok (.iadd, 1) := by decide +kernel
theorem dL_law_190 : decode cL_law 190 = .ok (.iaload, 1) := by decide +kernel
theorem dL_law_191 : decode cL_law 191 = .ok (.invokevirtual 26, 3) := by decide +kernel
theorem dL_law_194 : decode cL_law 194 = .ok (.if_icmp .eq 440, 3) := by decide +kernel
theorem dL_law_197 : decode cL_law 197 = .ok (.iconst 0, 1) := by decide +kernel
theorem dL_law_198 : decode cL_law 198 = .ok (.ireturn, 1) := by decide +kernel
theorem dL_law_199 : decode cL_law 199 = .ok (.aload_n 1, 1) := by decide +kernel
theorem dL_law_200 : decode cL_law 200 = .ok (.aload_n 0, 1) := by decide +kernel
theorem dL_law_201 : decode cL_law 201 = .ok (.iload_n 3, 1) := by decide +kernel
theorem dL_law_202 : decode cL_law 202 = .ok (.iconst 1, 1) := by decide +kernel
theorem dL_law_203 : decode cL_law 203 = .ok (.iadd, 1) := by decide +kernel
theorem dL_law_204 : decode cL_law 204 = .ok (.iaload, 1) := by decide +kernel
theorem dL_law_205 : decode cL_law 205 = .ok (.aload_n 0, 1) := by decide +kernel
theorem dL_law_206 : decode cL_law 206 = .ok (.iload_n 3, 1) := by decide +kernel
theorem dL_law_207 : decode cL_law 207 = .ok (.iconst 2, 1) := by decide +kernel
theorem dL_law_208 : decode cL_law 208 = .ok (.iadd, 1) := by decide +kernel
theorem dL_law_209 : decode cL_law 209 = .ok (.iaload, 1) := by decide +kernel
theorem dL_law_210 : decode cL_law 210 = .ok (.invokevirtual 27, 3) := by decide +kernel
theorem dL_law_213 : decode cL_law 213 = .ok (.aload_n 2, 1) := by decide +kernel
theorem dL_law_214 : decode cL_law 214 = .ok (.aload_n 0, 1) := by decide +kernel
theorem dL_law_215 : decode cL_law 215 = .ok (.iload_n 3, 1) := by decide +kernel
theorem dL_law_216 : decode cL_law 216 = .ok (.iconst 1, 1) := by decide +kernel
theorem dL_law_217 : decode cL_law 217 = .ok (.iadd, 1) := by decide +kernel
theorem dL_law_218 : decode cL_law 218 = .ok (.iaload, 1) := by decide +kernel
theorem dL_law_219 : decode cL_law 219 = .ok (.aload_n 0, 1) := by decide +kernel
theorem dL_law_220 : decode cL_law 220 = .ok (.iload_n 3, 1) := by decide +kernel
theorem dL_law_221 : decode cL_law 221 = .ok (.iconst 2, 1) := by decide +kernel
theorem dL_law_222 : decode cL_law 222 = .ok (.iadd, 1) := by decide +kernel
theorem dL_law_223 : decode cL_law 223 = .ok (.iaload, 1) := by decide +kernel
theorem dL_law_224 : decode cL_law 224 = .ok (.invokevirtual 30, 3) := by decide +kernel
theorem dL_law_227 : decode cL_law 227 = .ok (.if_icmp .eq 407, 3) := by decide +kernel
theorem dL_law_230 : decode cL_law 230 = .ok (.iconst 0, 1) := by decide +kernel
theorem dL_law_231 : decode cL_law 231 = .ok (.ireturn, 1) := by decide +kernel
theorem dL_law_232 : decode cL_law 232 = .ok (.aload_n 1, 1) := by decide +kernel
theorem dL_law_233 : decode cL_law 233 = .ok (.aload_n 0, 1) := by decide +kernel
theorem dL_law_234 : decode cL_law 234 = .ok (.iload_n 3, 1) := by decide +kernel
theorem dL_law_235 : decode cL_law 235 = .ok (.iconst 1, 1) := by decide +kernel
theorem dL_law_236 : decode cL_law 236 = .ok (.iadd, 1) := by decide +kernel
theorem dL_law_237 : decode cL_law 237 = .ok (.iaload, 1) := by decide +kernel
theorem dL_law_238 : decode cL_law 238 = .ok (.invokevirtual 31, 3) := by decide +kernel
theorem dL_law_241 : decode cL_law 241 = .ok (.aload_n 2, 1) := by decide +kernel
theorem dL_law_242 : decode cL_law 242 = .ok (.aload_n 0, 1) := by decide +kernel
theorem dL_law_243 : decode cL_law 243 = .ok (.iload_n 3, 1) := by decide +kernel
theorem dL_law_244 : decode cL_law 244 = .ok (.iconst 1, 1) := by decide +kernel
theorem dL_law_245 : decode cL_law 245 = .ok (.iadd, 1) := by decide +kernel
theorem dL_law_246 : decode cL_law 246 = .ok (.iaload, 1) := by decide +kernel
theorem dL_law_247 : decode cL_law 247 = .ok (.invokevirtual 34, 3) := by decide +kernel
theorem dL_law_250 : decode cL_law 250 = .ok (.if_icmp .eq 384, 3) := by decide +kernel
theorem dL_law_253 : decode cL_law 253 = .ok (.iconst 0, 1) := by decide +kernel
theorem dL_law_254 : decode cL_law 254 = .ok (.ireturn, 1) := by decide +kernel
theorem dL_law_255 : decode cL_law 255 = .ok (.aload_n 1, 1) := by decide +kernel
theorem dL_law_256 : decode cL_law 256 = .ok (.aload_n 0, 1) := by decide +kernel
theorem dL_law_257 : decode cL_law 257 = .ok (.iload_n 3, 1) := by decide +kernel
theorem dL_law_258 : decode cL_law 258 = .ok (.iconst 1, 1) := by decide +kernel
theorem dL_law_259 : decode cL_law 259 = .ok (.iadd, 1) := by decide +kernel
theorem dL_law_260 : decode cL_law 260 = .ok (.iaload, 1) := by decide +kernel
