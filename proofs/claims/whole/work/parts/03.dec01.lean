theorem dX2_lay_41 : decode cX2_lay 41 = .ok (.iload 4, 2) := by decide +kernel
theorem dX2_lay_43 : decode cX2_lay 43 = .ok (.iload_n 3, 1) := by decide +kernel
theorem dX2_lay_44 : decode cX2_lay 44 = .ok (.if_icmp .ge 60, 3) := by decide +kernel
theorem dX2_lay_47 : decode cX2_lay 47 = .ok (.aload_n 2, 1) := by decide +kernel
theorem dX2_lay_48 : decode cX2_lay 48 = .ok (.aload_n 0, 1) := by decide +kernel
theorem dX2_lay_49 : decode cX2_lay 49 = .ok (.getfield 12, 3) := by decide +kernel
theorem dX2_lay_52 : decode cX2_lay 52 = .ok (.iload 4, 2) := by decide +kernel
theorem dX2_lay_54 : decode cX2_lay 54 = .ok (.iload_n 3, 1) := by decide +kernel
theorem dX2_lay_55 : decode cX2_lay 55 = .ok (.invokevirtual 42, 3) := by decide +kernel
theorem dX2_lay_58 : decode cX2_lay 58 = .ok (.ifCond .eq 16, 3) := by decide +kernel
theorem dX2_lay_61 : decode cX2_lay 61 = .ok (.aload_n 0, 1) := by decide +kernel
theorem dX2_lay_62 : decode cX2_lay 62 = .ok (.dup, 1) := by decide +kernel
theorem dX2_lay_63 : decode cX2_lay 63 = .ok (.getfield 32, 3) := by decide +kernel
theorem dX2_lay_66 : decode cX2_lay 66 = .ok (.iconst 1, 1) := by decide +kernel
theorem dX2_lay_67 : decode cX2_lay 67 = .ok (.iadd, 1) := by decide +kernel
theorem dX2_lay_68 : decode cX2_lay 68 = .ok (.putfield 32, 3) := by decide +kernel
theorem dX2_lay_71 : decode cX2_lay 71 = .ok (.goto 27, 3) := by decide +kernel
theorem dX2_lay_74 : decode cX2_lay 74 = .ok (.aload_n 0, 1) := by decide +kernel
theorem dX2_lay_75 : decode cX2_lay 75 = .ok (.getfield 18, 3) := by decide +kernel
theorem dX2_lay_78 : decode cX2_lay 78 = .ok (.iload_n 3, 1) := by decide +kernel
theorem dX2_lay_79 : decode cX2_lay 79 = .ok (.aload_n 0, 1) := by decide +kernel
theorem dX2_lay_80 : decode cX2_lay 80 = .ok (.getfield 18, 3) := by decide +kernel
theorem dX2_lay_83 : decode cX2_lay 83 = .ok (.iload_n 3, 1) := by decide +kernel
theorem dX2_lay_84 : decode cX2_lay 84 = .ok (.iaload, 1) := by decide +kernel
theorem dX2_lay_85 : decode cX2_lay 85 = .ok (.aload_n 0, 1) := by decide +kernel
theorem dX2_lay_86 : decode cX2_lay 86 = .ok (.getfield 18, 3) := by decide +kernel
theorem dX2_lay_89 : decode cX2_lay 89 = .ok (.iload 4, 2) := by decide +kernel
theorem dX2_lay_91 : decode cX2_lay 91 = .ok (.iaload, 1) := by decide +kernel
theorem dX2_lay_92 : decode cX2_lay 92 = .ok (.iconst 1, 1) := by decide +kernel
theorem dX2_lay_93 : decode cX2_lay 93 = .ok (.iadd, 1) := by decide +kernel
theorem dX2_lay_94 : decode cX2_lay 94 = .ok (.invokestatic 48, 3) := by decide +kernel
theorem dX2_lay_97 : decode cX2_lay 97 = .ok (.iastore, 1) := by decide +kernel
theorem dX2_lay_98 : decode cX2_lay 98 = .ok (.iinc 4 1, 3) := by decide +kernel
theorem dX2_lay_101 : decode cX2_lay 101 = .ok (.goto (-60), 3) := by decide +kernel
theorem dX2_lay_104 : decode cX2_lay 104 = .ok (.aload_n 0, 1) := by decide +kernel
theorem dX2_lay_105 : decode cX2_lay 105 = .ok (.aload_n 0, 1) := by decide +kernel
theorem dX2_lay_106 : decode cX2_lay 106 = .ok (.getfield 28, 3) := by decide +kernel
theorem dX2_lay_109 : decode cX2_lay 109 = .ok (.aload_n 0, 1) := by decide +kernel
theorem dX2_lay_110 : decode cX2_lay 110 = .ok (.getfield 18, 3) := by decide +kernel
theorem dX2_lay_113 : decode cX2_lay 113 = .ok (.iload_n 3, 1) := by decide +kernel
theorem dX2_lay_114 : decode cX2_lay 114 = .ok (.iaload, 1) := by decide +kernel
theorem dX2_lay_115 : decode cX2_lay 115 = .ok (.iconst 1, 1) := by decide +kernel
theorem dX2_lay_116 : decode cX2_lay 116 = .ok (.iadd, 1) := by decide +kernel
theorem dX2_lay_117 : decode cX2_lay 117 = .ok (.invokestatic 48, 3) := by decide +kernel
theorem dX2_lay_120 : decode cX2_lay 120 = .ok (.putfield 28, 3) := by decide +kernel
theorem dX2_lay_123 : decode cX2_lay 123 = .ok (.iinc 3 1, 3) := by decide +kernel
theorem dX2_lay_126 : decode cX2_lay 126 = .ok (.goto (-106), 3) := by decide +kernel
theorem dX2_lay_129 : decode cX2_lay 129 = .ok (.iconst 0, 1) := by decide +kernel
theorem dX2_lay_130 : decode cX2_lay 130 = .ok (.istore_n 3, 1) := by decide +kernel
theorem dX2_lay_131 : decode cX2_lay 131 = .ok (.iload_n 3, 1) := by decide +kernel
theorem dX2_lay_132 : decode cX2_lay 132 = .ok (.aload_n 0, 1) := by decide +kernel
theorem dX2_lay_133 : decode cX2_lay 133 = .ok (.getfield 12, 3) := by decide +kernel
theorem dX2_lay_136 : decode cX2_lay 136 = .ok (.getfield 39, 3) := by decide +kernel
theorem dX2_lay_139 : decode cX2_lay 139 = .ok (.if_icmp .ge 21, 3) := by decide +kernel
theorem dX2_lay_142 : decode cX2_lay 142 = .ok (.aload_n 0, 1) := by decide +kernel
theorem dX2_lay_143 : decode cX2_lay 143 = .ok (.getfield 22, 3) := by decide +kernel
theorem dX2_lay_146 : decode cX2_lay 146 = .ok (.iload_n 3, 1) := by decide +kernel
theorem dX2_lay_147 : decode cX2_lay 147 = .ok (.aload_n 0, 1) := by decide +kernel
theorem dX2_lay_148 : decode cX2_lay 148 = .ok (.iload_n 3, 1) := by decide +kernel
theorem dX2_lay_149 : decode cX2_lay 149 = .ok (.iconst 2, 1) := by decide +kernel
theorem dX2_lay_150 : decode cX2_lay 150 = .ok (.invokevirtual 54, 3) := by decide +kernel
theorem dX2_lay_153 : decode cX2_lay 153 = .ok (.iastore, 1) := by decide +kernel
theorem dX2_lay_154 : decode cX2_lay 154 = .ok (.iinc 3 1, 3) := by decide +kernel
theorem dX2_lay_157 : decode cX2_lay 157 = .ok (.goto (-26), 3) := by decide +kernel
theorem dX2_lay_160 : decode cX2_lay 160 = .ok (.return_, 1) := by decide +kernel
theorem dX2_arrange_0 : decode cX2_arrange 0 = .ok (.iconst 0, 1) := by decide +kernel
theorem dX2_arrange_1 : decode cX2_arrange 1 = .ok (.istore_n 2, 1) := by decide +kernel
theorem dX2_arrange_2 : decode cX2_arrange 2 = .ok (.iload_n 2, 1) := by decide +kernel
theorem dX2_arrange_3 : decode cX2_arrange 3 = .ok (.aload_n 0, 1) := by decide +kernel
theorem dX2_arrange_4 : decode cX2_arrange 4 = .ok (.getfield 12, 3) := by decide +kernel
theorem dX2_arrange_7 : decode cX2_arrange 7 = .ok (.getfield 39, 3) := by decide +kernel
theorem dX2_arrange_10 : decode cX2_arrange 10 = .ok (.if_icmp .ge 21, 3) := by decide +kernel
theorem dX2_arrange_13 : decode cX2_arrange 13 = .ok (.aload_n 0, 1) := by decide +kernel
theorem dX2_arrange_14 : decode cX2_arrange 14 = .ok (.getfield 25, 3) := by decide +kernel
theorem dX2_arrange_17 : decode cX2_arrange 17 = .ok (.aload_n 0, 1) := by decide +kernel
theorem dX2_arrange_18 : decode cX2_arrange 18 = .ok (.iload_n 2, 1) := by decide +kernel
theorem dX2_arrange_19 : decode cX2_arrange 19 = .ok (.iload_n 1, 1) := by decide +kernel
theorem dX2_arrange_20 : decode cX2_arrange 20 = .ok (.invokevirtual 54, 3) := by decide +kernel
theorem dX2_arrange_23 : decode cX2_arrange 23 = .ok (.iload_n 2, 1) := by decide +kernel
theorem dX2_arrange_24 : decode cX2_arrange 24 = .ok (.iastore, 1) := by decide +kernel
theorem dX2_arrange_25 : decode cX2_arrange 25 = .ok (.iinc 2 1, 3) := by decide +kernel
theorem dX2_arrange_28 : decode cX2_arrange 28 = .ok (.goto (-26), 3) := by decide +kernel
theorem dX2_arrange_31 : decode cX2_arrange 31 = .ok (.return_, 1) := by decide +kernel
theorem dX2_mostOfOneStage_0 : decode cX2_mostOfOneStage 0 = .ok (.iconst 0, 1) := by decide +kernel
theorem dX2_mostOfOneStage_1 : decode cX2_mostOfOneStage 1 = .ok (.istore_n 1, 1) := by decide +kernel
theorem dX2_mostOfOneStage_2 : decode cX2_mostOfOneStage 2 = .ok (.iconst 0, 1) := by decide +kernel
theorem dX2_mostOfOneStage_3 : decode cX2_mostOfOneStage 3 = .ok (.istore_n 2, 1) := by decide +kernel
theorem dX2_mostOfOneStage_4 : decode cX2_mostOfOneStage 4 = .ok (.iload_n 2, 1) := by decide +kernel
theorem dX2_mostOfOneStage_5 : decode cX2_mostOfOneStage 5 = .ok (.aload_n 0, 1) := by decide +kernel
theorem dX2_mostOfOneStage_6 : decode cX2_mostOfOneStage 6 = .ok (.getfield 28, 3) := by decide +kernel
theorem dX2_mostOfOneStage_9 : decode cX2_mostOfOneStage 9 = .ok (.if_icmp .ge 19, 3) := by decide +kernel
theorem dX2_mostOfOneStage_12 : decode cX2_mostOfOneStage 12 = .ok (.iload_n 1, 1) := by decide +kernel
theorem dX2_mostOfOneStage_13 : decode cX2_mostOfOneStage 13 = .ok (.aload_n 0, 1) := by decide +kernel
theorem dX2_mostOfOneStage_14 : decode cX2_mostOfOneStage 14 = .ok (.iload_n 2, 1) := by decide +kernel
theorem dX2_mostOfOneStage_15 : decode cX2_mostOfOneStage 15 = .ok (.invokevirtual 57, 3) := by decide +kernel
theorem dX2_mostOfOneStage_18 : decode cX2_mostOfOneStage 18 = .ok (.invokestatic 48, 3) := by decide +kernel
theorem dX2_mostOfOneStage_21 : decode cX2_mostOfOneStage 21 = .ok (.istore_n 1, 1) := by decide +kernel
theorem dX2_mostOfOneStage_22 : decode cX2_mostOfOneStage 22 = .ok (.iinc 2 1, 3) := by decide +kernel
theorem dX2_mostOfOneStage_25 : decode cX2_mostOfOneStage 25 = .ok (.goto (-21), 3) := by decide +kernel
theorem dX2_mostOfOneStage_28 : decode cX2_mostOfOneStage 28 = .ok (.iload_n 1, 1) := by decide +kernel
theorem dX2_mostOfOneStage_29 : decode cX2_mostOfOneStage 29 = .ok (.ireturn, 1) := by decide +kernel
theorem dX2_firstFullestStage_0 : decode cX2_firstFullestStage 0 = .ok (.aload_n 0, 1) := by decide +kernel
theorem dX2_firstFullestStage_1 : decode cX2_firstFullestStage 1 = .ok (.invokevirtual 61, 3) := by decide +kernel
theorem dX2_firstFullestStage_4 : decode cX2_firstFullestStage 4 = .ok (.istore_n 1, 1) := by decide +kernel
theorem dX2_firstFullestStage_5 : decode cX2_firstFullestStage 5 = .ok (.iconst 0, 1) := by decide +kernel
theorem dX2_firstFullestStage_6 : decode cX2_firstFullestStage 6 = .ok (.istore_n 2, 1) := by decide +kernel
theorem dX2_firstFullestStage_7 : decode cX2_firstFullestStage 7 = .ok (.iload_n 2, 1) := by decide +kernel
theorem dX2_firstFullestStage_8 : decode cX2_firstFullestStage 8 = .ok (.aload_n 0, 1) := by decide +kernel
theorem dX2_firstFullestStage_9 : decode cX2_firstFullestStage 9 = .ok (.getfield 28, 3) := by decide +kernel
theorem dX2_firstFullestStage_12 : decode cX2_firstFullestStage 12 = .ok (.if_icmp .ge 20, 3) := by decide +kernel
theorem dX2_firstFullestStage_15 : decode cX2_firstFullestStage 15 = .ok (.aload_n 0, 1) := by decide +kernel
theorem dX2_firstFullestStage_16 : decode cX2_firstFullestStage 16 = .ok (.iload_n 2, 1) := by decide +kernel
theorem dX2_firstFullestStage_17 : decode cX2_firstFullestStage 17 = .ok (.invokevirtual 57, 3) := by decide +kernel
theorem dX2_firstFullestStage_20 : decode cX2_firstFullestStage 20 = .ok (.iload_n 1, 1) := by decide +kernel
theorem dX2_firstFullestStage_21 : decode cX2_firstFullestStage 21 = .ok (.if_icmp .ne 5, 3) := by decide +kernel
theorem dX2_firstFullestStage_24 : decode cX2_firstFullestStage 24 = .ok (.iload_n 2, 1) := by decide +kernel
theorem dX2_firstFullestStage_25 : decode cX2_firstFullestStage 25 = .ok (.ireturn, 1) := by decide +kernel
theorem dX2_firstFullestStage_26 : decode cX2_firstFullestStage 26 = .ok (.iinc 2 1, 3) := by decide +kernel
theorem dX2_firstFullestStage_29 : decode cX2_firstFullestStage 29 = .ok (.goto (-22), 3) := by decide +kernel
theorem dX2_firstFullestStage_32 : decode cX2_firstFullestStage 32 = .ok (.bipush (-6), 2) := by decide +kernel
theorem dX2_firstFullestStage_34 : decode cX2_firstFullestStage 34 = .ok (.ireturn, 1) := by decide +kernel
theorem dX2_isNormal_0 : decode cX2_isNormal 0 = .ok (.iconst 0, 1) := by decide +kernel
theorem dX2_isNormal_1 : decode cX2_isNormal 1 = .ok (.istore_n 1, 1) := by decide +kernel
theorem dX2_isNormal_2 : decode cX2_isNormal 2 = .ok (.iload_n 1, 1) := by decide +kernel
theorem dX2_isNormal_3 : decode cX2_isNormal 3 = .ok (.aload_n 0, 1) := by decide +kernel
theorem dX2_isNormal_4 : decode cX2_isNormal 4 = .ok (.getfield 12, 3) := by decide +kernel
theorem dX2_isNormal_7 : decode cX2_isNormal 7 = .ok (.getfield 39, 3) := by decide +kernel
theorem dX2_isNormal_10 : decode cX2_isNormal 10 = .ok (.if_icmp .ge 21, 3) := by decide +kernel
theorem dX2_isNormal_13 : decode cX2_isNormal 13 = .ok (.aload_n 0, 1) := by decide +kernel
theorem dX2_isNormal_14 : decode cX2_isNormal 14 = .ok (.getfield 22, 3) := by decide +kernel
theorem dX2_isNormal_17 : decode cX2_isNormal 17 = .ok (.iload_n 1, 1) := by decide +kernel
theorem dX2_isNormal_18 : decode cX2_isNormal 18 = .ok (.iaload, 1) := by decide +kernel
theorem dX2_isNormal_19 : decode cX2_isNormal 19 = .ok (.iload_n 1, 1) := by decide +kernel
theorem dX2_isNormal_20 : decode cX2_isNormal 20 = .ok (.if_icmp .eq 5, 3) := by decide +kernel
theorem dX2_isNormal_23 : decode cX2_isNormal 23 = .ok (.iconst 0, 1) := by decide +kernel
theorem dX2_isNormal_24 : decode cX2_isNormal 24 = .ok (.ireturn, 1) := by decide +kernel
theorem dX2_isNormal_25 : decode cX2_isNormal 25 = .ok (.iinc 1 1, 3) := by decide +kernel
theorem dX2_isNormal_28 : decode cX2_isNormal 28 = .ok (.goto (-26), 3) := by decide +kernel
theorem dX2_isNormal_31 : decode cX2_isNormal 31 = .ok (.iconst 1, 1) := by decide +kernel
theorem dX2_isNormal_32 : decode cX2_isNormal 32 = .ok (.ireturn, 1) := by decide +kernel
theorem dX2_sameNormalForm_0 : decode cX2_sameNormalForm 0 = .ok (.aload_n 0, 1) := by decide +kernel
theorem dX2_sameNormalForm_1 : decode cX2_sameNormalForm 1 = .ok (.getfield 12, 3) := by decide +kernel
theorem dX2_sameNormalForm_4 : decode cX2_sameNormalForm 4 = .ok (.getfield 39, 3) := by decide +kernel
theorem dX2_sameNormalForm_7 : decode cX2_sameNormalForm 7 = .ok (.aload_n 1, 1) := by decide +kernel
theorem dX2_sameNormalForm_8 : decode cX2_sameNormalForm 8 = .ok (.getfield 12, 3) := by decide +kernel
theorem dX2_sameNormalForm_11 : decode cX2_sameNormalForm 11 = .ok (.getfield 39, 3) := by decide +kernel
theorem dX2_sameNormalForm_14 : decode cX2_sameNormalForm 14 = .ok (.if_icmp .eq 5, 3) := by decide +kernel
theorem dX2_sameNormalForm_17 : decode cX2_sameNormalForm 17 = .ok (.iconst 0, 1) := by decide +kernel
theorem dX2_sameNormalForm_18 : decode cX2_sameNormalForm 18 = .ok (.ireturn, 1) := by decide +kernel
theorem dX2_sameNormalForm_19 : decode cX2_sameNormalForm 19 = .ok (.aload_n 0, 1) := by decide +kernel
theorem dX2_sameNormalForm_20 : decode cX2_sameNormalForm 20 = .ok (.iconst 2, 1) := by decide +kernel
theorem dX2_sameNormalForm_21 : decode cX2_sameNormalForm 21 = .ok (.invokevirtual 65, 3) := by decide +kernel
theorem dX2_sameNormalForm_24 : decode cX2_sameNormalForm 24 = .ok (.aload_n 1, 1) := by decide +kernel
theorem dX2_sameNormalForm_25 : decode cX2_sameNormalForm 25 = .ok (.iconst 2, 1) := by decide +kernel
theorem dX2_sameNormalForm_26 : decode cX2_sameNormalForm 26 = .ok (.invokevirtual 65, 3) := by decide +kernel
theorem dX2_sameNormalForm_29 : decode cX2_sameNormalForm 29 = .ok (.iconst 0, 1) := by decide +kernel
theorem dX2_sameNormalForm_30 : decode cX2_sameNormalForm 30 = .ok (.istore_n 2, 1) := by decide +kernel
theorem dX2_sameNormalForm_31 : decode cX2_sameNormalForm 31 = .ok (.iload_n 2, 1) := by decide +kernel
theorem dX2_sameNormalForm_32 : decode cX2_sameNormalForm 32 = .ok (.aload_n 0, 1) := by decide +kernel
theorem dX2_sameNormalForm_33 : decode cX2_sameNormalForm 33 = .ok (.getfield 12, 3) := by decide +kernel
theorem dX2_sameNormalForm_36 : decode cX2_sameNormalForm 36 = .ok (.getfield 39, 3) := by decide +kernel
theorem dX2_sameNormalForm_39 : decode cX2_sameNormalForm 39 = .ok (.if_icmp .ge 70, 3) := by decide +kernel
theorem dX2_sameNormalForm_42 : decode cX2_sameNormalForm 42 = .ok (.aload_n 0, 1) := by decide +kernel
theorem dX2_sameNormalForm_43 : decode cX2_sameNormalForm 43 = .ok (.getfield 25, 3) := by decide +kernel
theorem dX2_sameNormalForm_46 : decode cX2_sameNormalForm 46 = .ok (.iload_n 2, 1) := by decide +kernel
theorem dX2_sameNormalForm_47 : decode cX2_sameNormalForm 47 = .ok (.iaload, 1) := by decide +kernel
theorem dX2_sameNormalForm_48 : decode cX2_sameNormalForm 48 = .ok (.istore_n 3, 1) := by decide +kernel
theorem dX2_sameNormalForm_49 : decode cX2_sameNormalForm 49 = .ok (.aload_n 1, 1) := by decide +kernel
theorem dX2_sameNormalForm_50 : decode cX2_sameNormalForm 50 = .ok (.getfield 25, 3) := by decide +kernel
theorem dX2_sameNormalForm_53 : decode cX2_sameNormalForm 53 = .ok (.iload_n 2, 1) := by decide +kernel
theorem dX2_sameNormalForm_54 : decode cX2_sameNormalForm 54 = .ok (.iaload, 1) := by decide +kernel
theorem dX2_sameNormalForm_55 : decode cX2_sameNormalForm 55 = .ok (.istore 4, 2) := by decide +kernel
theorem dX2_sameNormalForm_57 : decode cX2_sameNormalForm 57 = .ok (.aload_n 0, 1) := by decide +kernel
theorem dX2_sameNormalForm_58 : decode cX2_sameNormalForm 58 = .ok (.getfield 12, 3) := by decide +kernel
theorem dX2_sameNormalForm_61 : decode cX2_sameNormalForm 61 = .ok (.getfield 69, 3) := by decide +kernel
theorem dX2_sameNormalForm_64 : decode cX2_sameNormalForm 64 = .ok (.iload_n 3, 1) := by decide +kernel
theorem dX2_sameNormalForm_65 : decode cX2_sameNormalForm 65 = .ok (.iaload, 1) := by decide +kernel
theorem dX2_sameNormalForm_66 : decode cX2_sameNormalForm 66 = .ok (.aload_n 1, 1) := by decide +kernel
theorem dX2_sameNormalForm_67 : decode cX2_sameNormalForm 67 = .ok (.getfield 12, 3) := by decide +kernel
theorem dX2_sameNormalForm_70 : decode cX2_sameNormalForm 70 = .ok (.getfield 69, 3) := by decide +kernel
theorem dX2_sameNormalForm_73 : decode cX2_sameNormalForm 73 = .ok (.iload 4, 2) := by decide +kernel
theorem dX2_sameNormalForm_75 : decode cX2_sameNormalForm 75 = .ok (.iaload, 1) := by decide +kernel
theorem dX2_sameNormalForm_76 : decode cX2_sameNormalForm 76 = .ok (.if_icmp .ne 25, 3) := by decide +kernel
theorem dX2_sameNormalForm_79 : decode cX2_sameNormalForm 79 = .ok (.aload_n 0, 1) := by decide +kernel
theorem dX2_sameNormalForm_80 : decode cX2_sameNormalForm 80 = .ok (.getfield 12, 3) := by decide +kernel
theorem dX2_sameNormalForm_83 : decode cX2_sameNormalForm 83 = .ok (.getfield 72, 3) := by decide +kernel
theorem dX2_sameNormalForm_86 : decode cX2_sameNormalForm 86 = .ok (.iload_n 3, 1) := by decide +kernel
theorem dX2_sameNormalForm_87 : decode cX2_sameNormalForm 87 = .ok (.iaload, 1) := by decide +kernel
theorem dX2_sameNormalForm_88 : decode cX2_sameNormalForm 88 = .ok (.aload_n 1, 1) := by decide +kernel
theorem dX2_sameNormalForm_89 : decode cX2_sameNormalForm 89 = .ok (.getfield 12, 3) := by decide +kernel
theorem dX2_sameNormalForm_92 : decode cX2_sameNormalForm 92 = .ok (.getfield 72, 3) := by decide +kernel
theorem dX2_sameNormalForm_95 : decode cX2_sameNormalForm 95 = .ok (.iload 4, 2) := by decide +kernel
theorem dX2_sameNormalForm_97 : decode cX2_sameNormalForm 97 = .ok (.iaload, 1) := by decide +kernel
theorem dX2_sameNormalForm_98 : decode cX2_sameNormalForm 98 = .ok (.if_icmp .eq 5, 3) := by decide +kernel
theorem dX2_sameNormalForm_101 : decode cX2_sameNormalForm 101 = .ok (.iconst 0, 1) := by decide +kernel
theorem dX2_sameNormalForm_102 : decode cX2_sameNormalForm 102 = .ok (.ireturn, 1) := by decide +kernel
theorem dX2_sameNormalForm_103 : decode cX2_sameNormalForm 103 = .ok (.iinc 2 1, 3) := by decide +kernel
theorem dX2_sameNormalForm_106 : decode cX2_sameNormalForm 106 = .ok (.goto (-75), 3) := by decide +kernel
theorem dX2_sameNormalForm_109 : decode cX2_sameNormalForm 109 = .ok (.iconst 1, 1) := by decide +kernel
theorem dX2_sameNormalForm_110 : decode cX2_sameNormalForm 110 = .ok (.ireturn, 1) := by decide +kernel
theorem dX2_sizeOfStage_0 : decode cX2_sizeOfStage 0 = .ok (.iconst 0, 1) := by decide +kernel
theorem dX2_sizeOfStage_1 : decode cX2_sizeOfStage 1 = .ok (.istore_n 2, 1) := by decide +kernel
theorem dX2_sizeOfStage_2 : decode cX2_sizeOfStage 2 = .ok (.iconst 0, 1) := by decide +kernel
theorem dX2_sizeOfStage_3 : decode cX2_sizeOfStage 3 = .ok (.istore_n 3, 1) := by decide +kernel
theorem dX2_sizeOfStage_4 : decode cX2_sizeOfStage 4 = .ok (.iload_n 3, 1) := by decide +kernel
theorem dX2_sizeOfStage_5 : decode cX2_sizeOfStage 5 = .ok (.aload_n 0, 1) := by decide +kernel
theorem dX2_sizeOfStage_6 : decode cX2_sizeOfStage 6 = .ok (.getfield 12, 3) := by decide +kernel
theorem dX2_sizeOfStage_9 : decode cX2_sizeOfStage 9 = .ok (.getfield 39, 3) := by decide +kernel
theorem dX2_sizeOfStage_12 : decode cX2_sizeOfStage 12 = .ok (.if_icmp .ge 22, 3) := by decide +kernel
theorem dX2_sizeOfStage_15 : decode cX2_sizeOfStage 15 = .ok (.aload_n 0, 1) := by decide +kernel
theorem dX2_sizeOfStage_16 : decode cX2_sizeOfStage 16 = .ok (.getfield 18, 3) := by decide +kernel
theorem dX2_sizeOfStage_19 : decode cX2_sizeOfStage 19 = .ok (.iload_n 3, 1) := by decide +kernel
theorem dX2_sizeOfStage_20 : decode cX2_sizeOfStage 20 = .ok (.iaload, 1) := by decide +kernel
theorem dX2_sizeOfStage_21 : decode cX2_sizeOfStage 21 = .ok (.iload_n 1, 1) := by decide +kernel
theorem dX2_sizeOfStage_22 : decode cX2_sizeOfStage 22 = .ok (.if_icmp .ne 6, 3) := by decide +kernel
theorem dX2_sizeOfStage_25 : decode cX2_sizeOfStage 25 = .ok (.iinc 2 1, 3) := by decide +kernel
theorem dX2_sizeOfStage_28 : decode cX2_sizeOfStage 28 = .ok (.iinc 3 1, 3) := by decide +kernel
theorem dX2_sizeOfStage_31 : decode cX2_sizeOfStage 31 = .ok (.goto (-27), 3) := by decide +kernel
theorem dX2_sizeOfStage_34 : decode cX2_sizeOfStage 34 = .ok (.iload_n 2, 1) := by decide +kernel
theorem dX2_sizeOfStage_35 : decode cX2_sizeOfStage 35 = .ok (.ireturn, 1) := by decide +kernel
theorem dX2_position_0 : decode cX2_position 0 = .ok (.iconst 0, 1) := by decide +kernel
theorem dX2_position_1 : decode cX2_position 1 = .ok (.istore_n 3, 1) := by decide +kernel
theorem dX2_position_2 : decode cX2_position 2 = .ok (.iconst 0, 1) := by decide +kernel
theorem dX2_position_3 : decode cX2_position 3 = .ok (.istore 4, 2) := by decide +kernel
theorem dX2_position_5 : decode cX2_position 5 = .ok (.iload 4, 2) := by decide +kernel
theorem dX2_position_7 : decode cX2_position 7 = .ok (.aload_n 0, 1) := by decide +kernel
theorem dX2_position_8 : decode cX2_position 8 = .ok (.getfield 12, 3) := by decide +kernel
theorem dX2_position_11 : decode cX2_position 11 = .ok (.getfield 39, 3) := by decide +kernel
theorem dX2_position_14 : decode cX2_position 14 = .ok (.if_icmp .ge 29, 3) := by decide +kernel
theorem dX2_position_17 : decode cX2_position 17 = .ok (.iload 4, 2) := by decide +kernel
theorem dX2_position_19 : decode cX2_position 19 = .ok (.iload_n 1, 1) := by decide +kernel
theorem dX2_position_20 : decode cX2_position 20 = .ok (.if_icmp .eq 17, 3) := by decide +kernel
theorem dX2_position_23 : decode cX2_position 23 = .ok (.aload_n 0, 1) := by decide +kernel
theorem dX2_position_24 : decode cX2_position 24 = .ok (.iload 4, 2) := by decide +kernel
theorem dX2_position_26 : decode cX2_position 26 = .ok (.iload_n 1, 1) := by decide +kernel
theorem dX2_position_27 : decode cX2_position 27 = .ok (.iload_n 2, 1) := by decide +kernel
theorem dX2_position_28 : decode cX2_position 28 = .ok (.invokevirtual 75, 3) := by decide +kernel
theorem dX2_position_31 : decode cX2_position 31 = .ok (.ifCond .eq 6, 3) := by decide +kernel
theorem dX2_position_34 : decode cX2_position 34 = .ok (.iinc 3 1, 3) := by decide +kernel
theorem dX2_position_37 : decode cX2_position 37 = .ok (.iinc 4 1, 3) := by decide +kernel
theorem dX2_position_40 : decode cX2_position 40 = .ok (.goto (-35), 3) := by decide +kernel
theorem dX2_position_43 : decode cX2_position 43 = .ok (.iload_n 3, 1) := by decide +kernel
theorem dX2_position_44 : decode cX2_position 44 = .ok (.ireturn, 1) := by decide +kernel
theorem dX2_goesAhead_0 : decode cX2_goesAhead 0 = .ok (.iload_n 3, 1) := by decide +kernel
theorem dX2_goesAhead_1 : decode cX2_goesAhead 1 = .ok (.ifCond .ne 14, 3) := by decide +kernel
theorem dX2_goesAhead_4 : decode cX2_goesAhead 4 = .ok (.iload_n 1, 1) := by decide +kernel
theorem dX2_goesAhead_5 : decode cX2_goesAhead 5 = .ok (.iload_n 2, 1) := by decide +kernel
theorem dX2_goesAhead_6 : decode cX2_goesAhead 6 = .ok (.if_icmp .ge 7, 3) := by decide +kernel
theorem dX2_goesAhead_9 : decode cX2_goesAhead 9 = .ok (.iconst 1, 1) := by decide +kernel
theorem dX2_goesAhead_10 : decode cX2_goesAhead 10 = .ok (.goto 4, 3) := by decide +kernel
theorem dX2_goesAhead_13 : decode cX2_goesAhead 13 = .ok (.iconst 0, 1) := by decide +kernel
theorem dX2_goesAhead_14 : decode cX2_goesAhead 14 = .ok (.ireturn, 1) := by decide +kernel
theorem dX2_goesAhead_15 : decode cX2_goesAhead 15 = .ok (.aload_n 0, 1) := by decide +kernel
theorem dX2_goesAhead_16 : decode cX2_goesAhead 16 = .ok (.getfield 18, 3) := by decide +kernel
theorem dX2_goesAhead_19 : decode cX2_goesAhead 19 = .ok (.iload_n 1, 1) := by decide +kernel
theorem dX2_goesAhead_20 : decode cX2_goesAhead 20 = .ok (.iaload, 1) := by decide +kernel
theorem dX2_goesAhead_21 : decode cX2_goesAhead 21 = .ok (.aload_n 0, 1) := by decide +kernel
theorem dX2_goesAhead_22 : decode cX2_goesAhead 22 = .ok (.getfield 18, 3) := by decide +kernel
theorem dX2_goesAhead_25 : decode cX2_goesAhead 25 = .ok (.iload_n 2, 1) := by decide +kernel
theorem dX2_goesAhead_26 : decode cX2_goesAhead 26 = .ok (.iaload, 1) := by decide +kernel
theorem dX2_goesAhead_27 : decode cX2_goesAhead 27 = .ok (.if_icmp .eq 24, 3) := by decide +kernel
theorem dX2_goesAhead_30 : decode cX2_goesAhead 30 = .ok (.aload_n 0, 1) := by decide +kernel
theorem dX2_goesAhead_31 : decode cX2_goesAhead 31 = .ok (.getfield 18, 3) := by decide +kernel
theorem dX2_goesAhead_34 : decode cX2_goesAhead 34 = .ok (.iload_n 1, 1) := by decide +kernel
theorem dX2_goesAhead_35 : decode cX2_goesAhead 35 = .ok (.iaload, 1) := by decide +kernel
theorem dX2_goesAhead_36 : decode cX2_goesAhead 36 = .ok (.aload_n 0, 1) := by decide +kernel
theorem dX2_goesAhead_37 : decode cX2_goesAhead 37 = .ok (.getfield 18, 3) := by decide +kernel
theorem dX2_goesAhead_40 : decode cX2_goesAhead 40 = .ok (.iload_n 2, 1) := by decide +kernel
theorem dX2_goesAhead_41 : decode cX2_goesAhead 41 = .ok (.iaload, 1) := by decide +kernel
theorem dX2_goesAhead_42 : decode cX2_goesAhead 42 = .ok (.if_icmp .ge 7, 3) := by decide +kernel
theorem dX2_goesAhead_45 : decode cX2_goesAhead 45 = .ok (.iconst 1, 1) := by decide +kernel
theorem dX2_goesAhead_46 : decode cX2_goesAhead 46 = .ok (.goto 4, 3) := by decide +kernel
theorem dX2_goesAhead_49 : decode cX2_goesAhead 49 = .ok (.iconst 0, 1) := by decide +kernel
theorem dX2_goesAhead_50 : decode cX2_goesAhead 50 = .ok (.ireturn, 1) := by decide +kernel
theorem dX2_goesAhead_51 : decode cX2_goesAhead 51 = .ok (.iload_n 3, 1) := by decide +kernel
theorem dX2_goesAhead_52 : decode cX2_goesAhead 52 = .ok (.iconst 1, 1) := by decide +kernel
theorem dX2_goesAhead_53 : decode cX2_goesAhead 53 = .ok (.if_icmp .ne 14, 3) := by decide +kernel
theorem dX2_goesAhead_56 : decode cX2_goesAhead 56 = .ok (.iload_n 1, 1) := by decide +kernel
theorem dX2_goesAhead_57 : decode cX2_goesAhead 57 = .ok (.iload_n 2, 1) := by decide +kernel
theorem dX2_goesAhead_58 : decode cX2_goesAhead 58 = .ok (.if_icmp .le 7, 3) := by decide +kernel
theorem dX2_goesAhead_61 : decode cX2_goesAhead 61 = .ok (.iconst 1, 1) := by decide +kernel
theorem dX2_goesAhead_62 : decode cX2_goesAhead 62 = .ok (.goto 4, 3) := by decide +kernel
theorem dX2_goesAhead_65 : decode cX2_goesAhead 65 = .ok (.iconst 0, 1) := by decide +kernel
theorem dX2_goesAhead_66 : decode cX2_goesAhead 66 = .ok (.ireturn, 1) := by decide +kernel
theorem dX2_goesAhead_67 : decode cX2_goesAhead 67 = .ok (.aload_n 0, 1) := by decide +kernel
theorem dX2_goesAhead_68 : decode cX2_goesAhead 68 = .ok (.getfield 12, 3) := by decide +kernel
theorem dX2_goesAhead_71 : decode cX2_goesAhead 71 = .ok (.getfield 69, 3) := by decide +kernel
theorem dX2_goesAhead_74 : decode cX2_goesAhead 74 = .ok (.iload_n 1, 1) := by decide +kernel
theorem dX2_goesAhead_75 : decode cX2_goesAhead 75 = .ok (.iaload, 1) := by decide +kernel
theorem dX2_goesAhead_76 : decode cX2_goesAhead 76 = .ok (.aload_n 0, 1) := by decide +kernel
theorem dX2_goesAhead_77 : decode cX2_goesAhead 77 = .ok (.getfield 12, 3) := by decide +kernel
theorem dX2_goesAhead_80 : decode cX2_goesAhead 80 = .ok (.getfield 69, 3) := by decide +kernel
theorem dX2_goesAhead_83 : decode cX2_goesAhead 83 = .ok (.iload_n 2, 1) := by decide +kernel
theorem dX2_goesAhead_84 : decode cX2_goesAhead 84 = .ok (.iaload, 1) := by decide +kernel
theorem dX2_goesAhead_85 : decode cX2_goesAhead 85 = .ok (.if_icmp .eq 30, 3) := by decide +kernel
theorem dX2_goesAhead_88 : decode cX2_goesAhead 88 = .ok (.aload_n 0, 1) := by decide +kernel
theorem dX2_goesAhead_89 : decode cX2_goesAhead 89 = .ok (.getfield 12, 3) := by decide +kernel
theorem dX2_goesAhead_92 : decode cX2_goesAhead 92 = .ok (.getfield 69, 3) := by decide +kernel
theorem dX2_goesAhead_95 : decode cX2_goesAhead 95 = .ok (.iload_n 1, 1) := by decide +kernel
theorem dX2_goesAhead_96 : decode cX2_goesAhead 96 = .ok (.iaload, 1) := by decide +kernel
theorem dX2_goesAhead_97 : decode cX2_goesAhead 97 = .ok (.aload_n 0, 1) := by decide +kernel
theorem dX2_goesAhead_98 : decode cX2_goesAhead 98 = .ok (.getfield 12, 3) := by decide +kernel
theorem dX2_goesAhead_101 : decode cX2_goesAhead 101 = .ok (.getfield 69, 3) := by decide +kernel
theorem dX2_goesAhead_104 : decode cX2_goesAhead 104 = .ok (.iload_n 2, 1) := by decide +kernel
theorem dX2_goesAhead_105 : decode cX2_goesAhead 105 = .ok (.iaload, 1) := by decide +kernel
theorem dX2_goesAhead_106 : decode cX2_goesAhead 106 = .ok (.if_icmp .ge 7, 3) := by decide +kernel
theorem dX2_goesAhead_109 : decode cX2_goesAhead 109 = .ok (.iconst 1, 1) := by decide +kernel
theorem dX2_goesAhead_110 : decode cX2_goesAhead 110 = .ok (.goto 4, 3) := by decide +kernel
theorem dX2_goesAhead_113 : decode cX2_goesAhead 113 = .ok (.iconst 0, 1) := by decide +kernel
theorem dX2_goesAhead_114 : decode cX2_goesAhead 114 = .ok (.ireturn, 1) := by decide +kernel
theorem dX2_goesAhead_115 : decode cX2_goesAhead 115 = .ok (.aload_n 0, 1) := by decide +kernel
theorem dX2_goesAhead_116 : decode cX2_goesAhead 116 = .ok (.getfield 12, 3) := by decide +kernel
theorem dX2_goesAhead_119 : decode cX2_goesAhead 119 = .ok (.getfield 72, 3) := by decide +kernel
theorem dX2_goesAhead_122 : decode cX2_goesAhead 122 = .ok (.iload_n 1, 1) := by decide +kernel
theorem dX2_goesAhead_123 : decode cX2_goesAhead 123 = .ok (.iaload, 1) := by decide +kernel
theorem dX2_goesAhead_124 : decode cX2_goesAhead 124 = .ok (.aload_n 0, 1) := by decide +kernel
theorem dX2_goesAhead_125 : decode cX2_goesAhead 125 = .ok (.getfield 12, 3) := by decide +kernel
theorem dX2_goesAhead_128 : decode cX2_goesAhead 128 = .ok (.getfield 72, 3) := by decide +kernel
theorem dX2_goesAhead_131 : decode cX2_goesAhead 131 = .ok (.iload_n 2, 1) := by decide +kernel
theorem dX2_goesAhead_132 : decode cX2_goesAhead 132 = .ok (.iaload, 1) := by decide +kernel
theorem dX2_goesAhead_133 : decode cX2_goesAhead 133 = .ok (.if_icmp .eq 30, 3) := by decide +kernel
theorem dX2_goesAhead_136 : decode cX2_goesAhead 136 = .ok (.aload_n 0, 1) := by decide +kernel
theorem dX2_goesAhead_137 : decode cX2_goesAhead 137 = .ok (.getfield 12, 3) := by decide +kernel
theorem dX2_goesAhead_140 : decode cX2_goesAhead 140 = .ok (.getfield 72, 3) := by decide +kernel
theorem dX2_goesAhead_143 : decode cX2_goesAhead 143 = .ok (.iload_n 1, 1) := by decide +kernel
theorem dX2_goesAhead_144 : decode cX2_goesAhead 144 = .ok (.iaload, 1) := by decide +kernel
theorem dX2_goesAhead_145 : decode cX2_goesAhead 145 = .ok (.aload_n 0, 1) := by decide +kernel
theorem dX2_goesAhead_146 : decode cX2_goesAhead 146 = .ok (.getfield 12, 3) := by decide +kernel
theorem dX2_goesAhead_149 : decode cX2_goesAhead 149 = .ok (.getfield 72, 3) := by decide +kernel
theorem dX2_goesAhead_152 : decode cX2_goesAhead 152 = .ok (.iload_n 2, 1) := by decide +kernel
theorem dX2_goesAhead_153 : decode cX2_goesAhead 153 = .ok (.iaload, 1) := by decide +kernel
theorem dX2_goesAhead_154 : decode cX2_goesAhead 154 = .ok (.if_icmp .ge 7, 3) := by decide +kernel
theorem dX2_goesAhead_157 : decode cX2_goesAhead 157 = .ok (.iconst 1, 1) := by decide +kernel
theorem dX2_goesAhead_158 : decode cX2_goesAhead 158 = .ok (.goto 4, 3) := by decide +kernel
theorem dX2_goesAhead_161 : decode cX2_goesAhead 161 = .ok (.iconst 0, 1) := by decide +kernel
theorem dX2_goesAhead_162 : decode cX2_goesAhead 162 = .ok (.ireturn, 1) := by decide +kernel
theorem dX2_goesAhead_163 : decode cX2_goesAhead 163 = .ok (.iload_n 1, 1) := by decide +kernel
theorem dX2_goesAhead_164 : decode cX2_goesAhead 164 = .ok (.iload_n 2, 1) := by decide +kernel
theorem dX2_goesAhead_165 : decode cX2_goesAhead 165 = .ok (.if_icmp .ge 7, 3) := by decide +kernel
theorem dX2_goesAhead_168 : decode cX2_goesAhead 168 = .ok (.iconst 1, 1) := by decide +kernel
theorem dX2_goesAhead_169 : decode cX2_goesAhead 169 = .ok (.goto 4, 3) := by decide +kernel
theorem dX2_goesAhead_172 : decode cX2_goesAhead 172 = .ok (.iconst 0, 1) := by decide +kernel
theorem dX2_goesAhead_173 : decode cX2_goesAhead 173 = .ok (.ireturn, 1) := by decide +kernel
theorem dX3_init_0 : decode cX3_init 0 = .ok (.aload_n 0, 1) := by decide +kernel
theorem dX3_init_1 : decode cX3_init 1 = .ok (.invokespecial 3, 3) := by decide +kernel
theorem dX3_init_4 : decode cX3_init 4 = .ok (.aload_n 0, 1) := by decide +kernel
theorem dX3_init_5 : decode cX3_init 5 = .ok (.bipush 18, 2) := by decide +kernel
theorem dX3_init_7 : decode cX3_init 7 = .ok (.newarray .int, 2) := by decide +kernel
theorem dX3_init_9 : decode cX3_init 9 = .ok (.putfield 9, 3) := by decide +kernel
theorem dX3_init_12 : decode cX3_init 12 = .ok (.aload_n 0, 1) := by decide +kernel
theorem dX3_init_13 : decode cX3_init 13 = .ok (.bipush 16, 2) := by decide +kernel
theorem dX3_init_15 : decode cX3_init 15 = .ok (.newarray .int, 2) := by decide +kernel
theorem dX3_init_17 : decode cX3_init 17 = .ok (.putfield 15, 3) := by decide +kernel
theorem dX3_init_20 : decode cX3_init 20 = .ok (.aload_n 0, 1) := by decide +kernel
theorem dX3_init_21 : decode cX3_init 21 = .ok (.iconst 0, 1) := by decide +kernel
theorem dX3_init_22 : decode cX3_init 22 = .ok (.putfield 18, 3) := by decide +kernel
theorem dX3_init_25 : decode cX3_init 25 = .ok (.aload_n 0, 1) := by decide +kernel
theorem dX3_init_26 : decode cX3_init 26 = .ok (.iconst 0, 1) := by decide +kernel
theorem dX3_init_27 : decode cX3_init 27 = .ok (.putfield 22, 3) := by decide +kernel
theorem dX3_init_30 : decode cX3_init 30 = .ok (.aload_n 0, 1) := by decide +kernel
theorem dX3_init_31 : decode cX3_init 31 = .ok (.iconst 0, 1) := by decide +kernel
theorem dX3_init_32 : decode cX3_init 32 = .ok (.putfield 25, 3) := by decide +kernel
theorem dX3_init_35 : decode cX3_init 35 = .ok (.return_, 1) := by decide +kernel
theorem dX3_perform_0 : decode cX3_perform 0 = .ok (.aload 4, 2) := by decide +kernel
theorem dX3_perform_2 : decode cX3_perform 2 = .ok (.iconst 0, 1) := by decide +kernel
theorem dX3_perform_3 : decode cX3_perform 3 = .ok (.aload_n 0, 1) := by decide +kernel
theorem dX3_perform_4 : decode cX3_perform 4 = .ok (.getfield 9, 3) := by decide +kernel
theorem dX3_perform_7 : decode cX3_perform 7 = .ok (.iconst 0, 1) := by decide +kernel
theorem dX3_perform_8 : decode cX3_perform 8 = .ok (.bipush 18, 2) := by decide +kernel
theorem dX3_perform_10 : decode cX3_perform 10 = .ok (.invokestatic 28, 3) := by decide +kernel
theorem dX3_perform_13 : decode cX3_perform 13 = .ok (.aload_n 0, 1) := by decide +kernel
theorem dX3_perform_14 : decode cX3_perform 14 = .ok (.iconst 0, 1) := by decide +kernel
theorem dX3_perform_15 : decode cX3_perform 15 = .ok (.putfield 18, 3) := by decide +kernel
theorem dX3_perform_18 : decode cX3_perform 18 = .ok (.aload_n 0, 1) := by decide +kernel
theorem dX3_perform_19 : decode cX3_perform 19 = .ok (.iconst 0, 1) := by decide +kernel
theorem dX3_perform_20 : decode cX3_perform 20 = .ok (.putfield 22, 3) := by decide +kernel
theorem dX3_perform_23 : decode cX3_perform 23 = .ok (.iconst 0, 1) := by decide +kernel
theorem dX3_perform_24 : decode cX3_perform 24 = .ok (.istore 5, 2) := by decide +kernel
theorem dX3_perform_26 : decode cX3_perform 26 = .ok (.iload 5, 2) := by decide +kernel
theorem dX3_perform_28 : decode cX3_perform 28 = .ok (.aload_n 2, 1) := by decide +kernel
theorem dX3_perform_29 : decode cX3_perform 29 = .ok (.getfield 34, 3) := by decide +kernel
theorem dX3_perform_32 : decode cX3_perform 32 = .ok (.if_icmp .ge 90, 3) := by decide +kernel
theorem dX3_perform_35 : decode cX3_perform 35 = .ok (.aload_n 3, 1) := by decide +kernel
theorem dX3_perform_36 : decode cX3_perform 36 = .ok (.iload 5, 2) := by decide +kernel
theorem dX3_perform_38 : decode cX3_perform 38 = .ok (.iaload, 1) := by decide +kernel
theorem dX3_perform_39 : decode cX3_perform 39 = .ok (.istore 6, 2) := by decide +kernel
theorem dX3_perform_41 : decode cX3_perform 41 = .ok (.aload_n 0, 1) := by decide +kernel
theorem dX3_perform_42 : decode cX3_perform 42 = .ok (.iconst 0, 1) := by decide +kernel
theorem dX3_perform_43 : decode cX3_perform 43 = .ok (.putfield 25, 3) := by decide +kernel
theorem dX3_perform_46 : decode cX3_perform 46 = .ok (.aload_n 0, 1) := by decide +kernel
theorem dX3_perform_47 : decode cX3_perform 47 = .ok (.aload_n 1, 1) := by decide +kernel
theorem dX3_perform_48 : decode cX3_perform 48 = .ok (.aload_n 2, 1) := by decide +kernel
theorem dX3_perform_49 : decode cX3_perform 49 = .ok (.getfield 39, 3) := by decide +kernel
theorem dX3_perform_52 : decode cX3_perform 52 = .ok (.iload 6, 2) := by decide +kernel
theorem dX3_perform_54 : decode cX3_perform 54 = .ok (.iaload, 1) := by decide +kernel
theorem dX3_perform_55 : decode cX3_perform 55 = .ok (.aload_n 2, 1) := by decide +kernel
theorem dX3_perform_56 : decode cX3_perform 56 = .ok (.getfield 42, 3) := by decide +kernel
theorem dX3_perform_59 : decode cX3_perform 59 = .ok (.iload 6, 2) := by decide +kernel
theorem dX3_perform_61 : decode cX3_perform 61 = .ok (.iaload, 1) := by decide +kernel
theorem dX3_perform_62 : decode cX3_perform 62 = .ok (.iconst 1, 1) := by decide +kernel
theorem dX3_perform_63 : decode cX3_perform 63 = .ok (.invokevirtual 45, 3) := by decide +kernel
theorem dX3_perform_66 : decode cX3_perform 66 = .ok (.istore 7, 2) := by decide +kernel
theorem dX3_perform_68 : decode cX3_perform 68 = .ok (.iload 7, 2) := by decide +kernel
theorem dX3_perform_70 : decode cX3_perform 70 = .ok (.iconst 2, 1) := by decide +kernel
theorem dX3_perform_71 : decode cX3_perform 71 = .ok (.if_icmp .ne 5, 3) := by decide +kernel
theorem dX3_perform_74 : decode cX3_perform 74 = .ok (.iconst 0, 1) := by decide +kernel
theorem dX3_perform_75 : decode cX3_perform 75 = .ok (.ireturn, 1) := by decide +kernel
theorem dX3_perform_76 : decode cX3_perform 76 = .ok (.iload 7, 2) := by decide +kernel
theorem dX3_perform_78 : decode cX3_perform 78 = .ok (.iconst 1, 1) := by decide +kernel
theorem dX3_perform_79 : decode cX3_perform 79 = .ok (.if_icmp .ne 24, 3) := by decide +kernel
theorem dX3_perform_82 : decode cX3_perform 82 = .ok (.aload_n 0, 1) := by decide +kernel
theorem dX3_perform_83 : decode cX3_perform 83 = .ok (.getfield 15, 3) := by decide +kernel
theorem dX3_perform_86 : decode cX3_perform 86 = .ok (.aload_n 0, 1) := by decide +kernel
theorem dX3_perform_87 : decode cX3_perform 87 = .ok (.getfield 18, 3) := by decide +kernel
theorem dX3_perform_90 : decode cX3_perform 90 = .ok (.iload 6, 2) := by decide +kernel
theorem dX3_perform_92 : decode cX3_perform 92 = .ok (.iastore, 1) := by decide +kernel
theorem dX3_perform_93 : decode cX3_perform 93 = .ok (.aload_n 0, 1) := by decide +kernel
theorem dX3_perform_94 : decode cX3_perform 94 = .ok (.dup, 1) := by decide +kernel
theorem dX3_perform_95 : decode cX3_perform 95 = .ok (.getfield 18, 3) := by decide +kernel
theorem dX3_perform_98 : decode cX3_perform 98 = .ok (.iconst 1, 1) := by decide +kernel
theorem dX3_perform_99 : decode cX3_perform 99 = .ok (.iadd, 1) := by decide +kernel
theorem dX3_perform_100 : decode cX3_perform 100 = .ok (.putfield 18, 3) := by decide +kernel
theorem dX3_perform_103 : decode cX3_perform 103 = .ok (.aload_n 0, 1) := by decide +kernel
theorem dX3_perform_104 : decode cX3_perform 104 = .ok (.dup, 1) := by decide +kernel
theorem dX3_perform_105 : decode cX3_perform 105 = .ok (.getfield 22, 3) := by decide +kernel
theorem dX3_perform_108 : decode cX3_perform 108 = .ok (.aload_n 0, 1) := by decide +kernel
theorem dX3_perform_109 : decode cX3_perform 109 = .ok (.getfield 25, 3) := by decide +kernel
theorem dX3_perform_112 : decode cX3_perform 112 = .ok (.iadd, 1) := by decide +kernel
theorem dX3_perform_113 : decode cX3_perform 113 = .ok (.putfield 22, 3) := by decide +kernel
theorem dX3_perform_116 : decode cX3_perform 116 = .ok (.iinc 5 1, 3) := by decide +kernel
theorem dX3_perform_119 : decode cX3_perform 119 = .ok (.goto (-93), 3) := by decide +kernel
theorem dX3_perform_122 : decode cX3_perform 122 = .ok (.iconst 1, 1) := by decide +kernel
theorem dX3_perform_123 : decode cX3_perform 123 = .ok (.ireturn, 1) := by decide +kernel
theorem dX3_doRoutine_0 : decode cX3_doRoutine 0 = .ok (.iload 4, 2) := by decide +kernel
theorem dX3_doRoutine_2 : decode cX3_doRoutine 2 = .ok (.bipush 20, 2) := by decide +kernel
theorem dX3_doRoutine_4 : decode cX3_doRoutine 4 = .ok (.if_icmp .le 5, 3) := by decide +kernel
theorem dX3_doRoutine_7 : decode cX3_doRoutine 7 = .ok (.iconst 2, 1) := by decide +kernel
theorem dX3_doRoutine_8 : decode cX3_doRoutine 8 = .ok (.ireturn, 1) := by decide +kernel
theorem dX3_doRoutine_9 : decode cX3_doRoutine 9 = .ok (.aload_n 1, 1) := by decide +kernel
theorem dX3_doRoutine_10 : decode cX3_doRoutine 10 = .ok (.iload_n 2, 1) := by decide +kernel
theorem dX3_doRoutine_11 : decode cX3_doRoutine 11 = .ok (.aaload, 1) := by decide +kernel
theorem dX3_doRoutine_12 : decode cX3_doRoutine 12 = .ok (.astore 5, 2) := by decide +kernel
theorem dX3_doRoutine_14 : decode cX3_doRoutine 14 = .ok (.iconst 0, 1) := by decide +kernel
theorem dX3_doRoutine_15 : decode cX3_doRoutine 15 = .ok (.istore 6, 2) := by decide +kernel
theorem dX3_doRoutine_17 : decode cX3_doRoutine 17 = .ok (.iload 6, 2) := by decide +kernel
theorem dX3_doRoutine_19 : decode cX3_doRoutine 19 = .ok (.aload 5, 2) := by decide +kernel
theorem dX3_doRoutine_21 : decode cX3_doRoutine 21 = .ok (.getfield 49, 3) := by decide +kernel
theorem dX3_doRoutine_24 : decode cX3_doRoutine 24 = .ok (.if_icmp .ge 103, 3) := by decide +kernel
theorem dX3_doRoutine_27 : decode cX3_doRoutine 27 = .ok (.aload_n 0, 1) := by decide +kernel
theorem dX3_doRoutine_28 : decode cX3_doRoutine 28 = .ok (.getfield 25, 3) := by decide +kernel
theorem dX3_doRoutine_31 : decode cX3_doRoutine 31 = .ok (.sipush 200, 3) := by decide +kernel
theorem dX3_doRoutine_34 : decode cX3_doRoutine 34 = .ok (.if_icmp .lt 5, 3) := by decide +kernel
theorem dX3_doRoutine_37 : decode cX3_doRoutine 37 = .ok (.iconst 2, 1) := by decide +kernel
theorem dX3_doRoutine_38 : decode cX3_doRoutine 38 = .ok (.ireturn, 1) := by decide +kernel
theorem dX3_doRoutine_39 : decode cX3_doRoutine 39 = .ok (.aload_n 0, 1) := by decide +kernel
theorem dX3_doRoutine_40 : decode cX3_doRoutine 40 = .ok (.dup, 1) := by decide +kernel
theorem dX3_doRoutine_41 : decode cX3_doRoutine 41 = .ok (.getfield 25, 3) := by decide +kernel
theorem dX3_doRoutine_44 : decode cX3_doRoutine 44 = .ok (.iconst 1, 1) := by decide +kernel
theorem dX3_doRoutine_45 : decode cX3_doRoutine 45 = .ok (.iadd, 1) := by decide +kernel
theorem dX3_doRoutine_46 : decode cX3_doRoutine 46 = .ok (.putfield 25, 3) := by decide +kernel
theorem dX3_doRoutine_49 : decode cX3_doRoutine 49 = .ok (.aload 5, 2) := by decide +kernel
theorem dX3_doRoutine_51 : decode cX3_doRoutine 51 = .ok (.getfield 54, 3) := by decide +kernel
theorem dX3_doRoutine_54 : decode cX3_doRoutine 54 = .ok (.iload 6, 2) := by decide +kernel
theorem dX3_doRoutine_56 : decode cX3_doRoutine 56 = .ok (.iaload, 1) := by decide +kernel
theorem dX3_doRoutine_57 : decode cX3_doRoutine 57 = .ok (.iload_n 3, 1) := by decide +kernel
theorem dX3_doRoutine_58 : decode cX3_doRoutine 58 = .ok (.invokestatic 57, 3) := by decide +kernel
theorem dX3_doRoutine_61 : decode cX3_doRoutine 61 = .ok (.istore 7, 2) := by decide +kernel
theorem dX3_doRoutine_63 : decode cX3_doRoutine 63 = .ok (.aload 5, 2) := by decide +kernel
theorem dX3_doRoutine_65 : decode cX3_doRoutine 65 = .ok (.getfield 61, 3) := by decide +kernel
theorem dX3_doRoutine_68 : decode cX3_doRoutine 68 = .ok (.iload 6, 2) := by decide +kernel
theorem dX3_doRoutine_70 : decode cX3_doRoutine 70 = .ok (.iaload, 1) := by decide +kernel
theorem dX3_doRoutine_71 : decode cX3_doRoutine 71 = .ok (.iconst 3, 1) := by decide +kernel
theorem dX3_doRoutine_72 : decode cX3_doRoutine 72 = .ok (.if_icmp .ne 28, 3) := by decide +kernel
theorem dX3_doRoutine_75 : decode cX3_doRoutine 75 = .ok (.aload_n 0, 1) := by decide +kernel
theorem dX3_doRoutine_76 : decode cX3_doRoutine 76 = .ok (.aload_n 1, 1) := by decide +kernel
theorem dX3_doRoutine_77 : decode cX3_doRoutine 77 = .ok (.aload 5, 2) := by decide +kernel
theorem dX3_doRoutine_79 : decode cX3_doRoutine 79 = .ok (.getfield 64, 3) := by decide +kernel
theorem dX3_doRoutine_82 : decode cX3_doRoutine 82 = .ok (.iload 6, 2) := by decide +kernel
theorem dX3_doRoutine_84 : decode cX3_doRoutine 84 = .ok (.iaload, 1) := by decide +kernel
theorem dX3_doRoutine_85 : decode cX3_doRoutine 85 = .ok (.iload 7, 2) := by decide +kernel
theorem dX3_doRoutine_87 : decode cX3_doRoutine 87 = .ok (.bipush 6, 2) := by decide +kernel
theorem dX3_doRoutine_89 : decode cX3_doRoutine 89 = .ok (.isub, 1) := by decide +kernel
theorem dX3_doRoutine_90 : decode cX3_doRoutine 90 = .ok (.iload 4, 2) := by decide +kernel
theorem dX3_doRoutine_92 : decode cX3_doRoutine 92 = .ok (.iconst 1, 1) := by decide +kernel
theorem dX3_doRoutine_93 : decode cX3_doRoutine 93 = .ok (.iadd, 1) := by decide +kernel
theorem dX3_doRoutine_94 : decode cX3_doRoutine 94 = .ok (.invokevirtual 45, 3) := by decide +kernel
theorem dX3_doRoutine_97 : decode cX3_doRoutine 97 = .ok (.goto 14, 3) := by decide +kernel
theorem dX3_doRoutine_100 : decode cX3_doRoutine 100 = .ok (.aload_n 0, 1) := by decide +kernel
theorem dX3_doRoutine_101 : decode cX3_doRoutine 101 = .ok (.aload 5, 2) := by decide +kernel
theorem dX3_doRoutine_103 : decode cX3_doRoutine 103 = .ok (.iload 6, 2) := by decide +kernel
theorem dX3_doRoutine_105 : decode cX3_doRoutine 105 = .ok (.iload 7, 2) := by decide +kernel
theorem dX3_doRoutine_107 : decode cX3_doRoutine 107 = .ok (.iload_n 3, 1) := by decide +kernel
theorem dX3_doRoutine_108 : decode cX3_doRoutine 108 = .ok (.invokevirtual 67, 3) := by decide +kernel
theorem dX3_doRoutine_111 : decode cX3_doRoutine 111 = .ok (.istore 8, 2) := by decide +kernel
theorem dX3_doRoutine_113 : decode cX3_doRoutine 113 = .ok (.iload 8, 2) := by decide +kernel
theorem dX3_doRoutine_115 : decode cX3_doRoutine 115 = .ok (.ifCond .eq 6, 3) := by decide +kernel
theorem dX3_doRoutine_118 : decode cX3_doRoutine 118 = .ok (.iload 8, 2) := by decide +kernel
theorem dX3_doRoutine_120 : decode cX3_doRoutine 120 = .ok (.ireturn, 1) := by decide +kernel
theorem dX3_doRoutine_121 : decode cX3_doRoutine 121 = .ok (.iinc 6 1, 3) := by decide +kernel
theorem dX3_doRoutine_124 : decode cX3_doRoutine 124 = .ok (.goto (-107), 3) := by decide +kernel
theorem dX3_doRoutine_127 : decode cX3_doRoutine 127 = .ok (.iconst 0, 1) := by decide +kernel
theorem dX3_doRoutine_128 : decode cX3_doRoutine 128 = .ok (.ireturn, 1) := by decide +kernel
theorem dX3_doSimple_0 : decode cX3_doSimple 0 = .ok (.aload_n 1, 1) := by decide +kernel
theorem dX3_doSimple_1 : decode cX3_doSimple 1 = .ok (.getfield 61, 3) := by decide +kernel
theorem dX3_doSimple_4 : decode cX3_doSimple 4 = .ok (.iload_n 2, 1) := by decide +kernel
theorem dX3_doSimple_5 : decode cX3_doSimple 5 = .ok (.iaload, 1) := by decide +kernel
theorem dX3_doSimple_6 : decode cX3_doSimple 6 = .ok (.lookupswitch 71 #[(0, 26), (1, 45)], 26) := by decide +kernel
theorem dX3_doSimple_32 : decode cX3_doSimple 32 = .ok (.aload_n 0, 1) := by decide +kernel
theorem dX3_doSimple_33 : decode cX3_doSimple 33 = .ok (.getfield 9, 3) := by decide +kernel
theorem dX3_doSimple_36 : decode cX3_doSimple 36 = .ok (.iload_n 3, 1) := by decide +kernel
theorem dX3_doSimple_37 : decode cX3_doSimple 37 = .ok (.aload_n 0, 1) := by decide +kernel
theorem dX3_doSimple_38 : decode cX3_doSimple 38 = .ok (.aload_n 1, 1) := by decide +kernel
theorem dX3_doSimple_39 : decode cX3_doSimple 39 = .ok (.iload_n 2, 1) := by decide +kernel
theorem dX3_doSimple_40 : decode cX3_doSimple 40 = .ok (.iload 4, 2) := by decide +kernel
theorem dX3_doSimple_42 : decode cX3_doSimple 42 = .ok (.invokevirtual 71, 3) := by decide +kernel
theorem dX3_doSimple_45 : decode cX3_doSimple 45 = .ok (.bipush 100, 2) := by decide +kernel
theorem dX3_doSimple_47 : decode cX3_doSimple 47 = .ok (.irem, 1) := by decide +kernel
theorem dX3_doSimple_48 : decode cX3_doSimple 48 = .ok (.iastore, 1) := by decide +kernel
theorem dX3_doSimple_49 : decode cX3_doSimple 49 = .ok (.iconst 0, 1) := by decide +kernel
theorem dX3_doSimple_50 : decode cX3_doSimple 50 = .ok (.ireturn, 1) := by decide +kernel
theorem dX3_doSimple_51 : decode cX3_doSimple 51 = .ok (.aload_n 0, 1) := by decide +kernel
theorem dX3_doSimple_52 : decode cX3_doSimple 52 = .ok (.getfield 9, 3) := by decide +kernel
theorem dX3_doSimple_55 : decode cX3_doSimple 55 = .ok (.iload_n 3, 1) := by decide +kernel
theorem dX3_doSimple_56 : decode cX3_doSimple 56 = .ok (.aload_n 0, 1) := by decide +kernel
theorem dX3_doSimple_57 : decode cX3_doSimple 57 = .ok (.getfield 9, 3) := by decide +kernel
theorem dX3_doSimple_60 : decode cX3_doSimple 60 = .ok (.iload_n 3, 1) := by decide +kernel
theorem dX3_doSimple_61 : decode cX3_doSimple 61 = .ok (.iaload, 1) := by decide +kernel
theorem dX3_doSimple_62 : decode cX3_doSimple 62 = .ok (.aload_n 0, 1) := by decide +kernel
theorem dX3_doSimple_63 : decode cX3_doSimple 63 = .ok (.aload_n 1, 1) := by decide +kernel
theorem dX3_doSimple_64 : decode cX3_doSimple 64 = .ok (.iload_n 2, 1) := by decide +kernel
theorem dX3_doSimple_65 : decode cX3_doSimple 65 = .ok (.iload 4, 2) := by decide +kernel
theorem dX3_doSimple_67 : decode cX3_doSimple 67 = .ok (.invokevirtual 71, 3) := by decide +kernel
theorem dX3_doSimple_70 : decode cX3_doSimple 70 = .ok (.iadd, 1) := by decide +kernel
theorem dX3_doSimple_71 : decode cX3_doSimple 71 = .ok (.bipush 100, 2) := by decide +kernel
theorem dX3_doSimple_73 : decode cX3_doSimple 73 = .ok (.irem, 1) := by decide +kernel
theorem dX3_doSimple_74 : decode cX3_doSimple 74 = .ok (.iastore, 1) := by decide +kernel
theorem dX3_doSimple_75 : decode cX3_doSimple 75 = .ok (.iconst 0, 1) := by decide +kernel
theorem dX3_doSimple_76 : decode cX3_doSimple 76 = .ok (.ireturn, 1) := by decide +kernel
theorem dX3_doSimple_77 : decode cX3_doSimple 77 = .ok (.aload_n 0, 1) := by decide +kernel
theorem dX3_doSimple_78 : decode cX3_doSimple 78 = .ok (.getfield 9, 3) := by decide +kernel
theorem dX3_doSimple_81 : decode cX3_doSimple 81 = .ok (.iload_n 3, 1) := by decide +kernel
theorem dX3_doSimple_82 : decode cX3_doSimple 82 = .ok (.iaload, 1) := by decide +kernel
theorem dX3_doSimple_83 : decode cX3_doSimple 83 = .ok (.ifCond .ne 7, 3) := by decide +kernel
theorem dX3_doSimple_86 : decode cX3_doSimple 86 = .ok (.iconst 1, 1) := by decide +kernel
theorem dX3_doSimple_87 : decode cX3_doSimple 87 = .ok (.goto 4, 3) := by decide +kernel
theorem dX3_doSimple_90 : decode cX3_doSimple 90 = .ok (.iconst 0, 1) := by decide +kernel
theorem dX3_doSimple_91 : decode cX3_doSimple 91 = .ok (.ireturn, 1) := by decide +kernel
theorem dX3_sumOfLeaves_0 : decode cX3_sumOfLeaves 0 = .ok (.iconst 0, 1) := by decide +kernel
theorem dX3_sumOfLeaves_1 : decode cX3_sumOfLeaves 1 = .ok (.istore 4, 2) := by decide +kernel
theorem dX3_sumOfLeaves_3 : decode cX3_sumOfLeaves 3 = .ok (.aload_n 1, 1) := by decide +kernel
theorem dX3_sumOfLeaves_4 : decode cX3_sumOfLeaves 4 = .ok (.iload_n 2, 1) := by decide +kernel
theorem dX3_sumOfLeaves_5 : decode cX3_sumOfLeaves 5 = .ok (.invokevirtual 75, 3) := by decide +kernel
theorem dX3_sumOfLeaves_8 : decode cX3_sumOfLeaves 8 = .ok (.istore 5, 2) := by decide +kernel
theorem dX3_sumOfLeaves_10 : decode cX3_sumOfLeaves 10 = .ok (.iload 5, 2) := by decide +kernel
theorem dX3_sumOfLeaves_12 : decode cX3_sumOfLeaves 12 = .ok (.aload_n 1, 1) := by decide +kernel
theorem dX3_sumOfLeaves_13 : decode cX3_sumOfLeaves 13 = .ok (.getfield 79, 3) := by decide +kernel
theorem dX3_sumOfLeaves_16 : decode cX3_sumOfLeaves 16 = .ok (.iload_n 2, 1) := by decide +kernel
theorem dX3_sumOfLeaves_17 : decode cX3_sumOfLeaves 17 = .ok (.iaload, 1) := by decide +kernel
theorem dX3_sumOfLeaves_18 : decode cX3_sumOfLeaves 18 = .ok (.if_icmp .ge 74, 3) := by decide +kernel
theorem dX3_sumOfLeaves_21 : decode cX3_sumOfLeaves 21 = .ok (.aload_n 1, 1) := by decide +kernel
theorem dX3_sumOfLeaves_22 : decode cX3_sumOfLeaves 22 = .ok (.getfield 82, 3) := by decide +kernel
theorem dX3_sumOfLeaves_25 : decode cX3_sumOfLeaves 25 = .ok (.iload 5, 2) := by decide +kernel
theorem dX3_sumOfLeaves_27 : decode cX3_sumOfLeaves 27 = .ok (.iaload, 1) := by decide +kernel
theorem dX3_sumOfLeaves_28 : decode cX3_sumOfLeaves 28 = .ok (.istore 6, 2) := by decide +kernel
theorem dX3_sumOfLeaves_30 : decode cX3_sumOfLeaves 30 = .ok (.aload_n 1, 1) := by decide +kernel
theorem dX3_sumOfLeaves_31 : decode cX3_sumOfLeaves 31 = .ok (.getfield 85, 3) := by decide +kernel
theorem dX3_sumOfLeaves_34 : decode cX3_sumOfLeaves 34 = .ok (.iload 5, 2) := by decide +kernel
theorem dX3_sumOfLeaves_36 : decode cX3_sumOfLeaves 36 = .ok (.iaload, 1) := by decide +kernel
theorem dX3_sumOfLeaves_37 : decode cX3_sumOfLeaves 37 = .ok (.ifCond .ne 13, 3) := by decide +kernel
theorem dX3_sumOfLeaves_40 : decode cX3_sumOfLeaves 40 = .ok (.iload 4, 2) := by decide +kernel
theorem dX3_sumOfLeaves_42 : decode cX3_sumOfLeaves 42 = .ok (.iload 6, 2) := by decide +kernel
theorem dX3_sumOfLeaves_44 : decode cX3_sumOfLeaves 44 = .ok (.iadd, 1) := by decide +kernel
theorem dX3_sumOfLeaves_45 : decode cX3_sumOfLeaves 45 = .ok (.istore 4, 2) := by decide +kernel
theorem dX3_sumOfLeaves_47 : decode cX3_sumOfLeaves 47 = .ok (.goto 39, 3) := by decide +kernel
theorem dX3_sumOfLeaves_50 : decode cX3_sumOfLeaves 50 = .ok (.aload_n 1, 1) := by decide +kernel
theorem dX3_sumOfLeaves_51 : decode cX3_sumOfLeaves 51 = .ok (.getfield 85, 3) := by decide +kernel
theorem dX3_sumOfLeaves_54 : decode cX3_sumOfLeaves 54 = .ok (.iload 5, 2) := by decide +kernel
theorem dX3_sumOfLeaves_56 : decode cX3_sumOfLeaves 56 = .ok (.iaload, 1) := by decide +kernel
theorem dX3_sumOfLeaves_57 : decode cX3_sumOfLeaves 57 = .ok (.iconst 1, 1) := by decide +kernel
theorem dX3_sumOfLeaves_58 : decode cX3_sumOfLeaves 58 = .ok (.if_icmp .ne 12, 3) := by decide +kernel
theorem dX3_sumOfLeaves_61 : decode cX3_sumOfLeaves 61 = .ok (.iload 4, 2) := by decide +kernel
theorem dX3_sumOfLeaves_63 : decode cX3_sumOfLeaves 63 = .ok (.iload_n 3, 1) := by decide +kernel
theorem dX3_sumOfLeaves_64 : decode cX3_sumOfLeaves 64 = .ok (.iadd, 1) := by decide +kernel
theorem dX3_sumOfLeaves_65 : decode cX3_sumOfLeaves 65 = .ok (.istore 4, 2) := by decide +kernel
theorem dX3_sumOfLeaves_67 : decode cX3_sumOfLeaves 67 = .ok (.goto 19, 3) := by decide +kernel
theorem dX3_sumOfLeaves_70 : decode cX3_sumOfLeaves 70 = .ok (.iload 4, 2) := by decide +kernel
theorem dX3_sumOfLeaves_72 : decode cX3_sumOfLeaves 72 = .ok (.aload_n 0, 1) := by decide +kernel
theorem dX3_sumOfLeaves_73 : decode cX3_sumOfLeaves 73 = .ok (.getfield 9, 3) := by decide +kernel
theorem dX3_sumOfLeaves_76 : decode cX3_sumOfLeaves 76 = .ok (.iload 6, 2) := by decide +kernel
theorem dX3_sumOfLeaves_78 : decode cX3_sumOfLeaves 78 = .ok (.iload_n 3, 1) := by decide +kernel
theorem dX3_sumOfLeaves_79 : decode cX3_sumOfLeaves 79 = .ok (.invokestatic 57, 3) := by decide +kernel
theorem dX3_sumOfLeaves_82 : decode cX3_sumOfLeaves 82 = .ok (.iaload, 1) := by decide +kernel
theorem dX3_sumOfLeaves_83 : decode cX3_sumOfLeaves 83 = .ok (.iadd, 1) := by decide +kernel
theorem dX3_sumOfLeaves_84 : decode cX3_sumOfLeaves 84 = .ok (.istore 4, 2) := by decide +kernel
theorem dX3_sumOfLeaves_86 : decode cX3_sumOfLeaves 86 = .ok (.iinc 5 1, 3) := by decide +kernel
theorem dX3_sumOfLeaves_89 : decode cX3_sumOfLeaves 89 = .ok (.goto (-79), 3) := by decide +kernel
theorem dX3_sumOfLeaves_92 : decode cX3_sumOfLeaves 92 = .ok (.iload 4, 2) := by decide +kernel
theorem dX3_sumOfLeaves_94 : decode cX3_sumOfLeaves 94 = .ok (.ireturn, 1) := by decide +kernel
theorem dX4_init_0 : decode cX4_init 0 = .ok (.aload_n 0, 1) := by decide +kernel
theorem dX4_init_1 : decode cX4_init 1 = .ok (.invokespecial 3, 3) := by decide +kernel
theorem dX4_init_4 : decode cX4_init 4 = .ok (.aload_n 0, 1) := by decide +kernel
theorem dX4_init_5 : decode cX4_init 5 = .ok (.bipush 16, 2) := by decide +kernel
theorem dX4_init_7 : decode cX4_init 7 = .ok (.newarray .int, 2) := by decide +kernel
theorem dX4_init_9 : decode cX4_init 9 = .ok (.putfield 9, 3) := by decide +kernel
theorem dX4_init_12 : decode cX4_init 12 = .ok (.aload_n 0, 1) := by decide +kernel
theorem dX4_init_13 : decode cX4_init 13 = .ok (.bipush 16, 2) := by decide +kernel
theorem dX4_init_15 : decode cX4_init 15 = .ok (.newarray .int, 2) := by decide +kernel
theorem dX4_init_17 : decode cX4_init 17 = .ok (.putfield 15, 3) := by decide +kernel
theorem dX4_init_20 : decode cX4_init 20 = .ok (.aload_n 0, 1) := by decide +kernel
theorem dX4_init_21 : decode cX4_init 21 = .ok (.iconst 0, 1) := by decide +kernel
theorem dX4_init_22 : decode cX4_init 22 = .ok (.putfield 18, 3) := by decide +kernel
theorem dX4_init_25 : decode cX4_init 25 = .ok (.return_, 1) := by decide +kernel
theorem dX4_append_0 : decode cX4_append 0 = .ok (.aload_n 0, 1) := by decide +kernel
theorem dX4_append_1 : decode cX4_append 1 = .ok (.getfield 18, 3) := by decide +kernel
theorem dX4_append_4 : decode cX4_append 4 = .ok (.bipush 16, 2) := by decide +kernel
theorem dX4_append_6 : decode cX4_append 6 = .ok (.if_icmp .ge 33, 3) := by decide +kernel
theorem dX4_append_9 : decode cX4_append 9 = .ok (.aload_n 0, 1) := by decide +kernel
theorem dX4_append_10 : decode cX4_append 10 = .ok (.getfield 9, 3) := by decide +kernel
theorem dX4_append_13 : decode cX4_append 13 = .ok (.aload_n 0, 1) := by decide +kernel
theorem dX4_append_14 : decode cX4_append 14 = .ok (.getfield 18, 3) := by decide +kernel
theorem dX4_append_17 : decode cX4_append 17 = .ok (.iload_n 1, 1) := by decide +kernel
theorem dX4_append_18 : decode cX4_append 18 = .ok (.iastore, 1) := by decide +kernel
theorem dX4_append_19 : decode cX4_append 19 = .ok (.aload_n 0, 1) := by decide +kernel
theorem dX4_append_20 : decode cX4_append 20 = .ok (.getfield 15, 3) := by decide +kernel
theorem dX4_append_23 : decode cX4_append 23 = .ok (.aload_n 0, 1) := by decide +kernel
theorem dX4_append_24 : decode cX4_append 24 = .ok (.getfield 18, 3) := by decide +kernel
theorem dX4_append_27 : decode cX4_append 27 = .ok (.iload_n 2, 1) := by decide +kernel
theorem dX4_append_28 : decode cX4_append 28 = .ok (.iastore, 1) := by decide +kernel
theorem dX4_append_29 : decode cX4_append 29 = .ok (.aload_n 0, 1) := by decide +kernel
theorem dX4_append_30 : decode cX4_append 30 = .ok (.dup, 1) := by decide +kernel
theorem dX4_append_31 : decode cX4_append 31 = .ok (.getfield 18, 3) := by decide +kernel
theorem dX4_append_34 : decode cX4_append 34 = .ok (.iconst 1, 1) := by decide +kernel
theorem dX4_append_35 : decode cX4_append 35 = .ok (.iadd, 1) := by decide +kernel
theorem dX4_append_36 : decode cX4_append 36 = .ok (.putfield 18, 3) := by decide +kernel
theorem dX4_append_39 : decode cX4_append 39 = .ok (.return_, 1) := by decide +kernel
theorem dX4_remove_0 : decode cX4_remove 0 = .ok (.iload_n 1, 1) := by decide +kernel
theorem dX4_remove_1 : decode cX4_remove 1 = .ok (.istore_n 2, 1) := by decide +kernel
theorem dX4_remove_2 : decode cX4_remove 2 = .ok (.iload_n 2, 1) := by decide +kernel
theorem dX4_remove_3 : decode cX4_remove 3 = .ok (.aload_n 0, 1) := by decide +kernel
theorem dX4_remove_4 : decode cX4_remove 4 = .ok (.getfield 18, 3) := by decide +kernel
theorem dX4_remove_7 : decode cX4_remove 7 = .ok (.iconst 1, 1) := by decide +kernel
theorem dX4_remove_8 : decode cX4_remove 8 = .ok (.isub, 1) := by decide +kernel
theorem dX4_remove_9 : decode cX4_remove 9 = .ok (.if_icmp .ge 37, 3) := by decide +kernel
theorem dX4_remove_12 : decode cX4_remove 12 = .ok (.aload_n 0, 1) := by decide +kernel
theorem dX4_remove_13 : decode cX4_remove 13 = .ok (.getfield 9, 3) := by decide +kernel
theorem dX4_remove_16 : decode cX4_remove 16 = .ok (.iload_n 2, 1) := by decide +kernel
theorem dX4_remove_17 : decode cX4_remove 17 = .ok (.aload_n 0, 1) := by decide +kernel
theorem dX4_remove_18 : decode cX4_remove 18 = .ok (.getfield 9, 3) := by decide +kernel
theorem dX4_remove_21 : decode cX4_remove 21 = .ok (.iload_n 2, 1) := by decide +kernel
theorem dX4_remove_22 : decode cX4_remove 22 = .ok (.iconst 1, 1) := by decide +kernel
theorem dX4_remove_23 : decode cX4_remove 23 = .ok (.iadd, 1) := by decide +kernel
theorem dX4_remove_24 : decode cX4_remove 24 = .ok (.iaload, 1) := by decide +kernel
theorem dX4_remove_25 : decode cX4_remove 25 = .ok (.iastore, 1) := by decide +kernel
theorem dX4_remove_26 : decode cX4_remove 26 = .ok (.aload_n 0, 1) := by decide +kernel
theorem dX4_remove_27 : decode cX4_remove 27 = .ok (.getfield 15, 3) := by decide +kernel
theorem dX4_remove_30 : decode cX4_remove 30 = .ok (.iload_n 2, 1) := by decide +kernel
theorem dX4_remove_31 : decode cX4_remove 31 = .ok (.aload_n 0, 1) := by decide +kernel
theorem dX4_remove_32 : decode cX4_remove 32 = .ok (.getfield 15, 3) := by decide +kernel
theorem dX4_remove_35 : decode cX4_remove 35 = .ok (.iload_n 2, 1) := by decide +kernel
theorem dX4_remove_36 : decode cX4_remove 36 = .ok (.iconst 1, 1) := by decide +kernel
theorem dX4_remove_37 : decode cX4_remove 37 = .ok (.iadd, 1) := by decide +kernel
theorem dX4_remove_38 : decode cX4_remove 38 = .ok (.iaload, 1) := by decide +kernel
theorem dX4_remove_39 : decode cX4_remove 39 = .ok (.iastore, 1) := by decide +kernel
theorem dX4_remove_40 : decode cX4_remove 40 = .ok (.iinc 2 1, 3) := by decide +kernel
theorem dX4_remove_43 : decode cX4_remove 43 = .ok (.goto (-41), 3) := by decide +kernel
theorem dX4_remove_46 : decode cX4_remove 46 = .ok (.aload_n 0, 1) := by decide +kernel
theorem dX4_remove_47 : decode cX4_remove 47 = .ok (.dup, 1) := by decide +kernel
theorem dX4_remove_48 : decode cX4_remove 48 = .ok (.getfield 18, 3) := by decide +kernel
theorem dX4_remove_51 : decode cX4_remove 51 = .ok (.iconst 1, 1) := by decide +kernel
theorem dX4_remove_52 : decode cX4_remove 52 = .ok (.isub, 1) := by decide +kernel
theorem dX4_remove_53 : decode cX4_remove 53 = .ok (.putfield 18, 3) := by decide +kernel
theorem dX4_remove_56 : decode cX4_remove 56 = .ok (.return_, 1) := by decide +kernel
theorem dX4_exchangeWithNext_0 : decode cX4_exchangeWithNext 0 = .ok (.aload_n 0, 1) := by decide +kernel
theorem dX4_exchangeWithNext_1 : decode cX4_exchangeWithNext 1 = .ok (.getfield 9, 3) := by decide +kernel
theorem dX4_exchangeWithNext_4 : decode cX4_exchangeWithNext 4 = .ok (.iload_n 1, 1) := by decide +kernel
theorem dX4_exchangeWithNext_5 : decode cX4_exchangeWithNext 5 = .ok (.iaload, 1) := by decide +kernel
theorem dX4_exchangeWithNext_6 : decode cX4_exchangeWithNext 6 = .ok (.istore_n 2, 1) := by decide +kernel
theorem dX4_exchangeWithNext_7 : decode cX4_exchangeWithNext 7 = .ok (.aload_n 0, 1) := by decide +kernel
theorem dX4_exchangeWithNext_8 : decode cX4_exchangeWithNext 8 = .ok (.getfield 15, 3) := by decide +kernel
theorem dX4_exchangeWithNext_11 : decode cX4_exchangeWithNext 11 = .ok (.iload_n 1, 1) := by decide +kernel
theorem dX4_exchangeWithNext_12 : decode cX4_exchangeWithNext 12 = .ok (.iaload, 1) := by decide +kernel
theorem dX4_exchangeWithNext_13 : decode cX4_exchangeWithNext 13 = .ok (.istore_n 3, 1) := by decide +kernel
theorem dX4_exchangeWithNext_14 : decode cX4_exchangeWithNext 14 = .ok (.aload_n 0, 1) := by decide +kernel
theorem dX4_exchangeWithNext_15 : decode cX4_exchangeWithNext 15 = .ok (.getfield 9, 3) := by decide +kernel
theorem dX4_exchangeWithNext_18 : decode cX4_exchangeWithNext 18 = .ok (.iload_n 1, 1) := by decide +kernel
theorem dX4_exchangeWithNext_19 : decode cX4_exchangeWithNext 19 = .ok (.aload_n 0, 1) := by decide +kernel
theorem dX4_exchangeWithNext_20 : decode cX4_exchangeWithNext 20 = .ok (.getfield 9, 3) := by decide +kernel
theorem dX4_exchangeWithNext_23 : decode cX4_exchangeWithNext 23 = .ok (.iload_n 1, 1) := by decide +kernel
theorem dX4_exchangeWithNext_24 : decode cX4_exchangeWithNext 24 = .ok (.iconst 1, 1) := by decide +kernel
theorem dX4_exchangeWithNext_25 : decode cX4_exchangeWithNext 25 = .ok (.iadd, 1) := by decide +kernel
theorem dX4_exchangeWithNext_26 : decode cX4_exchangeWithNext 26 = .ok (.iaload, 1) := by decide +kernel
theorem dX4_exchangeWithNext_27 : decode cX4_exchangeWithNext 27 = .ok (.iastore, 1) := by decide +kernel
theorem dX4_exchangeWithNext_28 : decode cX4_exchangeWithNext 28 = .ok (.aload_n 0, 1) := by decide +kernel
theorem dX4_exchangeWithNext_29 : decode cX4_exchangeWithNext 29 = .ok (.getfield 15, 3) := by decide +kernel
theorem dX4_exchangeWithNext_32 : decode cX4_exchangeWithNext 32 = .ok (.iload_n 1, 1) := by decide +kernel
theorem dX4_exchangeWithNext_33 : decode cX4_exchangeWithNext 33 = .ok (.aload_n 0, 1) := by decide +kernel
theorem dX4_exchangeWithNext_34 : decode cX4_exchangeWithNext 34 = .ok (.getfield 15, 3) := by decide +kernel
theorem dX4_exchangeWithNext_37 : decode cX4_exchangeWithNext 37 = .ok (.iload_n 1, 1) := by decide +kernel
theorem dX4_exchangeWithNext_38 : decode cX4_exchangeWithNext 38 = .ok (.iconst 1, 1) := by decide +kernel
theorem dX4_exchangeWithNext_39 : decode cX4_exchangeWithNext 39 = .ok (.iadd, 1) := by decide +kernel
