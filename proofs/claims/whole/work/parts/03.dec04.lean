theorem dX6_nearestSingle_19 : decode cX6_nearestSingle 19 = .ok (.iload_n 0, 1) := by decide +kernel
theorem dX6_nearestSingle_20 : decode cX6_nearestSingle 20 = .ok (.iload_n 1, 1) := by decide +kernel
theorem dX6_nearestSingle_21 : decode cX6_nearestSingle 21 = .ok (.iload_n 2, 1) := by decide +kernel
theorem dX6_nearestSingle_22 : decode cX6_nearestSingle 22 = .ok (.iconst 1, 1) := by decide +kernel
theorem dX6_nearestSingle_23 : decode cX6_nearestSingle 23 = .ok (.iadd, 1) := by decide +kernel
theorem dX6_nearestSingle_24 : decode cX6_nearestSingle 24 = .ok (.ishl, 1) := by decide +kernel
theorem dX6_nearestSingle_25 : decode cX6_nearestSingle 25 = .ok (.if_icmp .lt 9, 3) := by decide +kernel
theorem dX6_nearestSingle_28 : decode cX6_nearestSingle 28 = .ok (.iinc 2 1, 3) := by decide +kernel
theorem dX6_nearestSingle_31 : decode cX6_nearestSingle 31 = .ok (.goto (-17), 3) := by decide +kernel
theorem dX6_nearestSingle_34 : decode cX6_nearestSingle 34 = .ok (.iload_n 0, 1) := by decide +kernel
theorem dX6_nearestSingle_35 : decode cX6_nearestSingle 35 = .ok (.bipush 23, 2) := by decide +kernel
theorem dX6_nearestSingle_37 : decode cX6_nearestSingle 37 = .ok (.iload_n 2, 1) := by decide +kernel
theorem dX6_nearestSingle_38 : decode cX6_nearestSingle 38 = .ok (.isub, 1) := by decide +kernel
theorem dX6_nearestSingle_39 : decode cX6_nearestSingle 39 = .ok (.ishl, 1) := by decide +kernel
theorem dX6_nearestSingle_40 : decode cX6_nearestSingle 40 = .ok (.istore_n 3, 1) := by decide +kernel
theorem dX6_nearestSingle_41 : decode cX6_nearestSingle 41 = .ok (.iload_n 3, 1) := by decide +kernel
theorem dX6_nearestSingle_42 : decode cX6_nearestSingle 42 = .ok (.iload_n 1, 1) := by decide +kernel
theorem dX6_nearestSingle_43 : decode cX6_nearestSingle 43 = .ok (.idiv, 1) := by decide +kernel
theorem dX6_nearestSingle_44 : decode cX6_nearestSingle 44 = .ok (.istore 4, 2) := by decide +kernel
theorem dX6_nearestSingle_46 : decode cX6_nearestSingle 46 = .ok (.iconst 2, 1) := by decide +kernel
theorem dX6_nearestSingle_47 : decode cX6_nearestSingle 47 = .ok (.iload_n 3, 1) := by decide +kernel
theorem dX6_nearestSingle_48 : decode cX6_nearestSingle 48 = .ok (.iload_n 1, 1) := by decide +kernel
theorem dX6_nearestSingle_49 : decode cX6_nearestSingle 49 = .ok (.irem, 1) := by decide +kernel
theorem dX6_nearestSingle_50 : decode cX6_nearestSingle 50 = .ok (.imul, 1) := by decide +kernel
theorem dX6_nearestSingle_51 : decode cX6_nearestSingle 51 = .ok (.istore 5, 2) := by decide +kernel
theorem dX6_nearestSingle_53 : decode cX6_nearestSingle 53 = .ok (.iload 5, 2) := by decide +kernel
theorem dX6_nearestSingle_55 : decode cX6_nearestSingle 55 = .ok (.iload_n 1, 1) := by decide +kernel
theorem dX6_nearestSingle_56 : decode cX6_nearestSingle 56 = .ok (.if_icmp .gt 17, 3) := by decide +kernel
theorem dX6_nearestSingle_59 : decode cX6_nearestSingle 59 = .ok (.iload 5, 2) := by decide +kernel
theorem dX6_nearestSingle_61 : decode cX6_nearestSingle 61 = .ok (.iload_n 1, 1) := by decide +kernel
theorem dX6_nearestSingle_62 : decode cX6_nearestSingle 62 = .ok (.if_icmp .ne 14, 3) := by decide +kernel
theorem dX6_nearestSingle_65 : decode cX6_nearestSingle 65 = .ok (.iload 4, 2) := by decide +kernel
theorem dX6_nearestSingle_67 : decode cX6_nearestSingle 67 = .ok (.iconst 1, 1) := by decide +kernel
theorem dX6_nearestSingle_68 : decode cX6_nearestSingle 68 = .ok (.iand, 1) := by decide +kernel
theorem dX6_nearestSingle_69 : decode cX6_nearestSingle 69 = .ok (.iconst 1, 1) := by decide +kernel
theorem dX6_nearestSingle_70 : decode cX6_nearestSingle 70 = .ok (.if_icmp .ne 6, 3) := by decide +kernel
theorem dX6_nearestSingle_73 : decode cX6_nearestSingle 73 = .ok (.iinc 4 1, 3) := by decide +kernel
theorem dX6_nearestSingle_76 : decode cX6_nearestSingle 76 = .ok (.bipush 126, 2) := by decide +kernel
theorem dX6_nearestSingle_78 : decode cX6_nearestSingle 78 = .ok (.iload_n 2, 1) := by decide +kernel
theorem dX6_nearestSingle_79 : decode cX6_nearestSingle 79 = .ok (.iadd, 1) := by decide +kernel
theorem dX6_nearestSingle_80 : decode cX6_nearestSingle 80 = .ok (.bipush 23, 2) := by decide +kernel
theorem dX6_nearestSingle_82 : decode cX6_nearestSingle 82 = .ok (.ishl, 1) := by decide +kernel
theorem dX6_nearestSingle_83 : decode cX6_nearestSingle 83 = .ok (.iload 4, 2) := by decide +kernel
theorem dX6_nearestSingle_85 : decode cX6_nearestSingle 85 = .ok (.iadd, 1) := by decide +kernel
theorem dX6_nearestSingle_86 : decode cX6_nearestSingle 86 = .ok (.ireturn, 1) := by decide +kernel
theorem dX7_init_0 : decode cX7_init 0 = .ok (.aload_n 0, 1) := by decide +kernel
theorem dX7_init_1 : decode cX7_init 1 = .ok (.invokespecial 1, 3) := by decide +kernel
theorem dX7_init_4 : decode cX7_init 4 = .ok (.aload_n 0, 1) := by decide +kernel
theorem dX7_init_5 : decode cX7_init 5 = .ok (.sipush 180, 3) := by decide +kernel
theorem dX7_init_8 : decode cX7_init 8 = .ok (.newarray .int, 2) := by decide +kernel
theorem dX7_init_10 : decode cX7_init 10 = .ok (.putfield 7, 3) := by decide +kernel
theorem dX7_init_13 : decode cX7_init 13 = .ok (.aload_n 0, 1) := by decide +kernel
theorem dX7_init_14 : decode cX7_init 14 = .ok (.bipush 6, 2) := by decide +kernel
theorem dX7_init_16 : decode cX7_init 16 = .ok (.newarray .int, 2) := by decide +kernel
theorem dX7_init_18 : decode cX7_init 18 = .ok (.putfield 13, 3) := by decide +kernel
theorem dX7_init_21 : decode cX7_init 21 = .ok (.aload_n 0, 1) := by decide +kernel
theorem dX7_init_22 : decode cX7_init 22 = .ok (.bipush 18, 2) := by decide +kernel
theorem dX7_init_24 : decode cX7_init 24 = .ok (.newarray .int, 2) := by decide +kernel
theorem dX7_init_26 : decode cX7_init 26 = .ok (.putfield 16, 3) := by decide +kernel
theorem dX7_init_29 : decode cX7_init 29 = .ok (.aload_n 0, 1) := by decide +kernel
theorem dX7_init_30 : decode cX7_init 30 = .ok (.bipush 16, 2) := by decide +kernel
theorem dX7_init_32 : decode cX7_init 32 = .ok (.newarray .int, 2) := by decide +kernel
theorem dX7_init_34 : decode cX7_init 34 = .ok (.putfield 19, 3) := by decide +kernel
theorem dX7_init_37 : decode cX7_init 37 = .ok (.aload_n 0, 1) := by decide +kernel
theorem dX7_init_38 : decode cX7_init 38 = .ok (.bipush 16, 2) := by decide +kernel
theorem dX7_init_40 : decode cX7_init 40 = .ok (.newarray .int, 2) := by decide +kernel
theorem dX7_init_42 : decode cX7_init 42 = .ok (.putfield 22, 3) := by decide +kernel
theorem dX7_init_45 : decode cX7_init 45 = .ok (.aload_n 0, 1) := by decide +kernel
theorem dX7_init_46 : decode cX7_init 46 = .ok (.bipush 72, 2) := by decide +kernel
theorem dX7_init_48 : decode cX7_init 48 = .ok (.newarray .int, 2) := by decide +kernel
theorem dX7_init_50 : decode cX7_init 50 = .ok (.putfield 25, 3) := by decide +kernel
theorem dX7_init_53 : decode cX7_init 53 = .ok (.aload_n 0, 1) := by decide +kernel
theorem dX7_init_54 : decode cX7_init 54 = .ok (.bipush 72, 2) := by decide +kernel
theorem dX7_init_56 : decode cX7_init 56 = .ok (.newarray .int, 2) := by decide +kernel
theorem dX7_init_58 : decode cX7_init 58 = .ok (.putfield 28, 3) := by decide +kernel
theorem dX7_init_61 : decode cX7_init 61 = .ok (.aload_n 0, 1) := by decide +kernel
theorem dX7_init_62 : decode cX7_init 62 = .ok (.bipush 72, 2) := by decide +kernel
theorem dX7_init_64 : decode cX7_init 64 = .ok (.newarray .int, 2) := by decide +kernel
theorem dX7_init_66 : decode cX7_init 66 = .ok (.putfield 31, 3) := by decide +kernel
theorem dX7_init_69 : decode cX7_init 69 = .ok (.aload_n 0, 1) := by decide +kernel
theorem dX7_init_70 : decode cX7_init 70 = .ok (.bipush 72, 2) := by decide +kernel
theorem dX7_init_72 : decode cX7_init 72 = .ok (.newarray .int, 2) := by decide +kernel
theorem dX7_init_74 : decode cX7_init 74 = .ok (.putfield 34, 3) := by decide +kernel
theorem dX7_init_77 : decode cX7_init 77 = .ok (.aload_n 0, 1) := by decide +kernel
theorem dX7_init_78 : decode cX7_init 78 = .ok (.bipush 6, 2) := by decide +kernel
theorem dX7_init_80 : decode cX7_init 80 = .ok (.newarray .int, 2) := by decide +kernel
theorem dX7_init_82 : decode cX7_init 82 = .ok (.putfield 37, 3) := by decide +kernel
theorem dX7_init_85 : decode cX7_init 85 = .ok (.aload_n 0, 1) := by decide +kernel
theorem dX7_init_86 : decode cX7_init 86 = .ok (.bipush 18, 2) := by decide +kernel
theorem dX7_init_88 : decode cX7_init 88 = .ok (.newarray .int, 2) := by decide +kernel
theorem dX7_init_90 : decode cX7_init 90 = .ok (.putfield 40, 3) := by decide +kernel
theorem dX7_init_93 : decode cX7_init 93 = .ok (.aload_n 0, 1) := by decide +kernel
theorem dX7_init_94 : decode cX7_init 94 = .ok (.bipush 16, 2) := by decide +kernel
theorem dX7_init_96 : decode cX7_init 96 = .ok (.newarray .int, 2) := by decide +kernel
theorem dX7_init_98 : decode cX7_init 98 = .ok (.putfield 43, 3) := by decide +kernel
theorem dX7_init_101 : decode cX7_init 101 = .ok (.aload_n 0, 1) := by decide +kernel
theorem dX7_init_102 : decode cX7_init 102 = .ok (.bipush 16, 2) := by decide +kernel
theorem dX7_init_104 : decode cX7_init 104 = .ok (.newarray .int, 2) := by decide +kernel
theorem dX7_init_106 : decode cX7_init 106 = .ok (.putfield 46, 3) := by decide +kernel
theorem dX7_init_109 : decode cX7_init 109 = .ok (.aload_n 0, 1) := by decide +kernel
theorem dX7_init_110 : decode cX7_init 110 = .ok (.bipush 16, 2) := by decide +kernel
theorem dX7_init_112 : decode cX7_init 112 = .ok (.newarray .int, 2) := by decide +kernel
theorem dX7_init_114 : decode cX7_init 114 = .ok (.putfield 49, 3) := by decide +kernel
theorem dX7_init_117 : decode cX7_init 117 = .ok (.aload_n 0, 1) := by decide +kernel
theorem dX7_init_118 : decode cX7_init 118 = .ok (.bipush 16, 2) := by decide +kernel
theorem dX7_init_120 : decode cX7_init 120 = .ok (.newarray .int, 2) := by decide +kernel
theorem dX7_init_122 : decode cX7_init 122 = .ok (.putfield 52, 3) := by decide +kernel
theorem dX7_init_125 : decode cX7_init 125 = .ok (.aload_n 0, 1) := by decide +kernel
theorem dX7_init_126 : decode cX7_init 126 = .ok (.bipush 16, 2) := by decide +kernel
theorem dX7_init_128 : decode cX7_init 128 = .ok (.newarray .int, 2) := by decide +kernel
theorem dX7_init_130 : decode cX7_init 130 = .ok (.putfield 55, 3) := by decide +kernel
theorem dX7_init_133 : decode cX7_init 133 = .ok (.aload_n 0, 1) := by decide +kernel
theorem dX7_init_134 : decode cX7_init 134 = .ok (.bipush 20, 2) := by decide +kernel
theorem dX7_init_136 : decode cX7_init 136 = .ok (.newarray .int, 2) := by decide +kernel
theorem dX7_init_138 : decode cX7_init 138 = .ok (.putfield 58, 3) := by decide +kernel
theorem dX7_init_141 : decode cX7_init 141 = .ok (.aload_n 0, 1) := by decide +kernel
theorem dX7_init_142 : decode cX7_init 142 = .ok (.bipush 20, 2) := by decide +kernel
theorem dX7_init_144 : decode cX7_init 144 = .ok (.newarray .int, 2) := by decide +kernel
theorem dX7_init_146 : decode cX7_init 146 = .ok (.putfield 61, 3) := by decide +kernel
theorem dX7_init_149 : decode cX7_init 149 = .ok (.aload_n 0, 1) := by decide +kernel
theorem dX7_init_150 : decode cX7_init 150 = .ok (.bipush 20, 2) := by decide +kernel
theorem dX7_init_152 : decode cX7_init 152 = .ok (.newarray .int, 2) := by decide +kernel
theorem dX7_init_154 : decode cX7_init 154 = .ok (.putfield 64, 3) := by decide +kernel
theorem dX7_init_157 : decode cX7_init 157 = .ok (.aload_n 0, 1) := by decide +kernel
theorem dX7_init_158 : decode cX7_init 158 = .ok (.bipush 16, 2) := by decide +kernel
theorem dX7_init_160 : decode cX7_init 160 = .ok (.newarray .int, 2) := by decide +kernel
theorem dX7_init_162 : decode cX7_init 162 = .ok (.putfield 67, 3) := by decide +kernel
theorem dX7_init_165 : decode cX7_init 165 = .ok (.aload_n 0, 1) := by decide +kernel
theorem dX7_init_166 : decode cX7_init 166 = .ok (.bipush 102, 2) := by decide +kernel
theorem dX7_init_168 : decode cX7_init 168 = .ok (.newarray .int, 2) := by decide +kernel
theorem dX7_init_170 : decode cX7_init 170 = .ok (.putfield 70, 3) := by decide +kernel
theorem dX7_init_173 : decode cX7_init 173 = .ok (.aload_n 0, 1) := by decide +kernel
theorem dX7_init_174 : decode cX7_init 174 = .ok (.iconst 2, 1) := by decide +kernel
theorem dX7_init_175 : decode cX7_init 175 = .ok (.newarray .boolean, 2) := by decide +kernel
theorem dX7_init_177 : decode cX7_init 177 = .ok (.putfield 73, 3) := by decide +kernel
theorem dX7_init_180 : decode cX7_init 180 = .ok (.return_, 1) := by decide +kernel
theorem dX7_in_0 : decode cX7_in 0 = .ok (.lload_n 0, 1) := by decide +kernel
theorem dX7_in_1 : decode cX7_in 1 = .ok (.lload_n 2, 1) := by decide +kernel
theorem dX7_in_2 : decode cX7_in 2 = .ok (.lcmp, 1) := by decide +kernel
theorem dX7_in_3 : decode cX7_in 3 = .ok (.ifCond .lt 14, 3) := by decide +kernel
theorem dX7_in_6 : decode cX7_in 6 = .ok (.lload_n 0, 1) := by decide +kernel
theorem dX7_in_7 : decode cX7_in 7 = .ok (.lload 4, 2) := by decide +kernel
theorem dX7_in_9 : decode cX7_in 9 = .ok (.lcmp, 1) := by decide +kernel
theorem dX7_in_10 : decode cX7_in 10 = .ok (.ifCond .gt 7, 3) := by decide +kernel
theorem dX7_in_13 : decode cX7_in 13 = .ok (.iconst 1, 1) := by decide +kernel
theorem dX7_in_14 : decode cX7_in 14 = .ok (.goto 4, 3) := by decide +kernel
theorem dX7_in_17 : decode cX7_in 17 = .ok (.iconst 0, 1) := by decide +kernel
theorem dX7_in_18 : decode cX7_in 18 = .ok (.ireturn, 1) := by decide +kernel
theorem dX7_isRoutine_0 : decode cX7_isRoutine 0 = .ok (.iload_n 0, 1) := by decide +kernel
theorem dX7_isRoutine_1 : decode cX7_isRoutine 1 = .ok (.i2l, 1) := by decide +kernel
theorem dX7_isRoutine_2 : decode cX7_isRoutine 2 = .ok (.lconst 0, 1) := by decide +kernel
theorem dX7_isRoutine_3 : decode cX7_isRoutine 3 = .ok (.ldc2_w 77, 3) := by decide +kernel
theorem dX7_isRoutine_6 : decode cX7_isRoutine 6 = .ok (.invokestatic 79, 3) := by decide +kernel
theorem dX7_isRoutine_9 : decode cX7_isRoutine 9 = .ok (.ireturn, 1) := by decide +kernel
theorem dX7_isGiven_0 : decode cX7_isGiven 0 = .ok (.iload_n 0, 1) := by decide +kernel
theorem dX7_isGiven_1 : decode cX7_isGiven 1 = .ok (.i2l, 1) := by decide +kernel
theorem dX7_isGiven_2 : decode cX7_isGiven 2 = .ok (.lconst 0, 1) := by decide +kernel
theorem dX7_isGiven_3 : decode cX7_isGiven 3 = .ok (.ldc2_w 83, 3) := by decide +kernel
theorem dX7_isGiven_6 : decode cX7_isGiven 6 = .ok (.invokestatic 79, 3) := by decide +kernel
theorem dX7_isGiven_9 : decode cX7_isGiven 9 = .ok (.ireturn, 1) := by decide +kernel
theorem dX7_isPlace_0 : decode cX7_isPlace 0 = .ok (.iload_n 0, 1) := by decide +kernel
theorem dX7_isPlace_1 : decode cX7_isPlace 1 = .ok (.i2l, 1) := by decide +kernel
theorem dX7_isPlace_2 : decode cX7_isPlace 2 = .ok (.lconst 0, 1) := by decide +kernel
theorem dX7_isPlace_3 : decode cX7_isPlace 3 = .ok (.ldc2_w 85, 3) := by decide +kernel
theorem dX7_isPlace_6 : decode cX7_isPlace 6 = .ok (.invokestatic 79, 3) := by decide +kernel
theorem dX7_isPlace_9 : decode cX7_isPlace 9 = .ok (.ireturn, 1) := by decide +kernel
theorem dX7_say_0 : decode cX7_say 0 = .ok (.iload_n 1, 1) := by decide +kernel
theorem dX7_say_1 : decode cX7_say 1 = .ok (.invokestatic 87, 3) := by decide +kernel
theorem dX7_say_4 : decode cX7_say 4 = .ok (.ifCond .ne 5, 3) := by decide +kernel
theorem dX7_say_7 : decode cX7_say 7 = .ok (.iconst (-1), 1) := by decide +kernel
theorem dX7_say_8 : decode cX7_say 8 = .ok (.ireturn, 1) := by decide +kernel
theorem dX7_say_9 : decode cX7_say 9 = .ok (.iload_n 2, 1) := by decide +kernel
theorem dX7_say_10 : decode cX7_say 10 = .ok (.i2l, 1) := by decide +kernel
theorem dX7_say_11 : decode cX7_say 11 = .ok (.ldc2_w 91, 3) := by decide +kernel
theorem dX7_say_14 : decode cX7_say 14 = .ok (.ldc2_w 93, 3) := by decide +kernel
theorem dX7_say_17 : decode cX7_say 17 = .ok (.invokestatic 79, 3) := by decide +kernel
theorem dX7_say_20 : decode cX7_say 20 = .ok (.ifCond .ne 6, 3) := by decide +kernel
theorem dX7_say_23 : decode cX7_say 23 = .ok (.bipush (-2), 2) := by decide +kernel
theorem dX7_say_25 : decode cX7_say 25 = .ok (.ireturn, 1) := by decide +kernel
theorem dX7_say_26 : decode cX7_say 26 = .ok (.aload_n 0, 1) := by decide +kernel
theorem dX7_say_27 : decode cX7_say 27 = .ok (.getfield 13, 3) := by decide +kernel
theorem dX7_say_30 : decode cX7_say 30 = .ok (.iload_n 1, 1) := by decide +kernel
theorem dX7_say_31 : decode cX7_say 31 = .ok (.iaload, 1) := by decide +kernel
theorem dX7_say_32 : decode cX7_say 32 = .ok (.bipush 30, 2) := by decide +kernel
theorem dX7_say_34 : decode cX7_say 34 = .ok (.if_icmp .ne 6, 3) := by decide +kernel
theorem dX7_say_37 : decode cX7_say 37 = .ok (.bipush (-4), 2) := by decide +kernel
theorem dX7_say_39 : decode cX7_say 39 = .ok (.ireturn, 1) := by decide +kernel
theorem dX7_say_40 : decode cX7_say 40 = .ok (.aload_n 0, 1) := by decide +kernel
theorem dX7_say_41 : decode cX7_say 41 = .ok (.getfield 7, 3) := by decide +kernel
theorem dX7_say_44 : decode cX7_say 44 = .ok (.bipush 30, 2) := by decide +kernel
theorem dX7_say_46 : decode cX7_say 46 = .ok (.iload_n 1, 1) := by decide +kernel
theorem dX7_say_47 : decode cX7_say 47 = .ok (.imul, 1) := by decide +kernel
theorem dX7_say_48 : decode cX7_say 48 = .ok (.aload_n 0, 1) := by decide +kernel
theorem dX7_say_49 : decode cX7_say 49 = .ok (.getfield 13, 3) := by decide +kernel
theorem dX7_say_52 : decode cX7_say 52 = .ok (.iload_n 1, 1) := by decide +kernel
theorem dX7_say_53 : decode cX7_say 53 = .ok (.iaload, 1) := by decide +kernel
theorem dX7_say_54 : decode cX7_say 54 = .ok (.iadd, 1) := by decide +kernel
theorem dX7_say_55 : decode cX7_say 55 = .ok (.iload_n 2, 1) := by decide +kernel
theorem dX7_say_56 : decode cX7_say 56 = .ok (.iastore, 1) := by decide +kernel
theorem dX7_say_57 : decode cX7_say 57 = .ok (.aload_n 0, 1) := by decide +kernel
theorem dX7_say_58 : decode cX7_say 58 = .ok (.getfield 13, 3) := by decide +kernel
theorem dX7_say_61 : decode cX7_say 61 = .ok (.iload_n 1, 1) := by decide +kernel
theorem dX7_say_62 : decode cX7_say 62 = .ok (.dup2, 1) := by decide +kernel
theorem dX7_say_63 : decode cX7_say 63 = .ok (.iaload, 1) := by decide +kernel
theorem dX7_say_64 : decode cX7_say 64 = .ok (.iconst 1, 1) := by decide +kernel
theorem dX7_say_65 : decode cX7_say 65 = .ok (.iadd, 1) := by decide +kernel
theorem dX7_say_66 : decode cX7_say 66 = .ok (.iastore, 1) := by decide +kernel
theorem dX7_say_67 : decode cX7_say 67 = .ok (.aload_n 0, 1) := by decide +kernel
theorem dX7_say_68 : decode cX7_say 68 = .ok (.getfield 13, 3) := by decide +kernel
theorem dX7_say_71 : decode cX7_say 71 = .ok (.iload_n 1, 1) := by decide +kernel
theorem dX7_say_72 : decode cX7_say 72 = .ok (.iaload, 1) := by decide +kernel
theorem dX7_say_73 : decode cX7_say 73 = .ok (.ireturn, 1) := by decide +kernel
theorem dX7_wipe_0 : decode cX7_wipe 0 = .ok (.iload_n 1, 1) := by decide +kernel
theorem dX7_wipe_1 : decode cX7_wipe 1 = .ok (.invokestatic 87, 3) := by decide +kernel
theorem dX7_wipe_4 : decode cX7_wipe 4 = .ok (.ifCond .ne 5, 3) := by decide +kernel
theorem dX7_wipe_7 : decode cX7_wipe 7 = .ok (.iconst (-1), 1) := by decide +kernel
theorem dX7_wipe_8 : decode cX7_wipe 8 = .ok (.ireturn, 1) := by decide +kernel
theorem dX7_wipe_9 : decode cX7_wipe 9 = .ok (.aload_n 0, 1) := by decide +kernel
theorem dX7_wipe_10 : decode cX7_wipe 10 = .ok (.getfield 13, 3) := by decide +kernel
theorem dX7_wipe_13 : decode cX7_wipe 13 = .ok (.iload_n 1, 1) := by decide +kernel
theorem dX7_wipe_14 : decode cX7_wipe 14 = .ok (.iaload, 1) := by decide +kernel
theorem dX7_wipe_15 : decode cX7_wipe 15 = .ok (.istore_n 2, 1) := by decide +kernel
theorem dX7_wipe_16 : decode cX7_wipe 16 = .ok (.aload_n 0, 1) := by decide +kernel
theorem dX7_wipe_17 : decode cX7_wipe 17 = .ok (.getfield 13, 3) := by decide +kernel
theorem dX7_wipe_20 : decode cX7_wipe 20 = .ok (.iload_n 1, 1) := by decide +kernel
theorem dX7_wipe_21 : decode cX7_wipe 21 = .ok (.iconst 0, 1) := by decide +kernel
theorem dX7_wipe_22 : decode cX7_wipe 22 = .ok (.iastore, 1) := by decide +kernel
theorem dX7_wipe_23 : decode cX7_wipe 23 = .ok (.iload_n 2, 1) := by decide +kernel
theorem dX7_wipe_24 : decode cX7_wipe 24 = .ok (.ireturn, 1) := by decide +kernel
theorem dX7_here_0 : decode cX7_here 0 = .ok (.aload_n 0, 1) := by decide +kernel
theorem dX7_here_1 : decode cX7_here 1 = .ok (.getfield 95, 3) := by decide +kernel
theorem dX7_here_4 : decode cX7_here 4 = .ok (.aload_n 0, 1) := by decide +kernel
theorem dX7_here_5 : decode cX7_here 5 = .ok (.getfield 13, 3) := by decide +kernel
theorem dX7_here_8 : decode cX7_here 8 = .ok (.aload_n 0, 1) := by decide +kernel
theorem dX7_here_9 : decode cX7_here 9 = .ok (.getfield 99, 3) := by decide +kernel
theorem dX7_here_12 : decode cX7_here 12 = .ok (.iaload, 1) := by decide +kernel
theorem dX7_here_13 : decode cX7_here 13 = .ok (.if_icmp .ge 23, 3) := by decide +kernel
theorem dX7_here_16 : decode cX7_here 16 = .ok (.aload_n 0, 1) := by decide +kernel
theorem dX7_here_17 : decode cX7_here 17 = .ok (.getfield 7, 3) := by decide +kernel
theorem dX7_here_20 : decode cX7_here 20 = .ok (.bipush 30, 2) := by decide +kernel
theorem dX7_here_22 : decode cX7_here 22 = .ok (.aload_n 0, 1) := by decide +kernel
theorem dX7_here_23 : decode cX7_here 23 = .ok (.getfield 99, 3) := by decide +kernel
theorem dX7_here_26 : decode cX7_here 26 = .ok (.imul, 1) := by decide +kernel
theorem dX7_here_27 : decode cX7_here 27 = .ok (.aload_n 0, 1) := by decide +kernel
theorem dX7_here_28 : decode cX7_here 28 = .ok (.getfield 95, 3) := by decide +kernel
theorem dX7_here_31 : decode cX7_here 31 = .ok (.iadd, 1) := by decide +kernel
theorem dX7_here_32 : decode cX7_here 32 = .ok (.iaload, 1) := by decide +kernel
theorem dX7_here_33 : decode cX7_here 33 = .ok (.goto 4, 3) := by decide +kernel
theorem dX7_here_36 : decode cX7_here 36 = .ok (.iconst 0, 1) := by decide +kernel
theorem dX7_here_37 : decode cX7_here 37 = .ok (.ireturn, 1) := by decide +kernel
theorem dX7_isFigure_0 : decode cX7_isFigure 0 = .ok (.iload_n 0, 1) := by decide +kernel
theorem dX7_isFigure_1 : decode cX7_isFigure 1 = .ok (.bipush 48, 2) := by decide +kernel
theorem dX7_isFigure_3 : decode cX7_isFigure 3 = .ok (.if_icmp .lt 13, 3) := by decide +kernel
theorem dX7_isFigure_6 : decode cX7_isFigure 6 = .ok (.iload_n 0, 1) := by decide +kernel
theorem dX7_isFigure_7 : decode cX7_isFigure 7 = .ok (.bipush 57, 2) := by decide +kernel
theorem dX7_isFigure_9 : decode cX7_isFigure 9 = .ok (.if_icmp .gt 7, 3) := by decide +kernel
theorem dX7_isFigure_12 : decode cX7_isFigure 12 = .ok (.iconst 1, 1) := by decide +kernel
theorem dX7_isFigure_13 : decode cX7_isFigure 13 = .ok (.goto 4, 3) := by decide +kernel
theorem dX7_isFigure_16 : decode cX7_isFigure 16 = .ok (.iconst 0, 1) := by decide +kernel
theorem dX7_isFigure_17 : decode cX7_isFigure 17 = .ok (.ireturn, 1) := by decide +kernel
theorem dX7_isLetter_0 : decode cX7_isLetter 0 = .ok (.iload_n 0, 1) := by decide +kernel
theorem dX7_isLetter_1 : decode cX7_isLetter 1 = .ok (.bipush 97, 2) := by decide +kernel
theorem dX7_isLetter_3 : decode cX7_isLetter 3 = .ok (.if_icmp .lt 13, 3) := by decide +kernel
theorem dX7_isLetter_6 : decode cX7_isLetter 6 = .ok (.iload_n 0, 1) := by decide +kernel
theorem dX7_isLetter_7 : decode cX7_isLetter 7 = .ok (.bipush 102, 2) := by decide +kernel
theorem dX7_isLetter_9 : decode cX7_isLetter 9 = .ok (.if_icmp .gt 7, 3) := by decide +kernel
theorem dX7_isLetter_12 : decode cX7_isLetter 12 = .ok (.iconst 1, 1) := by decide +kernel
theorem dX7_isLetter_13 : decode cX7_isLetter 13 = .ok (.goto 4, 3) := by decide +kernel
theorem dX7_isLetter_16 : decode cX7_isLetter 16 = .ok (.iconst 0, 1) := by decide +kernel
theorem dX7_isLetter_17 : decode cX7_isLetter 17 = .ok (.ireturn, 1) := by decide +kernel
theorem dX7_index_0 : decode cX7_index 0 = .ok (.iconst 0, 1) := by decide +kernel
theorem dX7_index_1 : decode cX7_index 1 = .ok (.istore_n 2, 1) := by decide +kernel
theorem dX7_index_2 : decode cX7_index 2 = .ok (.aload_n 0, 1) := by decide +kernel
theorem dX7_index_3 : decode cX7_index 3 = .ok (.invokevirtual 101, 3) := by decide +kernel
theorem dX7_index_6 : decode cX7_index 6 = .ok (.bipush 62, 2) := by decide +kernel
theorem dX7_index_8 : decode cX7_index 8 = .ok (.if_icmp .ne 19, 3) := by decide +kernel
theorem dX7_index_11 : decode cX7_index 11 = .ok (.iinc 2 1, 3) := by decide +kernel
theorem dX7_index_14 : decode cX7_index 14 = .ok (.aload_n 0, 1) := by decide +kernel
theorem dX7_index_15 : decode cX7_index 15 = .ok (.dup, 1) := by decide +kernel
theorem dX7_index_16 : decode cX7_index 16 = .ok (.getfield 95, 3) := by decide +kernel
theorem dX7_index_19 : decode cX7_index 19 = .ok (.iconst 1, 1) := by decide +kernel
theorem dX7_index_20 : decode cX7_index 20 = .ok (.iadd, 1) := by decide +kernel
theorem dX7_index_21 : decode cX7_index 21 = .ok (.putfield 95, 3) := by decide +kernel
theorem dX7_index_24 : decode cX7_index 24 = .ok (.goto (-22), 3) := by decide +kernel
theorem dX7_index_27 : decode cX7_index 27 = .ok (.aload_n 0, 1) := by decide +kernel
theorem dX7_index_28 : decode cX7_index 28 = .ok (.invokevirtual 101, 3) := by decide +kernel
theorem dX7_index_31 : decode cX7_index 31 = .ok (.istore_n 3, 1) := by decide +kernel
theorem dX7_index_32 : decode cX7_index 32 = .ok (.iload_n 3, 1) := by decide +kernel
theorem dX7_index_33 : decode cX7_index 33 = .ok (.invokestatic 105, 3) := by decide +kernel
theorem dX7_index_36 : decode cX7_index 36 = .ok (.ifCond .ne 12, 3) := by decide +kernel
theorem dX7_index_39 : decode cX7_index 39 = .ok (.iload_n 3, 1) := by decide +kernel
theorem dX7_index_40 : decode cX7_index 40 = .ok (.bipush 112, 2) := by decide +kernel
theorem dX7_index_42 : decode cX7_index 42 = .ok (.if_icmp .eq 6, 3) := by decide +kernel
theorem dX7_index_45 : decode cX7_index 45 = .ok (.bipush (-6), 2) := by decide +kernel
theorem dX7_index_47 : decode cX7_index 47 = .ok (.ireturn, 1) := by decide +kernel
theorem dX7_index_48 : decode cX7_index 48 = .ok (.aload_n 0, 1) := by decide +kernel
theorem dX7_index_49 : decode cX7_index 49 = .ok (.dup, 1) := by decide +kernel
theorem dX7_index_50 : decode cX7_index 50 = .ok (.getfield 95, 3) := by decide +kernel
theorem dX7_index_53 : decode cX7_index 53 = .ok (.iconst 1, 1) := by decide +kernel
theorem dX7_index_54 : decode cX7_index 54 = .ok (.iadd, 1) := by decide +kernel
theorem dX7_index_55 : decode cX7_index 55 = .ok (.putfield 95, 3) := by decide +kernel
theorem dX7_index_58 : decode cX7_index 58 = .ok (.iload_n 2, 1) := by decide +kernel
theorem dX7_index_59 : decode cX7_index 59 = .ok (.iload_n 3, 1) := by decide +kernel
theorem dX7_index_60 : decode cX7_index 60 = .ok (.bipush 112, 2) := by decide +kernel
theorem dX7_index_62 : decode cX7_index 62 = .ok (.if_icmp .ne 7, 3) := by decide +kernel
theorem dX7_index_65 : decode cX7_index 65 = .ok (.iload_n 1, 1) := by decide +kernel
theorem dX7_index_66 : decode cX7_index 66 = .ok (.goto 7, 3) := by decide +kernel
theorem dX7_index_69 : decode cX7_index 69 = .ok (.iload_n 3, 1) := by decide +kernel
theorem dX7_index_70 : decode cX7_index 70 = .ok (.bipush 48, 2) := by decide +kernel
theorem dX7_index_72 : decode cX7_index 72 = .ok (.isub, 1) := by decide +kernel
theorem dX7_index_73 : decode cX7_index 73 = .ok (.iadd, 1) := by decide +kernel
theorem dX7_index_74 : decode cX7_index 74 = .ok (.bipush 12, 2) := by decide +kernel
theorem dX7_index_76 : decode cX7_index 76 = .ok (.irem, 1) := by decide +kernel
theorem dX7_index_77 : decode cX7_index 77 = .ok (.ireturn, 1) := by decide +kernel
theorem dX7_leaf_0 : decode cX7_leaf 0 = .ok (.aload_n 0, 1) := by decide +kernel
theorem dX7_leaf_1 : decode cX7_leaf 1 = .ok (.invokevirtual 101, 3) := by decide +kernel
theorem dX7_leaf_4 : decode cX7_leaf 4 = .ok (.istore_n 2, 1) := by decide +kernel
theorem dX7_leaf_5 : decode cX7_leaf 5 = .ok (.iload_n 2, 1) := by decide +kernel
theorem dX7_leaf_6 : decode cX7_leaf 6 = .ok (.bipush 64, 2) := by decide +kernel
theorem dX7_leaf_8 : decode cX7_leaf 8 = .ok (.if_icmp .ne 60, 3) := by decide +kernel
theorem dX7_leaf_11 : decode cX7_leaf 11 = .ok (.aload_n 0, 1) := by decide +kernel
theorem dX7_leaf_12 : decode cX7_leaf 12 = .ok (.dup, 1) := by decide +kernel
theorem dX7_leaf_13 : decode cX7_leaf 13 = .ok (.getfield 95, 3) := by decide +kernel
theorem dX7_leaf_16 : decode cX7_leaf 16 = .ok (.iconst 1, 1) := by decide +kernel
theorem dX7_leaf_17 : decode cX7_leaf 17 = .ok (.iadd, 1) := by decide +kernel
theorem dX7_leaf_18 : decode cX7_leaf 18 = .ok (.putfield 95, 3) := by decide +kernel
theorem dX7_leaf_21 : decode cX7_leaf 21 = .ok (.aload_n 0, 1) := by decide +kernel
theorem dX7_leaf_22 : decode cX7_leaf 22 = .ok (.iload_n 1, 1) := by decide +kernel
theorem dX7_leaf_23 : decode cX7_leaf 23 = .ok (.invokevirtual 108, 3) := by decide +kernel
theorem dX7_leaf_26 : decode cX7_leaf 26 = .ok (.istore_n 3, 1) := by decide +kernel
theorem dX7_leaf_27 : decode cX7_leaf 27 = .ok (.iload_n 3, 1) := by decide +kernel
theorem dX7_leaf_28 : decode cX7_leaf 28 = .ok (.ifCond .ge 5, 3) := by decide +kernel
theorem dX7_leaf_31 : decode cX7_leaf 31 = .ok (.iconst 0, 1) := by decide +kernel
theorem dX7_leaf_32 : decode cX7_leaf 32 = .ok (.ireturn, 1) := by decide +kernel
theorem dX7_leaf_33 : decode cX7_leaf 33 = .ok (.aload_n 0, 1) := by decide +kernel
theorem dX7_leaf_34 : decode cX7_leaf 34 = .ok (.dup, 1) := by decide +kernel
theorem dX7_leaf_35 : decode cX7_leaf 35 = .ok (.getfield 112, 3) := by decide +kernel
theorem dX7_leaf_38 : decode cX7_leaf 38 = .ok (.aload_n 0, 1) := by decide +kernel
theorem dX7_leaf_39 : decode cX7_leaf 39 = .ok (.getfield 40, 3) := by decide +kernel
theorem dX7_leaf_42 : decode cX7_leaf 42 = .ok (.bipush 6, 2) := by decide +kernel
theorem dX7_leaf_44 : decode cX7_leaf 44 = .ok (.iload_n 3, 1) := by decide +kernel
theorem dX7_leaf_45 : decode cX7_leaf 45 = .ok (.iadd, 1) := by decide +kernel
theorem dX7_leaf_46 : decode cX7_leaf 46 = .ok (.iaload, 1) := by decide +kernel
theorem dX7_leaf_47 : decode cX7_leaf 47 = .ok (.iadd, 1) := by decide +kernel
theorem dX7_leaf_48 : decode cX7_leaf 48 = .ok (.putfield 112, 3) := by decide +kernel
theorem dX7_leaf_51 : decode cX7_leaf 51 = .ok (.aload_n 0, 1) := by decide +kernel
theorem dX7_leaf_52 : decode cX7_leaf 52 = .ok (.dup, 1) := by decide +kernel
theorem dX7_leaf_53 : decode cX7_leaf 53 = .ok (.getfield 115, 3) := by decide +kernel
theorem dX7_leaf_56 : decode cX7_leaf 56 = .ok (.iconst 1, 1) := by decide +kernel
theorem dX7_leaf_57 : decode cX7_leaf 57 = .ok (.bipush 6, 2) := by decide +kernel
theorem dX7_leaf_59 : decode cX7_leaf 59 = .ok (.iload_n 3, 1) := by decide +kernel
theorem dX7_leaf_60 : decode cX7_leaf 60 = .ok (.iadd, 1) := by decide +kernel
theorem dX7_leaf_61 : decode cX7_leaf 61 = .ok (.ishl, 1) := by decide +kernel
theorem dX7_leaf_62 : decode cX7_leaf 62 = .ok (.ior, 1) := by decide +kernel
theorem dX7_leaf_63 : decode cX7_leaf 63 = .ok (.putfield 115, 3) := by decide +kernel
theorem dX7_leaf_66 : decode cX7_leaf 66 = .ok (.iconst 1, 1) := by decide +kernel
theorem dX7_leaf_67 : decode cX7_leaf 67 = .ok (.ireturn, 1) := by decide +kernel
theorem dX7_leaf_68 : decode cX7_leaf 68 = .ok (.iload_n 2, 1) := by decide +kernel
theorem dX7_leaf_69 : decode cX7_leaf 69 = .ok (.invokestatic 105, 3) := by decide +kernel
theorem dX7_leaf_72 : decode cX7_leaf 72 = .ok (.ifCond .ne 18, 3) := by decide +kernel
theorem dX7_leaf_75 : decode cX7_leaf 75 = .ok (.iload_n 2, 1) := by decide +kernel
theorem dX7_leaf_76 : decode cX7_leaf 76 = .ok (.invokestatic 118, 3) := by decide +kernel
theorem dX7_leaf_79 : decode cX7_leaf 79 = .ok (.ifCond .ne 11, 3) := by decide +kernel
theorem dX7_leaf_82 : decode cX7_leaf 82 = .ok (.iload_n 2, 1) := by decide +kernel
theorem dX7_leaf_83 : decode cX7_leaf 83 = .ok (.bipush 112, 2) := by decide +kernel
theorem dX7_leaf_85 : decode cX7_leaf 85 = .ok (.if_icmp .eq 5, 3) := by decide +kernel
theorem dX7_leaf_88 : decode cX7_leaf 88 = .ok (.iconst 0, 1) := by decide +kernel
theorem dX7_leaf_89 : decode cX7_leaf 89 = .ok (.ireturn, 1) := by decide +kernel
theorem dX7_leaf_90 : decode cX7_leaf 90 = .ok (.aload_n 0, 1) := by decide +kernel
theorem dX7_leaf_91 : decode cX7_leaf 91 = .ok (.dup, 1) := by decide +kernel
theorem dX7_leaf_92 : decode cX7_leaf 92 = .ok (.getfield 95, 3) := by decide +kernel
theorem dX7_leaf_95 : decode cX7_leaf 95 = .ok (.iconst 1, 1) := by decide +kernel
theorem dX7_leaf_96 : decode cX7_leaf 96 = .ok (.iadd, 1) := by decide +kernel
theorem dX7_leaf_97 : decode cX7_leaf 97 = .ok (.putfield 95, 3) := by decide +kernel
theorem dX7_leaf_100 : decode cX7_leaf 100 = .ok (.aload_n 0, 1) := by decide +kernel
theorem dX7_leaf_101 : decode cX7_leaf 101 = .ok (.dup, 1) := by decide +kernel
theorem dX7_leaf_102 : decode cX7_leaf 102 = .ok (.getfield 112, 3) := by decide +kernel
theorem dX7_leaf_105 : decode cX7_leaf 105 = .ok (.iload_n 2, 1) := by decide +kernel
theorem dX7_leaf_106 : decode cX7_leaf 106 = .ok (.invokestatic 105, 3) := by decide +kernel
theorem dX7_leaf_109 : decode cX7_leaf 109 = .ok (.ifCond .eq 10, 3) := by decide +kernel
theorem dX7_leaf_112 : decode cX7_leaf 112 = .ok (.iload_n 2, 1) := by decide +kernel
theorem dX7_leaf_113 : decode cX7_leaf 113 = .ok (.bipush 48, 2) := by decide +kernel
theorem dX7_leaf_115 : decode cX7_leaf 115 = .ok (.isub, 1) := by decide +kernel
theorem dX7_leaf_116 : decode cX7_leaf 116 = .ok (.goto 22, 3) := by decide +kernel
theorem dX7_leaf_119 : decode cX7_leaf 119 = .ok (.iload_n 2, 1) := by decide +kernel
theorem dX7_leaf_120 : decode cX7_leaf 120 = .ok (.bipush 112, 2) := by decide +kernel
theorem dX7_leaf_122 : decode cX7_leaf 122 = .ok (.if_icmp .ne 7, 3) := by decide +kernel
theorem dX7_leaf_125 : decode cX7_leaf 125 = .ok (.iload_n 1, 1) := by decide +kernel
theorem dX7_leaf_126 : decode cX7_leaf 126 = .ok (.goto 12, 3) := by decide +kernel
theorem dX7_leaf_129 : decode cX7_leaf 129 = .ok (.aload_n 0, 1) := by decide +kernel
theorem dX7_leaf_130 : decode cX7_leaf 130 = .ok (.getfield 40, 3) := by decide +kernel
theorem dX7_leaf_133 : decode cX7_leaf 133 = .ok (.iload_n 2, 1) := by decide +kernel
theorem dX7_leaf_134 : decode cX7_leaf 134 = .ok (.bipush 97, 2) := by decide +kernel
theorem dX7_leaf_136 : decode cX7_leaf 136 = .ok (.isub, 1) := by decide +kernel
theorem dX7_leaf_137 : decode cX7_leaf 137 = .ok (.iaload, 1) := by decide +kernel
theorem dX7_leaf_138 : decode cX7_leaf 138 = .ok (.iadd, 1) := by decide +kernel
theorem dX7_leaf_139 : decode cX7_leaf 139 = .ok (.putfield 112, 3) := by decide +kernel
theorem dX7_leaf_142 : decode cX7_leaf 142 = .ok (.aload_n 0, 1) := by decide +kernel
theorem dX7_leaf_143 : decode cX7_leaf 143 = .ok (.dup, 1) := by decide +kernel
theorem dX7_leaf_144 : decode cX7_leaf 144 = .ok (.getfield 115, 3) := by decide +kernel
theorem dX7_leaf_147 : decode cX7_leaf 147 = .ok (.iload_n 2, 1) := by decide +kernel
theorem dX7_leaf_148 : decode cX7_leaf 148 = .ok (.invokestatic 118, 3) := by decide +kernel
theorem dX7_leaf_151 : decode cX7_leaf 151 = .ok (.ifCond .eq 12, 3) := by decide +kernel
theorem dX7_leaf_154 : decode cX7_leaf 154 = .ok (.iconst 1, 1) := by decide +kernel
theorem dX7_leaf_155 : decode cX7_leaf 155 = .ok (.iload_n 2, 1) := by decide +kernel
theorem dX7_leaf_156 : decode cX7_leaf 156 = .ok (.bipush 97, 2) := by decide +kernel
theorem dX7_leaf_158 : decode cX7_leaf 158 = .ok (.isub, 1) := by decide +kernel
theorem dX7_leaf_159 : decode cX7_leaf 159 = .ok (.ishl, 1) := by decide +kernel
theorem dX7_leaf_160 : decode cX7_leaf 160 = .ok (.goto 4, 3) := by decide +kernel
theorem dX7_leaf_163 : decode cX7_leaf 163 = .ok (.iconst 0, 1) := by decide +kernel
theorem dX7_leaf_164 : decode cX7_leaf 164 = .ok (.ior, 1) := by decide +kernel
theorem dX7_leaf_165 : decode cX7_leaf 165 = .ok (.putfield 115, 3) := by decide +kernel
theorem dX7_leaf_168 : decode cX7_leaf 168 = .ok (.iconst 1, 1) := by decide +kernel
theorem dX7_leaf_169 : decode cX7_leaf 169 = .ok (.ireturn, 1) := by decide +kernel
theorem dX7_term_0 : decode cX7_term 0 = .ok (.aload_n 0, 1) := by decide +kernel
theorem dX7_term_1 : decode cX7_term 1 = .ok (.iconst 0, 1) := by decide +kernel
theorem dX7_term_2 : decode cX7_term 2 = .ok (.putfield 112, 3) := by decide +kernel
theorem dX7_term_5 : decode cX7_term 5 = .ok (.aload_n 0, 1) := by decide +kernel
theorem dX7_term_6 : decode cX7_term 6 = .ok (.iconst 0, 1) := by decide +kernel
theorem dX7_term_7 : decode cX7_term 7 = .ok (.putfield 115, 3) := by decide +kernel
theorem dX7_term_10 : decode cX7_term 10 = .ok (.iconst 1, 1) := by decide +kernel
theorem dX7_term_11 : decode cX7_term 11 = .ok (.istore_n 2, 1) := by decide +kernel
theorem dX7_term_12 : decode cX7_term 12 = .ok (.iload_n 2, 1) := by decide +kernel
theorem dX7_term_13 : decode cX7_term 13 = .ok (.ifCond .le 44, 3) := by decide +kernel
theorem dX7_term_16 : decode cX7_term 16 = .ok (.aload_n 0, 1) := by decide +kernel
theorem dX7_term_17 : decode cX7_term 17 = .ok (.invokevirtual 101, 3) := by decide +kernel
theorem dX7_term_20 : decode cX7_term 20 = .ok (.bipush 126, 2) := by decide +kernel
theorem dX7_term_22 : decode cX7_term 22 = .ok (.if_icmp .ne 19, 3) := by decide +kernel
theorem dX7_term_25 : decode cX7_term 25 = .ok (.aload_n 0, 1) := by decide +kernel
theorem dX7_term_26 : decode cX7_term 26 = .ok (.dup, 1) := by decide +kernel
theorem dX7_term_27 : decode cX7_term 27 = .ok (.getfield 95, 3) := by decide +kernel
theorem dX7_term_30 : decode cX7_term 30 = .ok (.iconst 1, 1) := by decide +kernel
theorem dX7_term_31 : decode cX7_term 31 = .ok (.iadd, 1) := by decide +kernel
theorem dX7_term_32 : decode cX7_term 32 = .ok (.putfield 95, 3) := by decide +kernel
theorem dX7_term_35 : decode cX7_term 35 = .ok (.iinc 2 1, 3) := by decide +kernel
theorem dX7_term_38 : decode cX7_term 38 = .ok (.goto (-26), 3) := by decide +kernel
theorem dX7_term_41 : decode cX7_term 41 = .ok (.aload_n 0, 1) := by decide +kernel
theorem dX7_term_42 : decode cX7_term 42 = .ok (.iload_n 1, 1) := by decide +kernel
theorem dX7_term_43 : decode cX7_term 43 = .ok (.invokevirtual 121, 3) := by decide +kernel
theorem dX7_term_46 : decode cX7_term 46 = .ok (.ifCond .eq 9, 3) := by decide +kernel
theorem dX7_term_49 : decode cX7_term 49 = .ok (.iinc 2 (-1), 3) := by decide +kernel
theorem dX7_term_52 : decode cX7_term 52 = .ok (.goto (-40), 3) := by decide +kernel
theorem dX7_term_55 : decode cX7_term 55 = .ok (.iconst 0, 1) := by decide +kernel
theorem dX7_term_56 : decode cX7_term 56 = .ok (.ireturn, 1) := by decide +kernel
theorem dX7_term_57 : decode cX7_term 57 = .ok (.aload_n 0, 1) := by decide +kernel
theorem dX7_term_58 : decode cX7_term 58 = .ok (.dup, 1) := by decide +kernel
theorem dX7_term_59 : decode cX7_term 59 = .ok (.getfield 112, 3) := by decide +kernel
theorem dX7_term_62 : decode cX7_term 62 = .ok (.bipush 100, 2) := by decide +kernel
theorem dX7_term_64 : decode cX7_term 64 = .ok (.irem, 1) := by decide +kernel
theorem dX7_term_65 : decode cX7_term 65 = .ok (.putfield 112, 3) := by decide +kernel
theorem dX7_term_68 : decode cX7_term 68 = .ok (.iconst 1, 1) := by decide +kernel
theorem dX7_term_69 : decode cX7_term 69 = .ok (.ireturn, 1) := by decide +kernel
theorem dX7_numberHere_0 : decode cX7_numberHere 0 = .ok (.aload_n 0, 1) := by decide +kernel
theorem dX7_numberHere_1 : decode cX7_numberHere 1 = .ok (.aload_n 0, 1) := by decide +kernel
theorem dX7_numberHere_2 : decode cX7_numberHere 2 = .ok (.invokevirtual 101, 3) := by decide +kernel
theorem dX7_numberHere_5 : decode cX7_numberHere 5 = .ok (.bipush 97, 2) := by decide +kernel
theorem dX7_numberHere_7 : decode cX7_numberHere 7 = .ok (.isub, 1) := by decide +kernel
theorem dX7_numberHere_8 : decode cX7_numberHere 8 = .ok (.putfield 124, 3) := by decide +kernel
theorem dX7_numberHere_11 : decode cX7_numberHere 11 = .ok (.aload_n 0, 1) := by decide +kernel
theorem dX7_numberHere_12 : decode cX7_numberHere 12 = .ok (.dup, 1) := by decide +kernel
theorem dX7_numberHere_13 : decode cX7_numberHere 13 = .ok (.getfield 95, 3) := by decide +kernel
theorem dX7_numberHere_16 : decode cX7_numberHere 16 = .ok (.aload_n 0, 1) := by decide +kernel
theorem dX7_numberHere_17 : decode cX7_numberHere 17 = .ok (.invokevirtual 101, 3) := by decide +kernel
theorem dX7_numberHere_20 : decode cX7_numberHere 20 = .ok (.invokestatic 118, 3) := by decide +kernel
theorem dX7_numberHere_23 : decode cX7_numberHere 23 = .ok (.ifCond .eq 7, 3) := by decide +kernel
theorem dX7_numberHere_26 : decode cX7_numberHere 26 = .ok (.iconst 1, 1) := by decide +kernel
theorem dX7_numberHere_27 : decode cX7_numberHere 27 = .ok (.goto 4, 3) := by decide +kernel
theorem dX7_numberHere_30 : decode cX7_numberHere 30 = .ok (.iconst 0, 1) := by decide +kernel
theorem dX7_numberHere_31 : decode cX7_numberHere 31 = .ok (.iadd, 1) := by decide +kernel
theorem dX7_numberHere_32 : decode cX7_numberHere 32 = .ok (.putfield 95, 3) := by decide +kernel
theorem dX7_numberHere_35 : decode cX7_numberHere 35 = .ok (.aload_n 0, 1) := by decide +kernel
theorem dX7_numberHere_36 : decode cX7_numberHere 36 = .ok (.getfield 124, 3) := by decide +kernel
theorem dX7_numberHere_39 : decode cX7_numberHere 39 = .ok (.i2l, 1) := by decide +kernel
theorem dX7_numberHere_40 : decode cX7_numberHere 40 = .ok (.lconst 0, 1) := by decide +kernel
theorem dX7_numberHere_41 : decode cX7_numberHere 41 = .ok (.ldc2_w 77, 3) := by decide +kernel
theorem dX7_numberHere_44 : decode cX7_numberHere 44 = .ok (.invokestatic 79, 3) := by decide +kernel
theorem dX7_numberHere_47 : decode cX7_numberHere 47 = .ok (.ireturn, 1) := by decide +kernel
theorem dX7_cellHere_0 : decode cX7_cellHere 0 = .ok (.aload_n 0, 1) := by decide +kernel
theorem dX7_cellHere_1 : decode cX7_cellHere 1 = .ok (.iload_n 1, 1) := by decide +kernel
theorem dX7_cellHere_2 : decode cX7_cellHere 2 = .ok (.invokevirtual 108, 3) := by decide +kernel
theorem dX7_cellHere_5 : decode cX7_cellHere 5 = .ok (.istore_n 2, 1) := by decide +kernel
theorem dX7_cellHere_6 : decode cX7_cellHere 6 = .ok (.aload_n 0, 1) := by decide +kernel
theorem dX7_cellHere_7 : decode cX7_cellHere 7 = .ok (.bipush 6, 2) := by decide +kernel
theorem dX7_cellHere_9 : decode cX7_cellHere 9 = .ok (.iload_n 2, 1) := by decide +kernel
theorem dX7_cellHere_10 : decode cX7_cellHere 10 = .ok (.iadd, 1) := by decide +kernel
theorem dX7_cellHere_11 : decode cX7_cellHere 11 = .ok (.putfield 124, 3) := by decide +kernel
theorem dX7_cellHere_14 : decode cX7_cellHere 14 = .ok (.iload_n 2, 1) := by decide +kernel
theorem dX7_cellHere_15 : decode cX7_cellHere 15 = .ok (.ifCond .lt 7, 3) := by decide +kernel
theorem dX7_cellHere_18 : decode cX7_cellHere 18 = .ok (.iconst 1, 1) := by decide +kernel
theorem dX7_cellHere_19 : decode cX7_cellHere 19 = .ok (.goto 4, 3) := by decide +kernel
theorem dX7_cellHere_22 : decode cX7_cellHere 22 = .ok (.iconst 0, 1) := by decide +kernel
theorem dX7_cellHere_23 : decode cX7_cellHere 23 = .ok (.ireturn, 1) := by decide +kernel
theorem dX7_callHere_0 : decode cX7_callHere 0 = .ok (.aload_n 0, 1) := by decide +kernel
theorem dX7_callHere_1 : decode cX7_callHere 1 = .ok (.aload_n 0, 1) := by decide +kernel
theorem dX7_callHere_2 : decode cX7_callHere 2 = .ok (.invokevirtual 101, 3) := by decide +kernel
theorem dX7_callHere_5 : decode cX7_callHere 5 = .ok (.bipush 48, 2) := by decide +kernel
theorem dX7_callHere_7 : decode cX7_callHere 7 = .ok (.isub, 1) := by decide +kernel
theorem dX7_callHere_8 : decode cX7_callHere 8 = .ok (.putfield 127, 3) := by decide +kernel
theorem dX7_callHere_11 : decode cX7_callHere 11 = .ok (.aload_n 0, 1) := by decide +kernel
theorem dX7_callHere_12 : decode cX7_callHere 12 = .ok (.getfield 127, 3) := by decide +kernel
theorem dX7_callHere_15 : decode cX7_callHere 15 = .ok (.invokestatic 87, 3) := by decide +kernel
theorem dX7_callHere_18 : decode cX7_callHere 18 = .ok (.ifCond .ne 5, 3) := by decide +kernel
theorem dX7_callHere_21 : decode cX7_callHere 21 = .ok (.iconst 0, 1) := by decide +kernel
theorem dX7_callHere_22 : decode cX7_callHere 22 = .ok (.ireturn, 1) := by decide +kernel
theorem dX7_callHere_23 : decode cX7_callHere 23 = .ok (.aload_n 0, 1) := by decide +kernel
theorem dX7_callHere_24 : decode cX7_callHere 24 = .ok (.dup, 1) := by decide +kernel
theorem dX7_callHere_25 : decode cX7_callHere 25 = .ok (.getfield 95, 3) := by decide +kernel
theorem dX7_callHere_28 : decode cX7_callHere 28 = .ok (.iconst 1, 1) := by decide +kernel
theorem dX7_callHere_29 : decode cX7_callHere 29 = .ok (.iadd, 1) := by decide +kernel
theorem dX7_callHere_30 : decode cX7_callHere 30 = .ok (.putfield 95, 3) := by decide +kernel
theorem dX7_callHere_33 : decode cX7_callHere 33 = .ok (.aload_n 0, 1) := by decide +kernel
theorem dX7_callHere_34 : decode cX7_callHere 34 = .ok (.aload_n 0, 1) := by decide +kernel
theorem dX7_callHere_35 : decode cX7_callHere 35 = .ok (.iload_n 1, 1) := by decide +kernel
theorem dX7_callHere_36 : decode cX7_callHere 36 = .ok (.invokevirtual 108, 3) := by decide +kernel
theorem dX7_callHere_39 : decode cX7_callHere 39 = .ok (.putfield 130, 3) := by decide +kernel
theorem dX7_callHere_42 : decode cX7_callHere 42 = .ok (.aload_n 0, 1) := by decide +kernel
theorem dX7_callHere_43 : decode cX7_callHere 43 = .ok (.getfield 130, 3) := by decide +kernel
theorem dX7_callHere_46 : decode cX7_callHere 46 = .ok (.ifCond .lt 7, 3) := by decide +kernel
theorem dX7_callHere_49 : decode cX7_callHere 49 = .ok (.iconst 1, 1) := by decide +kernel
theorem dX7_callHere_50 : decode cX7_callHere 50 = .ok (.goto 4, 3) := by decide +kernel
theorem dX7_callHere_53 : decode cX7_callHere 53 = .ok (.iconst 0, 1) := by decide +kernel
theorem dX7_callHere_54 : decode cX7_callHere 54 = .ok (.ireturn, 1) := by decide +kernel
theorem dX7_statement_0 : decode cX7_statement 0 = .ok (.aload_n 0, 1) := by decide +kernel
theorem dX7_statement_1 : decode cX7_statement 1 = .ok (.aload_n 0, 1) := by decide +kernel
theorem dX7_statement_2 : decode cX7_statement 2 = .ok (.invokevirtual 101, 3) := by decide +kernel
theorem dX7_statement_5 : decode cX7_statement 5 = .ok (.putfield 133, 3) := by decide +kernel
theorem dX7_statement_8 : decode cX7_statement 8 = .ok (.aload_n 0, 1) := by decide +kernel
theorem dX7_statement_9 : decode cX7_statement 9 = .ok (.getfield 133, 3) := by decide +kernel
theorem dX7_statement_12 : decode cX7_statement 12 = .ok (.bipush 61, 2) := by decide +kernel
theorem dX7_statement_14 : decode cX7_statement 14 = .ok (.if_icmp .eq 12, 3) := by decide +kernel
theorem dX7_statement_17 : decode cX7_statement 17 = .ok (.aload_n 0, 1) := by decide +kernel
theorem dX7_statement_18 : decode cX7_statement 18 = .ok (.getfield 133, 3) := by decide +kernel
theorem dX7_statement_21 : decode cX7_statement 21 = .ok (.bipush 43, 2) := by decide +kernel
theorem dX7_statement_23 : decode cX7_statement 23 = .ok (.if_icmp .ne 7, 3) := by decide +kernel
theorem dX7_statement_26 : decode cX7_statement 26 = .ok (.iconst 1, 1) := by decide +kernel
theorem dX7_statement_27 : decode cX7_statement 27 = .ok (.goto 4, 3) := by decide +kernel
theorem dX7_statement_30 : decode cX7_statement 30 = .ok (.iconst 0, 1) := by decide +kernel
theorem dX7_statement_31 : decode cX7_statement 31 = .ok (.istore_n 2, 1) := by decide +kernel
theorem dX7_statement_32 : decode cX7_statement 32 = .ok (.aload_n 0, 1) := by decide +kernel
theorem dX7_statement_33 : decode cX7_statement 33 = .ok (.getfield 133, 3) := by decide +kernel
theorem dX7_statement_36 : decode cX7_statement 36 = .ok (.bipush 35, 2) := by decide +kernel
theorem dX7_statement_38 : decode cX7_statement 38 = .ok (.if_icmp .eq 12, 3) := by decide +kernel
theorem dX7_statement_41 : decode cX7_statement 41 = .ok (.aload_n 0, 1) := by decide +kernel
theorem dX7_statement_42 : decode cX7_statement 42 = .ok (.getfield 133, 3) := by decide +kernel
theorem dX7_statement_45 : decode cX7_statement 45 = .ok (.bipush 94, 2) := by decide +kernel
theorem dX7_statement_47 : decode cX7_statement 47 = .ok (.if_icmp .ne 7, 3) := by decide +kernel
theorem dX7_statement_50 : decode cX7_statement 50 = .ok (.iconst 1, 1) := by decide +kernel
theorem dX7_statement_51 : decode cX7_statement 51 = .ok (.goto 4, 3) := by decide +kernel
theorem dX7_statement_54 : decode cX7_statement 54 = .ok (.iconst 0, 1) := by decide +kernel
theorem dX7_statement_55 : decode cX7_statement 55 = .ok (.istore_n 3, 1) := by decide +kernel
theorem dX7_statement_56 : decode cX7_statement 56 = .ok (.iload_n 2, 1) := by decide +kernel
theorem dX7_statement_57 : decode cX7_statement 57 = .ok (.ifCond .ne 27, 3) := by decide +kernel
theorem dX7_statement_60 : decode cX7_statement 60 = .ok (.iload_n 3, 1) := by decide +kernel
theorem dX7_statement_61 : decode cX7_statement 61 = .ok (.ifCond .ne 23, 3) := by decide +kernel
theorem dX7_statement_64 : decode cX7_statement 64 = .ok (.aload_n 0, 1) := by decide +kernel
theorem dX7_statement_65 : decode cX7_statement 65 = .ok (.getfield 133, 3) := by decide +kernel
theorem dX7_statement_68 : decode cX7_statement 68 = .ok (.bipush 63, 2) := by decide +kernel
theorem dX7_statement_70 : decode cX7_statement 70 = .ok (.if_icmp .eq 14, 3) := by decide +kernel
theorem dX7_statement_73 : decode cX7_statement 73 = .ok (.aload_n 0, 1) := by decide +kernel
theorem dX7_statement_74 : decode cX7_statement 74 = .ok (.getfield 133, 3) := by decide +kernel
theorem dX7_statement_77 : decode cX7_statement 77 = .ok (.bipush 99, 2) := by decide +kernel
theorem dX7_statement_79 : decode cX7_statement 79 = .ok (.if_icmp .eq 5, 3) := by decide +kernel
theorem dX7_statement_82 : decode cX7_statement 82 = .ok (.iconst 0, 1) := by decide +kernel
theorem dX7_statement_83 : decode cX7_statement 83 = .ok (.ireturn, 1) := by decide +kernel
theorem dX7_statement_84 : decode cX7_statement 84 = .ok (.aload_n 0, 1) := by decide +kernel
theorem dX7_statement_85 : decode cX7_statement 85 = .ok (.dup, 1) := by decide +kernel
theorem dX7_statement_86 : decode cX7_statement 86 = .ok (.getfield 95, 3) := by decide +kernel
theorem dX7_statement_89 : decode cX7_statement 89 = .ok (.iconst 1, 1) := by decide +kernel
theorem dX7_statement_90 : decode cX7_statement 90 = .ok (.iadd, 1) := by decide +kernel
theorem dX7_statement_91 : decode cX7_statement 91 = .ok (.putfield 95, 3) := by decide +kernel
theorem dX7_statement_94 : decode cX7_statement 94 = .ok (.aload_n 0, 1) := by decide +kernel
theorem dX7_statement_95 : decode cX7_statement 95 = .ok (.getfield 133, 3) := by decide +kernel
theorem dX7_statement_98 : decode cX7_statement 98 = .ok (.bipush 99, 2) := by decide +kernel
theorem dX7_statement_100 : decode cX7_statement 100 = .ok (.if_icmp .ne 9, 3) := by decide +kernel
theorem dX7_statement_103 : decode cX7_statement 103 = .ok (.aload_n 0, 1) := by decide +kernel
theorem dX7_statement_104 : decode cX7_statement 104 = .ok (.iload_n 1, 1) := by decide +kernel
theorem dX7_statement_105 : decode cX7_statement 105 = .ok (.invokevirtual 136, 3) := by decide +kernel
theorem dX7_statement_108 : decode cX7_statement 108 = .ok (.ireturn, 1) := by decide +kernel
theorem dX7_statement_109 : decode cX7_statement 109 = .ok (.aload_n 0, 1) := by decide +kernel
theorem dX7_statement_110 : decode cX7_statement 110 = .ok (.getfield 133, 3) := by decide +kernel
theorem dX7_statement_113 : decode cX7_statement 113 = .ok (.bipush 63, 2) := by decide +kernel
theorem dX7_statement_115 : decode cX7_statement 115 = .ok (.if_icmp .ne 8, 3) := by decide +kernel
theorem dX7_statement_118 : decode cX7_statement 118 = .ok (.aload_n 0, 1) := by decide +kernel
theorem dX7_statement_119 : decode cX7_statement 119 = .ok (.invokevirtual 139, 3) := by decide +kernel
theorem dX7_statement_122 : decode cX7_statement 122 = .ok (.ireturn, 1) := by decide +kernel
theorem dX7_statement_123 : decode cX7_statement 123 = .ok (.iload_n 2, 1) := by decide +kernel
theorem dX7_statement_124 : decode cX7_statement 124 = .ok (.ifCond .eq 13, 3) := by decide +kernel
theorem dX7_statement_127 : decode cX7_statement 127 = .ok (.aload_n 0, 1) := by decide +kernel
theorem dX7_statement_128 : decode cX7_statement 128 = .ok (.invokevirtual 139, 3) := by decide +kernel
theorem dX7_statement_131 : decode cX7_statement 131 = .ok (.ifCond .eq 26, 3) := by decide +kernel
theorem dX7_statement_134 : decode cX7_statement 134 = .ok (.goto 11, 3) := by decide +kernel
theorem dX7_statement_137 : decode cX7_statement 137 = .ok (.aload_n 0, 1) := by decide +kernel
theorem dX7_statement_138 : decode cX7_statement 138 = .ok (.iload_n 1, 1) := by decide +kernel
theorem dX7_statement_139 : decode cX7_statement 139 = .ok (.invokevirtual 143, 3) := by decide +kernel
theorem dX7_statement_142 : decode cX7_statement 142 = .ok (.ifCond .eq 15, 3) := by decide +kernel
theorem dX7_statement_145 : decode cX7_statement 145 = .ok (.aload_n 0, 1) := by decide +kernel
theorem dX7_statement_146 : decode cX7_statement 146 = .ok (.iload_n 1, 1) := by decide +kernel
theorem dX7_statement_147 : decode cX7_statement 147 = .ok (.invokevirtual 146, 3) := by decide +kernel
theorem dX7_statement_150 : decode cX7_statement 150 = .ok (.ifCond .eq 7, 3) := by decide +kernel
theorem dX7_statement_153 : decode cX7_statement 153 = .ok (.iconst 1, 1) := by decide +kernel
theorem dX7_statement_154 : decode cX7_statement 154 = .ok (.goto 4, 3) := by decide +kernel
theorem dX7_statement_157 : decode cX7_statement 157 = .ok (.iconst 0, 1) := by decide +kernel
theorem dX7_statement_158 : decode cX7_statement 158 = .ok (.ireturn, 1) := by decide +kernel
theorem dX7_begin_0 : decode cX7_begin 0 = .ok (.aload_n 0, 1) := by decide +kernel
theorem dX7_begin_1 : decode cX7_begin 1 = .ok (.iload_n 1, 1) := by decide +kernel
theorem dX7_begin_2 : decode cX7_begin 2 = .ok (.putfield 99, 3) := by decide +kernel
theorem dX7_begin_5 : decode cX7_begin 5 = .ok (.aload_n 0, 1) := by decide +kernel
theorem dX7_begin_6 : decode cX7_begin 6 = .ok (.iconst 0, 1) := by decide +kernel
theorem dX7_begin_7 : decode cX7_begin 7 = .ok (.putfield 95, 3) := by decide +kernel
theorem dX7_begin_10 : decode cX7_begin 10 = .ok (.return_, 1) := by decide +kernel
theorem dX7_isMore_0 : decode cX7_isMore 0 = .ok (.aload_n 0, 1) := by decide +kernel
theorem dX7_isMore_1 : decode cX7_isMore 1 = .ok (.getfield 95, 3) := by decide +kernel
theorem dX7_isMore_4 : decode cX7_isMore 4 = .ok (.aload_n 0, 1) := by decide +kernel
theorem dX7_isMore_5 : decode cX7_isMore 5 = .ok (.getfield 13, 3) := by decide +kernel
theorem dX7_isMore_8 : decode cX7_isMore 8 = .ok (.aload_n 0, 1) := by decide +kernel
theorem dX7_isMore_9 : decode cX7_isMore 9 = .ok (.getfield 99, 3) := by decide +kernel
theorem dX7_isMore_12 : decode cX7_isMore 12 = .ok (.iaload, 1) := by decide +kernel
theorem dX7_isMore_13 : decode cX7_isMore 13 = .ok (.if_icmp .ge 7, 3) := by decide +kernel
theorem dX7_isMore_16 : decode cX7_isMore 16 = .ok (.iconst 1, 1) := by decide +kernel
theorem dX7_isMore_17 : decode cX7_isMore 17 = .ok (.goto 4, 3) := by decide +kernel
theorem dX7_isMore_20 : decode cX7_isMore 20 = .ok (.iconst 0, 1) := by decide +kernel
theorem dX7_isMore_21 : decode cX7_isMore 21 = .ok (.ireturn, 1) := by decide +kernel
theorem dX7_faultOf_0 : decode cX7_faultOf 0 = .ok (.aload_n 0, 1) := by decide +kernel
theorem dX7_faultOf_1 : decode cX7_faultOf 1 = .ok (.iload_n 1, 1) := by decide +kernel
theorem dX7_faultOf_2 : decode cX7_faultOf 2 = .ok (.invokevirtual 149, 3) := by decide +kernel
theorem dX7_faultOf_5 : decode cX7_faultOf 5 = .ok (.aload_n 0, 1) := by decide +kernel
theorem dX7_faultOf_6 : decode cX7_faultOf 6 = .ok (.invokevirtual 153, 3) := by decide +kernel
theorem dX7_faultOf_9 : decode cX7_faultOf 9 = .ok (.ifCond .eq 16, 3) := by decide +kernel
theorem dX7_faultOf_12 : decode cX7_faultOf 12 = .ok (.aload_n 0, 1) := by decide +kernel
theorem dX7_faultOf_13 : decode cX7_faultOf 13 = .ok (.iconst 0, 1) := by decide +kernel
theorem dX7_faultOf_14 : decode cX7_faultOf 14 = .ok (.invokevirtual 156, 3) := by decide +kernel
theorem dX7_faultOf_17 : decode cX7_faultOf 17 = .ok (.ifCond .ne (-12), 3) := by decide +kernel
theorem dX7_faultOf_20 : decode cX7_faultOf 20 = .ok (.aload_n 0, 1) := by decide +kernel
theorem dX7_faultOf_21 : decode cX7_faultOf 21 = .ok (.getfield 95, 3) := by decide +kernel
theorem dX7_faultOf_24 : decode cX7_faultOf 24 = .ok (.ireturn, 1) := by decide +kernel
theorem dX7_faultOf_25 : decode cX7_faultOf 25 = .ok (.bipush (-6), 2) := by decide +kernel
theorem dX7_faultOf_27 : decode cX7_faultOf 27 = .ok (.ireturn, 1) := by decide +kernel
theorem dX7_fault_0 : decode cX7_fault 0 = .ok (.iload_n 1, 1) := by decide +kernel
theorem dX7_fault_1 : decode cX7_fault 1 = .ok (.invokestatic 87, 3) := by decide +kernel
theorem dX7_fault_4 : decode cX7_fault 4 = .ok (.ifCond .eq 11, 3) := by decide +kernel
theorem dX7_fault_7 : decode cX7_fault 7 = .ok (.aload_n 0, 1) := by decide +kernel
theorem dX7_fault_8 : decode cX7_fault 8 = .ok (.iload_n 1, 1) := by decide +kernel
theorem dX7_fault_9 : decode cX7_fault 9 = .ok (.invokevirtual 159, 3) := by decide +kernel
theorem dX7_fault_12 : decode cX7_fault 12 = .ok (.goto 4, 3) := by decide +kernel
theorem dX7_fault_15 : decode cX7_fault 15 = .ok (.iconst (-1), 1) := by decide +kernel
theorem dX7_fault_16 : decode cX7_fault 16 = .ok (.ireturn, 1) := by decide +kernel
theorem dX7_set_0 : decode cX7_set 0 = .ok (.iload_n 1, 1) := by decide +kernel
theorem dX7_set_1 : decode cX7_set 1 = .ok (.invokestatic 162, 3) := by decide +kernel
theorem dX7_set_4 : decode cX7_set 4 = .ok (.ifCond .ne 5, 3) := by decide +kernel
theorem dX7_set_7 : decode cX7_set 7 = .ok (.iconst (-1), 1) := by decide +kernel
theorem dX7_set_8 : decode cX7_set 8 = .ok (.ireturn, 1) := by decide +kernel
theorem dX7_set_9 : decode cX7_set 9 = .ok (.iload_n 2, 1) := by decide +kernel
theorem dX7_set_10 : decode cX7_set 10 = .ok (.i2l, 1) := by decide +kernel
theorem dX7_set_11 : decode cX7_set 11 = .ok (.lconst 0, 1) := by decide +kernel
theorem dX7_set_12 : decode cX7_set 12 = .ok (.ldc2_w 165, 3) := by decide +kernel
theorem dX7_set_15 : decode cX7_set 15 = .ok (.invokestatic 79, 3) := by decide +kernel
theorem dX7_set_18 : decode cX7_set 18 = .ok (.ifCond .ne 6, 3) := by decide +kernel
theorem dX7_set_21 : decode cX7_set 21 = .ok (.bipush (-2), 2) := by decide +kernel
theorem dX7_set_23 : decode cX7_set 23 = .ok (.ireturn, 1) := by decide +kernel
theorem dX7_set_24 : decode cX7_set 24 = .ok (.aload_n 0, 1) := by decide +kernel
theorem dX7_set_25 : decode cX7_set 25 = .ok (.getfield 16, 3) := by decide +kernel
theorem dX7_set_28 : decode cX7_set 28 = .ok (.iload_n 1, 1) := by decide +kernel
theorem dX7_set_29 : decode cX7_set 29 = .ok (.iaload, 1) := by decide +kernel
theorem dX7_set_30 : decode cX7_set 30 = .ok (.istore_n 3, 1) := by decide +kernel
theorem dX7_set_31 : decode cX7_set 31 = .ok (.aload_n 0, 1) := by decide +kernel
theorem dX7_set_32 : decode cX7_set 32 = .ok (.getfield 16, 3) := by decide +kernel
theorem dX7_set_35 : decode cX7_set 35 = .ok (.iload_n 1, 1) := by decide +kernel
theorem dX7_set_36 : decode cX7_set 36 = .ok (.iload_n 2, 1) := by decide +kernel
theorem dX7_set_37 : decode cX7_set 37 = .ok (.iastore, 1) := by decide +kernel
theorem dX7_set_38 : decode cX7_set 38 = .ok (.iload_n 3, 1) := by decide +kernel
theorem dX7_set_39 : decode cX7_set 39 = .ok (.ireturn, 1) := by decide +kernel
theorem dX7_get_0 : decode cX7_get 0 = .ok (.iload_n 1, 1) := by decide +kernel
theorem dX7_get_1 : decode cX7_get 1 = .ok (.invokestatic 162, 3) := by decide +kernel
theorem dX7_get_4 : decode cX7_get 4 = .ok (.ifCond .eq 12, 3) := by decide +kernel
theorem dX7_get_7 : decode cX7_get 7 = .ok (.aload_n 0, 1) := by decide +kernel
theorem dX7_get_8 : decode cX7_get 8 = .ok (.getfield 16, 3) := by decide +kernel
theorem dX7_get_11 : decode cX7_get 11 = .ok (.iload_n 1, 1) := by decide +kernel
theorem dX7_get_12 : decode cX7_get 12 = .ok (.iaload, 1) := by decide +kernel
theorem dX7_get_13 : decode cX7_get 13 = .ok (.goto 4, 3) := by decide +kernel
theorem dX7_get_16 : decode cX7_get 16 = .ok (.iconst (-1), 1) := by decide +kernel
theorem dX7_get_17 : decode cX7_get 17 = .ok (.ireturn, 1) := by decide +kernel
theorem dX7_callsOf_0 : decode cX7_callsOf 0 = .ok (.iconst 0, 1) := by decide +kernel
theorem dX7_callsOf_1 : decode cX7_callsOf 1 = .ok (.istore_n 2, 1) := by decide +kernel
theorem dX7_callsOf_2 : decode cX7_callsOf 2 = .ok (.aload_n 0, 1) := by decide +kernel
theorem dX7_callsOf_3 : decode cX7_callsOf 3 = .ok (.iload_n 1, 1) := by decide +kernel
theorem dX7_callsOf_4 : decode cX7_callsOf 4 = .ok (.invokevirtual 149, 3) := by decide +kernel
theorem dX7_callsOf_7 : decode cX7_callsOf 7 = .ok (.aload_n 0, 1) := by decide +kernel
theorem dX7_callsOf_8 : decode cX7_callsOf 8 = .ok (.invokevirtual 153, 3) := by decide +kernel
theorem dX7_callsOf_11 : decode cX7_callsOf 11 = .ok (.ifCond .eq 36, 3) := by decide +kernel
theorem dX7_callsOf_14 : decode cX7_callsOf 14 = .ok (.aload_n 0, 1) := by decide +kernel
theorem dX7_callsOf_15 : decode cX7_callsOf 15 = .ok (.iconst 0, 1) := by decide +kernel
theorem dX7_callsOf_16 : decode cX7_callsOf 16 = .ok (.invokevirtual 156, 3) := by decide +kernel
theorem dX7_callsOf_19 : decode cX7_callsOf 19 = .ok (.ifCond .eq 28, 3) := by decide +kernel
theorem dX7_callsOf_22 : decode cX7_callsOf 22 = .ok (.iload_n 2, 1) := by decide +kernel
theorem dX7_callsOf_23 : decode cX7_callsOf 23 = .ok (.aload_n 0, 1) := by decide +kernel
theorem dX7_callsOf_24 : decode cX7_callsOf 24 = .ok (.getfield 133, 3) := by decide +kernel
theorem dX7_callsOf_27 : decode cX7_callsOf 27 = .ok (.bipush 99, 2) := by decide +kernel
theorem dX7_callsOf_29 : decode cX7_callsOf 29 = .ok (.if_icmp .ne 12, 3) := by decide +kernel
theorem dX7_callsOf_32 : decode cX7_callsOf 32 = .ok (.iconst 1, 1) := by decide +kernel
theorem dX7_callsOf_33 : decode cX7_callsOf 33 = .ok (.aload_n 0, 1) := by decide +kernel
