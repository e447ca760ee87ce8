theorem dX0_init_0 : decode cX0_init 0 = .ok (.aload_n 0, 1) := by decide +kernel
theorem dX0_init_1 : decode cX0_init 1 = .ok (.invokespecial 3, 3) := by decide +kernel
theorem dX0_init_4 : decode cX0_init 4 = .ok (.aload_n 0, 1) := by decide +kernel
theorem dX0_init_5 : decode cX0_init 5 = .ok (.bipush 72, 2) := by decide +kernel
theorem dX0_init_7 : decode cX0_init 7 = .ok (.newarray .int, 2) := by decide +kernel
theorem dX0_init_9 : decode cX0_init 9 = .ok (.putfield 11, 3) := by decide +kernel
theorem dX0_init_12 : decode cX0_init 12 = .ok (.aload_n 0, 1) := by decide +kernel
theorem dX0_init_13 : decode cX0_init 13 = .ok (.bipush 72, 2) := by decide +kernel
theorem dX0_init_15 : decode cX0_init 15 = .ok (.newarray .int, 2) := by decide +kernel
theorem dX0_init_17 : decode cX0_init 17 = .ok (.putfield 15, 3) := by decide +kernel
theorem dX0_init_20 : decode cX0_init 20 = .ok (.aload_n 0, 1) := by decide +kernel
theorem dX0_init_21 : decode cX0_init 21 = .ok (.bipush 72, 2) := by decide +kernel
theorem dX0_init_23 : decode cX0_init 23 = .ok (.newarray .int, 2) := by decide +kernel
theorem dX0_init_25 : decode cX0_init 25 = .ok (.putfield 18, 3) := by decide +kernel
theorem dX0_init_28 : decode cX0_init 28 = .ok (.aload_n 0, 1) := by decide +kernel
theorem dX0_init_29 : decode cX0_init 29 = .ok (.bipush 72, 2) := by decide +kernel
theorem dX0_init_31 : decode cX0_init 31 = .ok (.newarray .int, 2) := by decide +kernel
theorem dX0_init_33 : decode cX0_init 33 = .ok (.putfield 21, 3) := by decide +kernel
theorem dX0_init_36 : decode cX0_init 36 = .ok (.aload_n 0, 1) := by decide +kernel
theorem dX0_init_37 : decode cX0_init 37 = .ok (.bipush 6, 2) := by decide +kernel
theorem dX0_init_39 : decode cX0_init 39 = .ok (.newarray .boolean, 2) := by decide +kernel
theorem dX0_init_41 : decode cX0_init 41 = .ok (.putfield 24, 3) := by decide +kernel
theorem dX0_init_44 : decode cX0_init 44 = .ok (.aload_n 0, 1) := by decide +kernel
theorem dX0_init_45 : decode cX0_init 45 = .ok (.iconst 0, 1) := by decide +kernel
theorem dX0_init_46 : decode cX0_init 46 = .ok (.putfield 28, 3) := by decide +kernel
theorem dX0_init_49 : decode cX0_init 49 = .ok (.return_, 1) := by decide +kernel
theorem dX0_forget_0 : decode cX0_forget 0 = .ok (.aload_n 0, 1) := by decide +kernel
theorem dX0_forget_1 : decode cX0_forget 1 = .ok (.iconst 0, 1) := by decide +kernel
theorem dX0_forget_2 : decode cX0_forget 2 = .ok (.putfield 28, 3) := by decide +kernel
theorem dX0_forget_5 : decode cX0_forget 5 = .ok (.return_, 1) := by decide +kernel
theorem dX0_find_0 : decode cX0_find 0 = .ok (.aload_n 0, 1) := by decide +kernel
theorem dX0_find_1 : decode cX0_find 1 = .ok (.getfield 28, 3) := by decide +kernel
theorem dX0_find_4 : decode cX0_find 4 = .ok (.ifCond .eq 4, 3) := by decide +kernel
theorem dX0_find_7 : decode cX0_find 7 = .ok (.return_, 1) := by decide +kernel
theorem dX0_find_8 : decode cX0_find 8 = .ok (.aload_n 0, 1) := by decide +kernel
theorem dX0_find_9 : decode cX0_find 9 = .ok (.aload_n 1, 1) := by decide +kernel
theorem dX0_find_10 : decode cX0_find 10 = .ok (.invokevirtual 32, 3) := by decide +kernel
theorem dX0_find_13 : decode cX0_find 13 = .ok (.iconst 0, 1) := by decide +kernel
theorem dX0_find_14 : decode cX0_find 14 = .ok (.istore_n 2, 1) := by decide +kernel
theorem dX0_find_15 : decode cX0_find 15 = .ok (.iload_n 2, 1) := by decide +kernel
theorem dX0_find_16 : decode cX0_find 16 = .ok (.bipush 6, 2) := by decide +kernel
theorem dX0_find_18 : decode cX0_find 18 = .ok (.if_icmp .ge 32, 3) := by decide +kernel
theorem dX0_find_21 : decode cX0_find 21 = .ok (.iconst 0, 1) := by decide +kernel
theorem dX0_find_22 : decode cX0_find 22 = .ok (.istore_n 3, 1) := by decide +kernel
theorem dX0_find_23 : decode cX0_find 23 = .ok (.iload_n 3, 1) := by decide +kernel
theorem dX0_find_24 : decode cX0_find 24 = .ok (.bipush 12, 2) := by decide +kernel
theorem dX0_find_26 : decode cX0_find 26 = .ok (.if_icmp .ge 18, 3) := by decide +kernel
theorem dX0_find_29 : decode cX0_find 29 = .ok (.aload_n 0, 1) := by decide +kernel
theorem dX0_find_30 : decode cX0_find 30 = .ok (.aload_n 1, 1) := by decide +kernel
theorem dX0_find_31 : decode cX0_find 31 = .ok (.iload_n 2, 1) := by decide +kernel
theorem dX0_find_32 : decode cX0_find 32 = .ok (.aaload, 1) := by decide +kernel
theorem dX0_find_33 : decode cX0_find 33 = .ok (.iload_n 2, 1) := by decide +kernel
theorem dX0_find_34 : decode cX0_find 34 = .ok (.iload_n 3, 1) := by decide +kernel
theorem dX0_find_35 : decode cX0_find 35 = .ok (.invokevirtual 36, 3) := by decide +kernel
theorem dX0_find_38 : decode cX0_find 38 = .ok (.iinc 3 1, 3) := by decide +kernel
theorem dX0_find_41 : decode cX0_find 41 = .ok (.goto (-18), 3) := by decide +kernel
theorem dX0_find_44 : decode cX0_find 44 = .ok (.iinc 2 1, 3) := by decide +kernel
theorem dX0_find_47 : decode cX0_find 47 = .ok (.goto (-32), 3) := by decide +kernel
theorem dX0_find_50 : decode cX0_find 50 = .ok (.iconst 1, 1) := by decide +kernel
theorem dX0_find_51 : decode cX0_find 51 = .ok (.istore_n 2, 1) := by decide +kernel
theorem dX0_find_52 : decode cX0_find 52 = .ok (.iconst 0, 1) := by decide +kernel
theorem dX0_find_53 : decode cX0_find 53 = .ok (.istore_n 3, 1) := by decide +kernel
theorem dX0_find_54 : decode cX0_find 54 = .ok (.iload_n 3, 1) := by decide +kernel
theorem dX0_find_55 : decode cX0_find 55 = .ok (.sipush 3961, 3) := by decide +kernel
theorem dX0_find_58 : decode cX0_find 58 = .ok (.if_icmp .ge 19, 3) := by decide +kernel
theorem dX0_find_61 : decode cX0_find 61 = .ok (.iload_n 2, 1) := by decide +kernel
theorem dX0_find_62 : decode cX0_find 62 = .ok (.ifCond .eq 15, 3) := by decide +kernel
theorem dX0_find_65 : decode cX0_find 65 = .ok (.aload_n 0, 1) := by decide +kernel
theorem dX0_find_66 : decode cX0_find 66 = .ok (.aload_n 1, 1) := by decide +kernel
theorem dX0_find_67 : decode cX0_find 67 = .ok (.invokevirtual 40, 3) := by decide +kernel
theorem dX0_find_70 : decode cX0_find 70 = .ok (.istore_n 2, 1) := by decide +kernel
theorem dX0_find_71 : decode cX0_find 71 = .ok (.iinc 3 1, 3) := by decide +kernel
theorem dX0_find_74 : decode cX0_find 74 = .ok (.goto (-20), 3) := by decide +kernel
theorem dX0_find_77 : decode cX0_find 77 = .ok (.aload_n 0, 1) := by decide +kernel
theorem dX0_find_78 : decode cX0_find 78 = .ok (.iconst 1, 1) := by decide +kernel
theorem dX0_find_79 : decode cX0_find 79 = .ok (.putfield 28, 3) := by decide +kernel
theorem dX0_find_82 : decode cX0_find 82 = .ok (.return_, 1) := by decide +kernel
theorem dX0_knowsAll_0 : decode cX0_knowsAll 0 = .ok (.iconst 0, 1) := by decide +kernel
theorem dX0_knowsAll_1 : decode cX0_knowsAll 1 = .ok (.istore_n 2, 1) := by decide +kernel
theorem dX0_knowsAll_2 : decode cX0_knowsAll 2 = .ok (.iload_n 2, 1) := by decide +kernel
theorem dX0_knowsAll_3 : decode cX0_knowsAll 3 = .ok (.aload_n 1, 1) := by decide +kernel
theorem dX0_knowsAll_4 : decode cX0_knowsAll 4 = .ok (.getfield 44, 3) := by decide +kernel
theorem dX0_knowsAll_7 : decode cX0_knowsAll 7 = .ok (.if_icmp .ge 25, 3) := by decide +kernel
theorem dX0_knowsAll_10 : decode cX0_knowsAll 10 = .ok (.aload_n 0, 1) := by decide +kernel
theorem dX0_knowsAll_11 : decode cX0_knowsAll 11 = .ok (.getfield 24, 3) := by decide +kernel
theorem dX0_knowsAll_14 : decode cX0_knowsAll 14 = .ok (.aload_n 1, 1) := by decide +kernel
theorem dX0_knowsAll_15 : decode cX0_knowsAll 15 = .ok (.getfield 50, 3) := by decide +kernel
theorem dX0_knowsAll_18 : decode cX0_knowsAll 18 = .ok (.iload_n 2, 1) := by decide +kernel
theorem dX0_knowsAll_19 : decode cX0_knowsAll 19 = .ok (.iaload, 1) := by decide +kernel
theorem dX0_knowsAll_20 : decode cX0_knowsAll 20 = .ok (.baload, 1) := by decide +kernel
theorem dX0_knowsAll_21 : decode cX0_knowsAll 21 = .ok (.ifCond .ne 5, 3) := by decide +kernel
theorem dX0_knowsAll_24 : decode cX0_knowsAll 24 = .ok (.iconst 0, 1) := by decide +kernel
theorem dX0_knowsAll_25 : decode cX0_knowsAll 25 = .ok (.ireturn, 1) := by decide +kernel
theorem dX0_knowsAll_26 : decode cX0_knowsAll 26 = .ok (.iinc 2 1, 3) := by decide +kernel
theorem dX0_knowsAll_29 : decode cX0_knowsAll 29 = .ok (.goto (-27), 3) := by decide +kernel
theorem dX0_knowsAll_32 : decode cX0_knowsAll 32 = .ok (.iconst 1, 1) := by decide +kernel
theorem dX0_knowsAll_33 : decode cX0_knowsAll 33 = .ok (.ireturn, 1) := by decide +kernel
theorem dX0_part_0 : decode cX0_part 0 = .ok (.iload_n 1, 1) := by decide +kernel
theorem dX0_part_1 : decode cX0_part 1 = .ok (.bipush 12, 2) := by decide +kernel
theorem dX0_part_3 : decode cX0_part 3 = .ok (.imul, 1) := by decide +kernel
theorem dX0_part_4 : decode cX0_part 4 = .ok (.iload_n 2, 1) := by decide +kernel
theorem dX0_part_5 : decode cX0_part 5 = .ok (.iadd, 1) := by decide +kernel
theorem dX0_part_6 : decode cX0_part 6 = .ok (.istore 4, 2) := by decide +kernel
theorem dX0_part_8 : decode cX0_part 8 = .ok (.iload_n 3, 1) := by decide +kernel
theorem dX0_part_9 : decode cX0_part 9 = .ok (.tableswitch 63 0 3 #[31, 39, 47, 55], 31) := by decide +kernel
theorem dX0_part_40 : decode cX0_part 40 = .ok (.aload_n 0, 1) := by decide +kernel
theorem dX0_part_41 : decode cX0_part 41 = .ok (.getfield 11, 3) := by decide +kernel
theorem dX0_part_44 : decode cX0_part 44 = .ok (.iload 4, 2) := by decide +kernel
theorem dX0_part_46 : decode cX0_part 46 = .ok (.iaload, 1) := by decide +kernel
theorem dX0_part_47 : decode cX0_part 47 = .ok (.ireturn, 1) := by decide +kernel
theorem dX0_part_48 : decode cX0_part 48 = .ok (.aload_n 0, 1) := by decide +kernel
theorem dX0_part_49 : decode cX0_part 49 = .ok (.getfield 15, 3) := by decide +kernel
theorem dX0_part_52 : decode cX0_part 52 = .ok (.iload 4, 2) := by decide +kernel
theorem dX0_part_54 : decode cX0_part 54 = .ok (.iaload, 1) := by decide +kernel
theorem dX0_part_55 : decode cX0_part 55 = .ok (.ireturn, 1) := by decide +kernel
theorem dX0_part_56 : decode cX0_part 56 = .ok (.aload_n 0, 1) := by decide +kernel
theorem dX0_part_57 : decode cX0_part 57 = .ok (.getfield 18, 3) := by decide +kernel
theorem dX0_part_60 : decode cX0_part 60 = .ok (.iload 4, 2) := by decide +kernel
theorem dX0_part_62 : decode cX0_part 62 = .ok (.iaload, 1) := by decide +kernel
theorem dX0_part_63 : decode cX0_part 63 = .ok (.ireturn, 1) := by decide +kernel
theorem dX0_part_64 : decode cX0_part 64 = .ok (.aload_n 0, 1) := by decide +kernel
theorem dX0_part_65 : decode cX0_part 65 = .ok (.getfield 21, 3) := by decide +kernel
theorem dX0_part_68 : decode cX0_part 68 = .ok (.iload 4, 2) := by decide +kernel
theorem dX0_part_70 : decode cX0_part 70 = .ok (.iaload, 1) := by decide +kernel
theorem dX0_part_71 : decode cX0_part 71 = .ok (.ireturn, 1) := by decide +kernel
theorem dX0_part_72 : decode cX0_part 72 = .ok (.iconst 0, 1) := by decide +kernel
theorem dX0_part_73 : decode cX0_part 73 = .ok (.ireturn, 1) := by decide +kernel
theorem dX0_between_0 : decode cX0_between 0 = .ok (.iload_n 1, 1) := by decide +kernel
theorem dX0_between_1 : decode cX0_between 1 = .ok (.bipush 12, 2) := by decide +kernel
theorem dX0_between_3 : decode cX0_between 3 = .ok (.imul, 1) := by decide +kernel
theorem dX0_between_4 : decode cX0_between 4 = .ok (.iload_n 2, 1) := by decide +kernel
theorem dX0_between_5 : decode cX0_between 5 = .ok (.iadd, 1) := by decide +kernel
theorem dX0_between_6 : decode cX0_between 6 = .ok (.istore 5, 2) := by decide +kernel
theorem dX0_between_8 : decode cX0_between 8 = .ok (.iload_n 3, 1) := by decide +kernel
theorem dX0_between_9 : decode cX0_between 9 = .ok (.bipush 12, 2) := by decide +kernel
theorem dX0_between_11 : decode cX0_between 11 = .ok (.imul, 1) := by decide +kernel
theorem dX0_between_12 : decode cX0_between 12 = .ok (.iload 4, 2) := by decide +kernel
theorem dX0_between_14 : decode cX0_between 14 = .ok (.iadd, 1) := by decide +kernel
theorem dX0_between_15 : decode cX0_between 15 = .ok (.istore 6, 2) := by decide +kernel
theorem dX0_between_17 : decode cX0_between 17 = .ok (.aload_n 0, 1) := by decide +kernel
theorem dX0_between_18 : decode cX0_between 18 = .ok (.getfield 15, 3) := by decide +kernel
theorem dX0_between_21 : decode cX0_between 21 = .ok (.iload 5, 2) := by decide +kernel
theorem dX0_between_23 : decode cX0_between 23 = .ok (.iaload, 1) := by decide +kernel
theorem dX0_between_24 : decode cX0_between 24 = .ok (.aload_n 0, 1) := by decide +kernel
theorem dX0_between_25 : decode cX0_between 25 = .ok (.getfield 18, 3) := by decide +kernel
theorem dX0_between_28 : decode cX0_between 28 = .ok (.iload 5, 2) := by decide +kernel
theorem dX0_between_30 : decode cX0_between 30 = .ok (.iaload, 1) := by decide +kernel
theorem dX0_between_31 : decode cX0_between 31 = .ok (.ior, 1) := by decide +kernel
theorem dX0_between_32 : decode cX0_between 32 = .ok (.istore 7, 2) := by decide +kernel
theorem dX0_between_34 : decode cX0_between 34 = .ok (.aload_n 0, 1) := by decide +kernel
theorem dX0_between_35 : decode cX0_between 35 = .ok (.getfield 15, 3) := by decide +kernel
theorem dX0_between_38 : decode cX0_between 38 = .ok (.iload 6, 2) := by decide +kernel
theorem dX0_between_40 : decode cX0_between 40 = .ok (.iaload, 1) := by decide +kernel
theorem dX0_between_41 : decode cX0_between 41 = .ok (.aload_n 0, 1) := by decide +kernel
theorem dX0_between_42 : decode cX0_between 42 = .ok (.getfield 18, 3) := by decide +kernel
theorem dX0_between_45 : decode cX0_between 45 = .ok (.iload 6, 2) := by decide +kernel
theorem dX0_between_47 : decode cX0_between 47 = .ok (.iaload, 1) := by decide +kernel
theorem dX0_between_48 : decode cX0_between 48 = .ok (.ior, 1) := by decide +kernel
theorem dX0_between_49 : decode cX0_between 49 = .ok (.istore 8, 2) := by decide +kernel
theorem dX0_between_51 : decode cX0_between 51 = .ok (.iconst 0, 1) := by decide +kernel
theorem dX0_between_52 : decode cX0_between 52 = .ok (.istore 9, 2) := by decide +kernel
theorem dX0_between_54 : decode cX0_between 54 = .ok (.aload_n 0, 1) := by decide +kernel
theorem dX0_between_55 : decode cX0_between 55 = .ok (.getfield 15, 3) := by decide +kernel
theorem dX0_between_58 : decode cX0_between 58 = .ok (.iload 5, 2) := by decide +kernel
theorem dX0_between_60 : decode cX0_between 60 = .ok (.iaload, 1) := by decide +kernel
theorem dX0_between_61 : decode cX0_between 61 = .ok (.iload 8, 2) := by decide +kernel
theorem dX0_between_63 : decode cX0_between 63 = .ok (.iand, 1) := by decide +kernel
theorem dX0_between_64 : decode cX0_between 64 = .ok (.aload_n 0, 1) := by decide +kernel
theorem dX0_between_65 : decode cX0_between 65 = .ok (.getfield 15, 3) := by decide +kernel
theorem dX0_between_68 : decode cX0_between 68 = .ok (.iload 6, 2) := by decide +kernel
theorem dX0_between_70 : decode cX0_between 70 = .ok (.iaload, 1) := by decide +kernel
theorem dX0_between_71 : decode cX0_between 71 = .ok (.iload 7, 2) := by decide +kernel
theorem dX0_between_73 : decode cX0_between 73 = .ok (.iand, 1) := by decide +kernel
theorem dX0_between_74 : decode cX0_between 74 = .ok (.ior, 1) := by decide +kernel
theorem dX0_between_75 : decode cX0_between 75 = .ok (.ifCond .eq 9, 3) := by decide +kernel
theorem dX0_between_78 : decode cX0_between 78 = .ok (.iload 9, 2) := by decide +kernel
theorem dX0_between_80 : decode cX0_between 80 = .ok (.iconst 1, 1) := by decide +kernel
theorem dX0_between_81 : decode cX0_between 81 = .ok (.ior, 1) := by decide +kernel
theorem dX0_between_82 : decode cX0_between 82 = .ok (.istore 9, 2) := by decide +kernel
theorem dX0_between_84 : decode cX0_between 84 = .ok (.aload_n 0, 1) := by decide +kernel
theorem dX0_between_85 : decode cX0_between 85 = .ok (.getfield 11, 3) := by decide +kernel
theorem dX0_between_88 : decode cX0_between 88 = .ok (.iload 5, 2) := by decide +kernel
theorem dX0_between_90 : decode cX0_between 90 = .ok (.iaload, 1) := by decide +kernel
theorem dX0_between_91 : decode cX0_between 91 = .ok (.iload 8, 2) := by decide +kernel
theorem dX0_between_93 : decode cX0_between 93 = .ok (.iand, 1) := by decide +kernel
theorem dX0_between_94 : decode cX0_between 94 = .ok (.aload_n 0, 1) := by decide +kernel
theorem dX0_between_95 : decode cX0_between 95 = .ok (.getfield 11, 3) := by decide +kernel
theorem dX0_between_98 : decode cX0_between 98 = .ok (.iload 6, 2) := by decide +kernel
theorem dX0_between_100 : decode cX0_between 100 = .ok (.iaload, 1) := by decide +kernel
theorem dX0_between_101 : decode cX0_between 101 = .ok (.iload 7, 2) := by decide +kernel
theorem dX0_between_103 : decode cX0_between 103 = .ok (.iand, 1) := by decide +kernel
theorem dX0_between_104 : decode cX0_between 104 = .ok (.ior, 1) := by decide +kernel
theorem dX0_between_105 : decode cX0_between 105 = .ok (.ifCond .eq 9, 3) := by decide +kernel
theorem dX0_between_108 : decode cX0_between 108 = .ok (.iload 9, 2) := by decide +kernel
theorem dX0_between_110 : decode cX0_between 110 = .ok (.iconst 2, 1) := by decide +kernel
theorem dX0_between_111 : decode cX0_between 111 = .ok (.ior, 1) := by decide +kernel
theorem dX0_between_112 : decode cX0_between 112 = .ok (.istore 9, 2) := by decide +kernel
theorem dX0_between_114 : decode cX0_between 114 = .ok (.aload_n 0, 1) := by decide +kernel
theorem dX0_between_115 : decode cX0_between 115 = .ok (.getfield 21, 3) := by decide +kernel
theorem dX0_between_118 : decode cX0_between 118 = .ok (.iload 5, 2) := by decide +kernel
theorem dX0_between_120 : decode cX0_between 120 = .ok (.iaload, 1) := by decide +kernel
theorem dX0_between_121 : decode cX0_between 121 = .ok (.iconst 1, 1) := by decide +kernel
theorem dX0_between_122 : decode cX0_between 122 = .ok (.if_icmp .ne 20, 3) := by decide +kernel
theorem dX0_between_125 : decode cX0_between 125 = .ok (.aload_n 0, 1) := by decide +kernel
theorem dX0_between_126 : decode cX0_between 126 = .ok (.getfield 21, 3) := by decide +kernel
theorem dX0_between_129 : decode cX0_between 129 = .ok (.iload 6, 2) := by decide +kernel
theorem dX0_between_131 : decode cX0_between 131 = .ok (.iaload, 1) := by decide +kernel
theorem dX0_between_132 : decode cX0_between 132 = .ok (.iconst 1, 1) := by decide +kernel
theorem dX0_between_133 : decode cX0_between 133 = .ok (.if_icmp .ne 9, 3) := by decide +kernel
theorem dX0_between_136 : decode cX0_between 136 = .ok (.iload 9, 2) := by decide +kernel
theorem dX0_between_138 : decode cX0_between 138 = .ok (.iconst 4, 1) := by decide +kernel
theorem dX0_between_139 : decode cX0_between 139 = .ok (.ior, 1) := by decide +kernel
theorem dX0_between_140 : decode cX0_between 140 = .ok (.istore 9, 2) := by decide +kernel
theorem dX0_between_142 : decode cX0_between 142 = .ok (.iload 9, 2) := by decide +kernel
theorem dX0_between_144 : decode cX0_between 144 = .ok (.ireturn, 1) := by decide +kernel
theorem dX0_free_0 : decode cX0_free 0 = .ok (.aload_n 0, 1) := by decide +kernel
theorem dX0_free_1 : decode cX0_free 1 = .ok (.aload_n 1, 1) := by decide +kernel
theorem dX0_free_2 : decode cX0_free 2 = .ok (.getfield 50, 3) := by decide +kernel
theorem dX0_free_5 : decode cX0_free 5 = .ok (.iload_n 2, 1) := by decide +kernel
theorem dX0_free_6 : decode cX0_free 6 = .ok (.iaload, 1) := by decide +kernel
theorem dX0_free_7 : decode cX0_free 7 = .ok (.aload_n 1, 1) := by decide +kernel
theorem dX0_free_8 : decode cX0_free 8 = .ok (.getfield 53, 3) := by decide +kernel
theorem dX0_free_11 : decode cX0_free 11 = .ok (.iload_n 2, 1) := by decide +kernel
theorem dX0_free_12 : decode cX0_free 12 = .ok (.iaload, 1) := by decide +kernel
theorem dX0_free_13 : decode cX0_free 13 = .ok (.aload_n 1, 1) := by decide +kernel
theorem dX0_free_14 : decode cX0_free 14 = .ok (.getfield 50, 3) := by decide +kernel
theorem dX0_free_17 : decode cX0_free 17 = .ok (.iload_n 3, 1) := by decide +kernel
theorem dX0_free_18 : decode cX0_free 18 = .ok (.iaload, 1) := by decide +kernel
theorem dX0_free_19 : decode cX0_free 19 = .ok (.aload_n 1, 1) := by decide +kernel
theorem dX0_free_20 : decode cX0_free 20 = .ok (.getfield 53, 3) := by decide +kernel
theorem dX0_free_23 : decode cX0_free 23 = .ok (.iload_n 3, 1) := by decide +kernel
theorem dX0_free_24 : decode cX0_free 24 = .ok (.iaload, 1) := by decide +kernel
theorem dX0_free_25 : decode cX0_free 25 = .ok (.invokevirtual 56, 3) := by decide +kernel
theorem dX0_free_28 : decode cX0_free 28 = .ok (.ifCond .ne 7, 3) := by decide +kernel
theorem dX0_free_31 : decode cX0_free 31 = .ok (.iconst 1, 1) := by decide +kernel
theorem dX0_free_32 : decode cX0_free 32 = .ok (.goto 4, 3) := by decide +kernel
theorem dX0_free_35 : decode cX0_free 35 = .ok (.iconst 0, 1) := by decide +kernel
theorem dX0_free_36 : decode cX0_free 36 = .ok (.ireturn, 1) := by decide +kernel
theorem dX0_findKnown_0 : decode cX0_findKnown 0 = .ok (.iconst 0, 1) := by decide +kernel
theorem dX0_findKnown_1 : decode cX0_findKnown 1 = .ok (.istore_n 2, 1) := by decide +kernel
theorem dX0_findKnown_2 : decode cX0_findKnown 2 = .ok (.iload_n 2, 1) := by decide +kernel
theorem dX0_findKnown_3 : decode cX0_findKnown 3 = .ok (.bipush 6, 2) := by decide +kernel
theorem dX0_findKnown_5 : decode cX0_findKnown 5 = .ok (.if_icmp .ge 31, 3) := by decide +kernel
theorem dX0_findKnown_8 : decode cX0_findKnown 8 = .ok (.aload_n 0, 1) := by decide +kernel
theorem dX0_findKnown_9 : decode cX0_findKnown 9 = .ok (.getfield 24, 3) := by decide +kernel
theorem dX0_findKnown_12 : decode cX0_findKnown 12 = .ok (.iload_n 2, 1) := by decide +kernel
theorem dX0_findKnown_13 : decode cX0_findKnown 13 = .ok (.aload_n 1, 1) := by decide +kernel
theorem dX0_findKnown_14 : decode cX0_findKnown 14 = .ok (.iload_n 2, 1) := by decide +kernel
theorem dX0_findKnown_15 : decode cX0_findKnown 15 = .ok (.aaload, 1) := by decide +kernel
theorem dX0_findKnown_16 : decode cX0_findKnown 16 = .ok (.getfield 60, 3) := by decide +kernel
theorem dX0_findKnown_19 : decode cX0_findKnown 19 = .ok (.bipush (-6), 2) := by decide +kernel
theorem dX0_findKnown_21 : decode cX0_findKnown 21 = .ok (.if_icmp .ne 7, 3) := by decide +kernel
theorem dX0_findKnown_24 : decode cX0_findKnown 24 = .ok (.iconst 1, 1) := by decide +kernel
theorem dX0_findKnown_25 : decode cX0_findKnown 25 = .ok (.goto 4, 3) := by decide +kernel
theorem dX0_findKnown_28 : decode cX0_findKnown 28 = .ok (.iconst 0, 1) := by decide +kernel
theorem dX0_findKnown_29 : decode cX0_findKnown 29 = .ok (.bastore, 1) := by decide +kernel
theorem dX0_findKnown_30 : decode cX0_findKnown 30 = .ok (.iinc 2 1, 3) := by decide +kernel
theorem dX0_findKnown_33 : decode cX0_findKnown 33 = .ok (.goto (-31), 3) := by decide +kernel
theorem dX0_findKnown_36 : decode cX0_findKnown 36 = .ok (.iconst 0, 1) := by decide +kernel
theorem dX0_findKnown_37 : decode cX0_findKnown 37 = .ok (.istore_n 2, 1) := by decide +kernel
theorem dX0_findKnown_38 : decode cX0_findKnown 38 = .ok (.iload_n 2, 1) := by decide +kernel
theorem dX0_findKnown_39 : decode cX0_findKnown 39 = .ok (.bipush 6, 2) := by decide +kernel
theorem dX0_findKnown_41 : decode cX0_findKnown 41 = .ok (.if_icmp .ge 56, 3) := by decide +kernel
theorem dX0_findKnown_44 : decode cX0_findKnown 44 = .ok (.iconst 0, 1) := by decide +kernel
theorem dX0_findKnown_45 : decode cX0_findKnown 45 = .ok (.istore_n 3, 1) := by decide +kernel
theorem dX0_findKnown_46 : decode cX0_findKnown 46 = .ok (.iload_n 3, 1) := by decide +kernel
theorem dX0_findKnown_47 : decode cX0_findKnown 47 = .ok (.bipush 6, 2) := by decide +kernel
theorem dX0_findKnown_49 : decode cX0_findKnown 49 = .ok (.if_icmp .ge 42, 3) := by decide +kernel
theorem dX0_findKnown_52 : decode cX0_findKnown 52 = .ok (.aload_n 0, 1) := by decide +kernel
theorem dX0_findKnown_53 : decode cX0_findKnown 53 = .ok (.getfield 24, 3) := by decide +kernel
theorem dX0_findKnown_56 : decode cX0_findKnown 56 = .ok (.iload_n 3, 1) := by decide +kernel
theorem dX0_findKnown_57 : decode cX0_findKnown 57 = .ok (.aload_n 0, 1) := by decide +kernel
theorem dX0_findKnown_58 : decode cX0_findKnown 58 = .ok (.getfield 24, 3) := by decide +kernel
theorem dX0_findKnown_61 : decode cX0_findKnown 61 = .ok (.iload_n 3, 1) := by decide +kernel
theorem dX0_findKnown_62 : decode cX0_findKnown 62 = .ok (.baload, 1) := by decide +kernel
theorem dX0_findKnown_63 : decode cX0_findKnown 63 = .ok (.ifCond .eq 20, 3) := by decide +kernel
theorem dX0_findKnown_66 : decode cX0_findKnown 66 = .ok (.aload_n 0, 1) := by decide +kernel
theorem dX0_findKnown_67 : decode cX0_findKnown 67 = .ok (.aload_n 1, 1) := by decide +kernel
theorem dX0_findKnown_68 : decode cX0_findKnown 68 = .ok (.iload_n 3, 1) := by decide +kernel
theorem dX0_findKnown_69 : decode cX0_findKnown 69 = .ok (.aaload, 1) := by decide +kernel
theorem dX0_findKnown_70 : decode cX0_findKnown 70 = .ok (.invokevirtual 65, 3) := by decide +kernel
theorem dX0_findKnown_73 : decode cX0_findKnown 73 = .ok (.invokevirtual 69, 3) := by decide +kernel
theorem dX0_findKnown_76 : decode cX0_findKnown 76 = .ok (.ifCond .eq 7, 3) := by decide +kernel
theorem dX0_findKnown_79 : decode cX0_findKnown 79 = .ok (.iconst 1, 1) := by decide +kernel
theorem dX0_findKnown_80 : decode cX0_findKnown 80 = .ok (.goto 4, 3) := by decide +kernel
theorem dX0_findKnown_83 : decode cX0_findKnown 83 = .ok (.iconst 0, 1) := by decide +kernel
theorem dX0_findKnown_84 : decode cX0_findKnown 84 = .ok (.bastore, 1) := by decide +kernel
theorem dX0_findKnown_85 : decode cX0_findKnown 85 = .ok (.iinc 3 1, 3) := by decide +kernel
theorem dX0_findKnown_88 : decode cX0_findKnown 88 = .ok (.goto (-42), 3) := by decide +kernel
theorem dX0_findKnown_91 : decode cX0_findKnown 91 = .ok (.iinc 2 1, 3) := by decide +kernel
theorem dX0_findKnown_94 : decode cX0_findKnown 94 = .ok (.goto (-56), 3) := by decide +kernel
theorem dX0_findKnown_97 : decode cX0_findKnown 97 = .ok (.return_, 1) := by decide +kernel
theorem dX0_knowsBits_0 : decode cX0_knowsBits 0 = .ok (.iconst 0, 1) := by decide +kernel
theorem dX0_knowsBits_1 : decode cX0_knowsBits 1 = .ok (.istore_n 2, 1) := by decide +kernel
theorem dX0_knowsBits_2 : decode cX0_knowsBits 2 = .ok (.iload_n 2, 1) := by decide +kernel
theorem dX0_knowsBits_3 : decode cX0_knowsBits 3 = .ok (.bipush 6, 2) := by decide +kernel
theorem dX0_knowsBits_5 : decode cX0_knowsBits 5 = .ok (.if_icmp .ge 29, 3) := by decide +kernel
theorem dX0_knowsBits_8 : decode cX0_knowsBits 8 = .ok (.iload_n 1, 1) := by decide +kernel
theorem dX0_knowsBits_9 : decode cX0_knowsBits 9 = .ok (.iload_n 2, 1) := by decide +kernel
theorem dX0_knowsBits_10 : decode cX0_knowsBits 10 = .ok (.ishr, 1) := by decide +kernel
theorem dX0_knowsBits_11 : decode cX0_knowsBits 11 = .ok (.iconst 1, 1) := by decide +kernel
theorem dX0_knowsBits_12 : decode cX0_knowsBits 12 = .ok (.iand, 1) := by decide +kernel
theorem dX0_knowsBits_13 : decode cX0_knowsBits 13 = .ok (.iconst 1, 1) := by decide +kernel
theorem dX0_knowsBits_14 : decode cX0_knowsBits 14 = .ok (.if_icmp .ne 14, 3) := by decide +kernel
theorem dX0_knowsBits_17 : decode cX0_knowsBits 17 = .ok (.aload_n 0, 1) := by decide +kernel
theorem dX0_knowsBits_18 : decode cX0_knowsBits 18 = .ok (.getfield 24, 3) := by decide +kernel
theorem dX0_knowsBits_21 : decode cX0_knowsBits 21 = .ok (.iload_n 2, 1) := by decide +kernel
theorem dX0_knowsBits_22 : decode cX0_knowsBits 22 = .ok (.baload, 1) := by decide +kernel
theorem dX0_knowsBits_23 : decode cX0_knowsBits 23 = .ok (.ifCond .ne 5, 3) := by decide +kernel
theorem dX0_knowsBits_26 : decode cX0_knowsBits 26 = .ok (.iconst 0, 1) := by decide +kernel
theorem dX0_knowsBits_27 : decode cX0_knowsBits 27 = .ok (.ireturn, 1) := by decide +kernel
theorem dX0_knowsBits_28 : decode cX0_knowsBits 28 = .ok (.iinc 2 1, 3) := by decide +kernel
theorem dX0_knowsBits_31 : decode cX0_knowsBits 31 = .ok (.goto (-29), 3) := by decide +kernel
theorem dX0_knowsBits_34 : decode cX0_knowsBits 34 = .ok (.iconst 1, 1) := by decide +kernel
theorem dX0_knowsBits_35 : decode cX0_knowsBits 35 = .ok (.ireturn, 1) := by decide +kernel
theorem dX0_startWithOwn_0 : decode cX0_startWithOwn 0 = .ok (.iload_n 2, 1) := by decide +kernel
theorem dX0_startWithOwn_1 : decode cX0_startWithOwn 1 = .ok (.bipush 12, 2) := by decide +kernel
theorem dX0_startWithOwn_3 : decode cX0_startWithOwn 3 = .ok (.imul, 1) := by decide +kernel
theorem dX0_startWithOwn_4 : decode cX0_startWithOwn 4 = .ok (.iload_n 3, 1) := by decide +kernel
theorem dX0_startWithOwn_5 : decode cX0_startWithOwn 5 = .ok (.iadd, 1) := by decide +kernel
theorem dX0_startWithOwn_6 : decode cX0_startWithOwn 6 = .ok (.istore 4, 2) := by decide +kernel
theorem dX0_startWithOwn_8 : decode cX0_startWithOwn 8 = .ok (.aload_n 0, 1) := by decide +kernel
theorem dX0_startWithOwn_9 : decode cX0_startWithOwn 9 = .ok (.getfield 11, 3) := by decide +kernel
theorem dX0_startWithOwn_12 : decode cX0_startWithOwn 12 = .ok (.iload 4, 2) := by decide +kernel
theorem dX0_startWithOwn_14 : decode cX0_startWithOwn 14 = .ok (.iconst 0, 1) := by decide +kernel
theorem dX0_startWithOwn_15 : decode cX0_startWithOwn 15 = .ok (.iastore, 1) := by decide +kernel
theorem dX0_startWithOwn_16 : decode cX0_startWithOwn 16 = .ok (.aload_n 0, 1) := by decide +kernel
theorem dX0_startWithOwn_17 : decode cX0_startWithOwn 17 = .ok (.getfield 15, 3) := by decide +kernel
theorem dX0_startWithOwn_20 : decode cX0_startWithOwn 20 = .ok (.iload 4, 2) := by decide +kernel
theorem dX0_startWithOwn_22 : decode cX0_startWithOwn 22 = .ok (.iconst 0, 1) := by decide +kernel
theorem dX0_startWithOwn_23 : decode cX0_startWithOwn 23 = .ok (.iastore, 1) := by decide +kernel
theorem dX0_startWithOwn_24 : decode cX0_startWithOwn 24 = .ok (.aload_n 0, 1) := by decide +kernel
theorem dX0_startWithOwn_25 : decode cX0_startWithOwn 25 = .ok (.getfield 18, 3) := by decide +kernel
theorem dX0_startWithOwn_28 : decode cX0_startWithOwn 28 = .ok (.iload 4, 2) := by decide +kernel
theorem dX0_startWithOwn_30 : decode cX0_startWithOwn 30 = .ok (.iconst 0, 1) := by decide +kernel
theorem dX0_startWithOwn_31 : decode cX0_startWithOwn 31 = .ok (.iastore, 1) := by decide +kernel
theorem dX0_startWithOwn_32 : decode cX0_startWithOwn 32 = .ok (.aload_n 0, 1) := by decide +kernel
theorem dX0_startWithOwn_33 : decode cX0_startWithOwn 33 = .ok (.getfield 21, 3) := by decide +kernel
theorem dX0_startWithOwn_36 : decode cX0_startWithOwn 36 = .ok (.iload 4, 2) := by decide +kernel
theorem dX0_startWithOwn_38 : decode cX0_startWithOwn 38 = .ok (.iconst 0, 1) := by decide +kernel
theorem dX0_startWithOwn_39 : decode cX0_startWithOwn 39 = .ok (.iastore, 1) := by decide +kernel
theorem dX0_startWithOwn_40 : decode cX0_startWithOwn 40 = .ok (.aload_n 0, 1) := by decide +kernel
theorem dX0_startWithOwn_41 : decode cX0_startWithOwn 41 = .ok (.getfield 24, 3) := by decide +kernel
theorem dX0_startWithOwn_44 : decode cX0_startWithOwn 44 = .ok (.iload_n 2, 1) := by decide +kernel
theorem dX0_startWithOwn_45 : decode cX0_startWithOwn 45 = .ok (.baload, 1) := by decide +kernel
theorem dX0_startWithOwn_46 : decode cX0_startWithOwn 46 = .ok (.ifCond .ne 4, 3) := by decide +kernel
theorem dX0_startWithOwn_49 : decode cX0_startWithOwn 49 = .ok (.return_, 1) := by decide +kernel
theorem dX0_startWithOwn_50 : decode cX0_startWithOwn 50 = .ok (.iconst 0, 1) := by decide +kernel
theorem dX0_startWithOwn_51 : decode cX0_startWithOwn 51 = .ok (.istore 5, 2) := by decide +kernel
theorem dX0_startWithOwn_53 : decode cX0_startWithOwn 53 = .ok (.iload 5, 2) := by decide +kernel
theorem dX0_startWithOwn_55 : decode cX0_startWithOwn 55 = .ok (.aload_n 1, 1) := by decide +kernel
theorem dX0_startWithOwn_56 : decode cX0_startWithOwn 56 = .ok (.getfield 73, 3) := by decide +kernel
theorem dX0_startWithOwn_59 : decode cX0_startWithOwn 59 = .ok (.if_icmp .ge 112, 3) := by decide +kernel
theorem dX0_startWithOwn_62 : decode cX0_startWithOwn 62 = .ok (.iconst 1, 1) := by decide +kernel
theorem dX0_startWithOwn_63 : decode cX0_startWithOwn 63 = .ok (.aload_n 1, 1) := by decide +kernel
theorem dX0_startWithOwn_64 : decode cX0_startWithOwn 64 = .ok (.getfield 76, 3) := by decide +kernel
theorem dX0_startWithOwn_67 : decode cX0_startWithOwn 67 = .ok (.iload 5, 2) := by decide +kernel
theorem dX0_startWithOwn_69 : decode cX0_startWithOwn 69 = .ok (.iaload, 1) := by decide +kernel
theorem dX0_startWithOwn_70 : decode cX0_startWithOwn 70 = .ok (.iload_n 3, 1) := by decide +kernel
theorem dX0_startWithOwn_71 : decode cX0_startWithOwn 71 = .ok (.invokestatic 79, 3) := by decide +kernel
theorem dX0_startWithOwn_74 : decode cX0_startWithOwn 74 = .ok (.ishl, 1) := by decide +kernel
theorem dX0_startWithOwn_75 : decode cX0_startWithOwn 75 = .ok (.istore 6, 2) := by decide +kernel
theorem dX0_startWithOwn_77 : decode cX0_startWithOwn 77 = .ok (.aload_n 1, 1) := by decide +kernel
theorem dX0_startWithOwn_78 : decode cX0_startWithOwn 78 = .ok (.getfield 83, 3) := by decide +kernel
theorem dX0_startWithOwn_81 : decode cX0_startWithOwn 81 = .ok (.iload 5, 2) := by decide +kernel
theorem dX0_startWithOwn_83 : decode cX0_startWithOwn 83 = .ok (.iaload, 1) := by decide +kernel
theorem dX0_startWithOwn_84 : decode cX0_startWithOwn 84 = .ok (.tableswitch 81 0 2 #[28, 43, 58], 28) := by decide +kernel
theorem dX0_startWithOwn_112 : decode cX0_startWithOwn 112 = .ok (.aload_n 0, 1) := by decide +kernel
theorem dX0_startWithOwn_113 : decode cX0_startWithOwn 113 = .ok (.getfield 15, 3) := by decide +kernel
theorem dX0_startWithOwn_116 : decode cX0_startWithOwn 116 = .ok (.iload 4, 2) := by decide +kernel
theorem dX0_startWithOwn_118 : decode cX0_startWithOwn 118 = .ok (.dup2, 1) := by decide +kernel
theorem dX0_startWithOwn_119 : decode cX0_startWithOwn 119 = .ok (.iaload, 1) := by decide +kernel
theorem dX0_startWithOwn_120 : decode cX0_startWithOwn 120 = .ok (.iload 6, 2) := by decide +kernel
theorem dX0_startWithOwn_122 : decode cX0_startWithOwn 122 = .ok (.ior, 1) := by decide +kernel
theorem dX0_startWithOwn_123 : decode cX0_startWithOwn 123 = .ok (.iastore, 1) := by decide +kernel
theorem dX0_startWithOwn_124 : decode cX0_startWithOwn 124 = .ok (.goto 41, 3) := by decide +kernel
theorem dX0_startWithOwn_127 : decode cX0_startWithOwn 127 = .ok (.aload_n 0, 1) := by decide +kernel
theorem dX0_startWithOwn_128 : decode cX0_startWithOwn 128 = .ok (.getfield 18, 3) := by decide +kernel
theorem dX0_startWithOwn_131 : decode cX0_startWithOwn 131 = .ok (.iload 4, 2) := by decide +kernel
theorem dX0_startWithOwn_133 : decode cX0_startWithOwn 133 = .ok (.dup2, 1) := by decide +kernel
theorem dX0_startWithOwn_134 : decode cX0_startWithOwn 134 = .ok (.iaload, 1) := by decide +kernel
theorem dX0_startWithOwn_135 : decode cX0_startWithOwn 135 = .ok (.iload 6, 2) := by decide +kernel
theorem dX0_startWithOwn_137 : decode cX0_startWithOwn 137 = .ok (.ior, 1) := by decide +kernel
theorem dX0_startWithOwn_138 : decode cX0_startWithOwn 138 = .ok (.iastore, 1) := by decide +kernel
theorem dX0_startWithOwn_139 : decode cX0_startWithOwn 139 = .ok (.goto 26, 3) := by decide +kernel
theorem dX0_startWithOwn_142 : decode cX0_startWithOwn 142 = .ok (.aload_n 0, 1) := by decide +kernel
theorem dX0_startWithOwn_143 : decode cX0_startWithOwn 143 = .ok (.getfield 11, 3) := by decide +kernel
theorem dX0_startWithOwn_146 : decode cX0_startWithOwn 146 = .ok (.iload 4, 2) := by decide +kernel
theorem dX0_startWithOwn_148 : decode cX0_startWithOwn 148 = .ok (.dup2, 1) := by decide +kernel
theorem dX0_startWithOwn_149 : decode cX0_startWithOwn 149 = .ok (.iaload, 1) := by decide +kernel
theorem dX0_startWithOwn_150 : decode cX0_startWithOwn 150 = .ok (.iload 6, 2) := by decide +kernel
theorem dX0_startWithOwn_152 : decode cX0_startWithOwn 152 = .ok (.ior, 1) := by decide +kernel
theorem dX0_startWithOwn_153 : decode cX0_startWithOwn 153 = .ok (.iastore, 1) := by decide +kernel
theorem dX0_startWithOwn_154 : decode cX0_startWithOwn 154 = .ok (.aload_n 0, 1) := by decide +kernel
theorem dX0_startWithOwn_155 : decode cX0_startWithOwn 155 = .ok (.getfield 21, 3) := by decide +kernel
theorem dX0_startWithOwn_158 : decode cX0_startWithOwn 158 = .ok (.iload 4, 2) := by decide +kernel
theorem dX0_startWithOwn_160 : decode cX0_startWithOwn 160 = .ok (.iconst 1, 1) := by decide +kernel
theorem dX0_startWithOwn_161 : decode cX0_startWithOwn 161 = .ok (.iastore, 1) := by decide +kernel
theorem dX0_startWithOwn_162 : decode cX0_startWithOwn 162 = .ok (.goto 3, 3) := by decide +kernel
theorem dX0_startWithOwn_165 : decode cX0_startWithOwn 165 = .ok (.iinc 5 1, 3) := by decide +kernel
theorem dX0_startWithOwn_168 : decode cX0_startWithOwn 168 = .ok (.goto (-115), 3) := by decide +kernel
theorem dX0_startWithOwn_171 : decode cX0_startWithOwn 171 = .ok (.iconst 0, 1) := by decide +kernel
theorem dX0_startWithOwn_172 : decode cX0_startWithOwn 172 = .ok (.istore 5, 2) := by decide +kernel
theorem dX0_startWithOwn_174 : decode cX0_startWithOwn 174 = .ok (.iload 5, 2) := by decide +kernel
theorem dX0_startWithOwn_176 : decode cX0_startWithOwn 176 = .ok (.aload_n 1, 1) := by decide +kernel
theorem dX0_startWithOwn_177 : decode cX0_startWithOwn 177 = .ok (.getfield 86, 3) := by decide +kernel
theorem dX0_startWithOwn_180 : decode cX0_startWithOwn 180 = .ok (.if_icmp .ge 43, 3) := by decide +kernel
theorem dX0_startWithOwn_183 : decode cX0_startWithOwn 183 = .ok (.aload_n 1, 1) := by decide +kernel
theorem dX0_startWithOwn_184 : decode cX0_startWithOwn 184 = .ok (.getfield 89, 3) := by decide +kernel
theorem dX0_startWithOwn_187 : decode cX0_startWithOwn 187 = .ok (.iload 5, 2) := by decide +kernel
theorem dX0_startWithOwn_189 : decode cX0_startWithOwn 189 = .ok (.iaload, 1) := by decide +kernel
theorem dX0_startWithOwn_190 : decode cX0_startWithOwn 190 = .ok (.iconst 2, 1) := by decide +kernel
theorem dX0_startWithOwn_191 : decode cX0_startWithOwn 191 = .ok (.if_icmp .ne 26, 3) := by decide +kernel
theorem dX0_startWithOwn_194 : decode cX0_startWithOwn 194 = .ok (.aload_n 0, 1) := by decide +kernel
theorem dX0_startWithOwn_195 : decode cX0_startWithOwn 195 = .ok (.getfield 11, 3) := by decide +kernel
theorem dX0_startWithOwn_198 : decode cX0_startWithOwn 198 = .ok (.iload 4, 2) := by decide +kernel
theorem dX0_startWithOwn_200 : decode cX0_startWithOwn 200 = .ok (.dup2, 1) := by decide +kernel
theorem dX0_startWithOwn_201 : decode cX0_startWithOwn 201 = .ok (.iaload, 1) := by decide +kernel
theorem dX0_startWithOwn_202 : decode cX0_startWithOwn 202 = .ok (.iconst 1, 1) := by decide +kernel
theorem dX0_startWithOwn_203 : decode cX0_startWithOwn 203 = .ok (.aload_n 1, 1) := by decide +kernel
theorem dX0_startWithOwn_204 : decode cX0_startWithOwn 204 = .ok (.getfield 92, 3) := by decide +kernel
theorem dX0_startWithOwn_207 : decode cX0_startWithOwn 207 = .ok (.iload 5, 2) := by decide +kernel
theorem dX0_startWithOwn_209 : decode cX0_startWithOwn 209 = .ok (.iaload, 1) := by decide +kernel
theorem dX0_startWithOwn_210 : decode cX0_startWithOwn 210 = .ok (.iload_n 3, 1) := by decide +kernel
theorem dX0_startWithOwn_211 : decode cX0_startWithOwn 211 = .ok (.invokestatic 79, 3) := by decide +kernel
theorem dX0_startWithOwn_214 : decode cX0_startWithOwn 214 = .ok (.ishl, 1) := by decide +kernel
theorem dX0_startWithOwn_215 : decode cX0_startWithOwn 215 = .ok (.ior, 1) := by decide +kernel
theorem dX0_startWithOwn_216 : decode cX0_startWithOwn 216 = .ok (.iastore, 1) := by decide +kernel
theorem dX0_startWithOwn_217 : decode cX0_startWithOwn 217 = .ok (.iinc 5 1, 3) := by decide +kernel
theorem dX0_startWithOwn_220 : decode cX0_startWithOwn 220 = .ok (.goto (-46), 3) := by decide +kernel
theorem dX0_startWithOwn_223 : decode cX0_startWithOwn 223 = .ok (.return_, 1) := by decide +kernel
theorem dX0_goRound_0 : decode cX0_goRound 0 = .ok (.iconst 0, 1) := by decide +kernel
theorem dX0_goRound_1 : decode cX0_goRound 1 = .ok (.istore_n 2, 1) := by decide +kernel
theorem dX0_goRound_2 : decode cX0_goRound 2 = .ok (.iconst 0, 1) := by decide +kernel
theorem dX0_goRound_3 : decode cX0_goRound 3 = .ok (.istore_n 3, 1) := by decide +kernel
theorem dX0_goRound_4 : decode cX0_goRound 4 = .ok (.iload_n 3, 1) := by decide +kernel
theorem dX0_goRound_5 : decode cX0_goRound 5 = .ok (.bipush 6, 2) := by decide +kernel
theorem dX0_goRound_7 : decode cX0_goRound 7 = .ok (.if_icmp .ge 72, 3) := by decide +kernel
theorem dX0_goRound_10 : decode cX0_goRound 10 = .ok (.aload_n 0, 1) := by decide +kernel
theorem dX0_goRound_11 : decode cX0_goRound 11 = .ok (.getfield 24, 3) := by decide +kernel
theorem dX0_goRound_14 : decode cX0_goRound 14 = .ok (.iload_n 3, 1) := by decide +kernel
theorem dX0_goRound_15 : decode cX0_goRound 15 = .ok (.baload, 1) := by decide +kernel
theorem dX0_goRound_16 : decode cX0_goRound 16 = .ok (.ifCond .eq 57, 3) := by decide +kernel
theorem dX0_goRound_19 : decode cX0_goRound 19 = .ok (.aload_n 1, 1) := by decide +kernel
theorem dX0_goRound_20 : decode cX0_goRound 20 = .ok (.iload_n 3, 1) := by decide +kernel
theorem dX0_goRound_21 : decode cX0_goRound 21 = .ok (.aaload, 1) := by decide +kernel
theorem dX0_goRound_22 : decode cX0_goRound 22 = .ok (.invokevirtual 65, 3) := by decide +kernel
theorem dX0_goRound_25 : decode cX0_goRound 25 = .ok (.ifCond .eq 48, 3) := by decide +kernel
theorem dX0_goRound_28 : decode cX0_goRound 28 = .ok (.iconst 0, 1) := by decide +kernel
theorem dX0_goRound_29 : decode cX0_goRound 29 = .ok (.istore 4, 2) := by decide +kernel
theorem dX0_goRound_31 : decode cX0_goRound 31 = .ok (.iload 4, 2) := by decide +kernel
theorem dX0_goRound_33 : decode cX0_goRound 33 = .ok (.bipush 12, 2) := by decide +kernel
theorem dX0_goRound_35 : decode cX0_goRound 35 = .ok (.if_icmp .ge 38, 3) := by decide +kernel
theorem dX0_goRound_38 : decode cX0_goRound 38 = .ok (.aload_n 0, 1) := by decide +kernel
theorem dX0_goRound_39 : decode cX0_goRound 39 = .ok (.aload_n 1, 1) := by decide +kernel
theorem dX0_goRound_40 : decode cX0_goRound 40 = .ok (.iload_n 3, 1) := by decide +kernel
theorem dX0_goRound_41 : decode cX0_goRound 41 = .ok (.aaload, 1) := by decide +kernel
theorem dX0_goRound_42 : decode cX0_goRound 42 = .ok (.iload_n 3, 1) := by decide +kernel
theorem dX0_goRound_43 : decode cX0_goRound 43 = .ok (.bipush 12, 2) := by decide +kernel
theorem dX0_goRound_45 : decode cX0_goRound 45 = .ok (.imul, 1) := by decide +kernel
theorem dX0_goRound_46 : decode cX0_goRound 46 = .ok (.iload 4, 2) := by decide +kernel
theorem dX0_goRound_48 : decode cX0_goRound 48 = .ok (.iadd, 1) := by decide +kernel
theorem dX0_goRound_49 : decode cX0_goRound 49 = .ok (.iload 4, 2) := by decide +kernel
theorem dX0_goRound_51 : decode cX0_goRound 51 = .ok (.invokevirtual 95, 3) := by decide +kernel
theorem dX0_goRound_54 : decode cX0_goRound 54 = .ok (.ifCond .ne 7, 3) := by decide +kernel
theorem dX0_goRound_57 : decode cX0_goRound 57 = .ok (.iload_n 2, 1) := by decide +kernel
theorem dX0_goRound_58 : decode cX0_goRound 58 = .ok (.ifCond .eq 7, 3) := by decide +kernel
theorem dX0_goRound_61 : decode cX0_goRound 61 = .ok (.iconst 1, 1) := by decide +kernel
theorem dX0_goRound_62 : decode cX0_goRound 62 = .ok (.goto 4, 3) := by decide +kernel
theorem dX0_goRound_65 : decode cX0_goRound 65 = .ok (.iconst 0, 1) := by decide +kernel
theorem dX0_goRound_66 : decode cX0_goRound 66 = .ok (.istore_n 2, 1) := by decide +kernel
theorem dX0_goRound_67 : decode cX0_goRound 67 = .ok (.iinc 4 1, 3) := by decide +kernel
theorem dX0_goRound_70 : decode cX0_goRound 70 = .ok (.goto (-39), 3) := by decide +kernel
theorem dX0_goRound_73 : decode cX0_goRound 73 = .ok (.iinc 3 1, 3) := by decide +kernel
theorem dX0_goRound_76 : decode cX0_goRound 76 = .ok (.goto (-72), 3) := by decide +kernel
theorem dX0_goRound_79 : decode cX0_goRound 79 = .ok (.iload_n 2, 1) := by decide +kernel
theorem dX0_goRound_80 : decode cX0_goRound 80 = .ok (.ireturn, 1) := by decide +kernel
theorem dX0_takeFromCallees_0 : decode cX0_takeFromCallees 0 = .ok (.iconst 0, 1) := by decide +kernel
theorem dX0_takeFromCallees_1 : decode cX0_takeFromCallees 1 = .ok (.istore 4, 2) := by decide +kernel
theorem dX0_takeFromCallees_3 : decode cX0_takeFromCallees 3 = .ok (.iconst 0, 1) := by decide +kernel
theorem dX0_takeFromCallees_4 : decode cX0_takeFromCallees 4 = .ok (.istore 5, 2) := by decide +kernel
theorem dX0_takeFromCallees_6 : decode cX0_takeFromCallees 6 = .ok (.iload 5, 2) := by decide +kernel
theorem dX0_takeFromCallees_8 : decode cX0_takeFromCallees 8 = .ok (.aload_n 1, 1) := by decide +kernel
theorem dX0_takeFromCallees_9 : decode cX0_takeFromCallees 9 = .ok (.getfield 73, 3) := by decide +kernel
theorem dX0_takeFromCallees_12 : decode cX0_takeFromCallees 12 = .ok (.if_icmp .ge 69, 3) := by decide +kernel
theorem dX0_takeFromCallees_15 : decode cX0_takeFromCallees 15 = .ok (.aload_n 1, 1) := by decide +kernel
theorem dX0_takeFromCallees_16 : decode cX0_takeFromCallees 16 = .ok (.getfield 83, 3) := by decide +kernel
theorem dX0_takeFromCallees_19 : decode cX0_takeFromCallees 19 = .ok (.iload 5, 2) := by decide +kernel
theorem dX0_takeFromCallees_21 : decode cX0_takeFromCallees 21 = .ok (.iaload, 1) := by decide +kernel
theorem dX0_takeFromCallees_22 : decode cX0_takeFromCallees 22 = .ok (.iconst 3, 1) := by decide +kernel
theorem dX0_takeFromCallees_23 : decode cX0_takeFromCallees 23 = .ok (.if_icmp .ne 52, 3) := by decide +kernel
theorem dX0_takeFromCallees_26 : decode cX0_takeFromCallees 26 = .ok (.aload_n 1, 1) := by decide +kernel
theorem dX0_takeFromCallees_27 : decode cX0_takeFromCallees 27 = .ok (.getfield 76, 3) := by decide +kernel
theorem dX0_takeFromCallees_30 : decode cX0_takeFromCallees 30 = .ok (.iload 5, 2) := by decide +kernel
theorem dX0_takeFromCallees_32 : decode cX0_takeFromCallees 32 = .ok (.iaload, 1) := by decide +kernel
theorem dX0_takeFromCallees_33 : decode cX0_takeFromCallees 33 = .ok (.iload_n 3, 1) := by decide +kernel
theorem dX0_takeFromCallees_34 : decode cX0_takeFromCallees 34 = .ok (.invokestatic 79, 3) := by decide +kernel
theorem dX0_takeFromCallees_37 : decode cX0_takeFromCallees 37 = .ok (.bipush 6, 2) := by decide +kernel
theorem dX0_takeFromCallees_39 : decode cX0_takeFromCallees 39 = .ok (.isub, 1) := by decide +kernel
theorem dX0_takeFromCallees_40 : decode cX0_takeFromCallees 40 = .ok (.istore 6, 2) := by decide +kernel
theorem dX0_takeFromCallees_42 : decode cX0_takeFromCallees 42 = .ok (.aload_n 0, 1) := by decide +kernel
theorem dX0_takeFromCallees_43 : decode cX0_takeFromCallees 43 = .ok (.iload_n 2, 1) := by decide +kernel
theorem dX0_takeFromCallees_44 : decode cX0_takeFromCallees 44 = .ok (.aload_n 1, 1) := by decide +kernel
theorem dX0_takeFromCallees_45 : decode cX0_takeFromCallees 45 = .ok (.getfield 99, 3) := by decide +kernel
theorem dX0_takeFromCallees_48 : decode cX0_takeFromCallees 48 = .ok (.iload 5, 2) := by decide +kernel
theorem dX0_takeFromCallees_50 : decode cX0_takeFromCallees 50 = .ok (.iaload, 1) := by decide +kernel
theorem dX0_takeFromCallees_51 : decode cX0_takeFromCallees 51 = .ok (.bipush 12, 2) := by decide +kernel
theorem dX0_takeFromCallees_53 : decode cX0_takeFromCallees 53 = .ok (.imul, 1) := by decide +kernel
theorem dX0_takeFromCallees_54 : decode cX0_takeFromCallees 54 = .ok (.iload 6, 2) := by decide +kernel
theorem dX0_takeFromCallees_56 : decode cX0_takeFromCallees 56 = .ok (.iadd, 1) := by decide +kernel
theorem dX0_takeFromCallees_57 : decode cX0_takeFromCallees 57 = .ok (.invokevirtual 102, 3) := by decide +kernel
theorem dX0_takeFromCallees_60 : decode cX0_takeFromCallees 60 = .ok (.ifCond .ne 8, 3) := by decide +kernel
theorem dX0_takeFromCallees_63 : decode cX0_takeFromCallees 63 = .ok (.iload 4, 2) := by decide +kernel
theorem dX0_takeFromCallees_65 : decode cX0_takeFromCallees 65 = .ok (.ifCond .eq 7, 3) := by decide +kernel
theorem dX0_takeFromCallees_68 : decode cX0_takeFromCallees 68 = .ok (.iconst 1, 1) := by decide +kernel
theorem dX0_takeFromCallees_69 : decode cX0_takeFromCallees 69 = .ok (.goto 4, 3) := by decide +kernel
theorem dX0_takeFromCallees_72 : decode cX0_takeFromCallees 72 = .ok (.iconst 0, 1) := by decide +kernel
theorem dX0_takeFromCallees_73 : decode cX0_takeFromCallees 73 = .ok (.istore 4, 2) := by decide +kernel
theorem dX0_takeFromCallees_75 : decode cX0_takeFromCallees 75 = .ok (.iinc 5 1, 3) := by decide +kernel
theorem dX0_takeFromCallees_78 : decode cX0_takeFromCallees 78 = .ok (.goto (-72), 3) := by decide +kernel
theorem dX0_takeFromCallees_81 : decode cX0_takeFromCallees 81 = .ok (.iload 4, 2) := by decide +kernel
theorem dX0_takeFromCallees_83 : decode cX0_takeFromCallees 83 = .ok (.ireturn, 1) := by decide +kernel
theorem dX0_take_0 : decode cX0_take 0 = .ok (.aload_n 0, 1) := by decide +kernel
theorem dX0_take_1 : decode cX0_take 1 = .ok (.getfield 11, 3) := by decide +kernel
theorem dX0_take_4 : decode cX0_take 4 = .ok (.iload_n 2, 1) := by decide +kernel
theorem dX0_take_5 : decode cX0_take 5 = .ok (.iaload, 1) := by decide +kernel
theorem dX0_take_6 : decode cX0_take 6 = .ok (.aload_n 0, 1) := by decide +kernel
theorem dX0_take_7 : decode cX0_take 7 = .ok (.getfield 11, 3) := by decide +kernel
theorem dX0_take_10 : decode cX0_take 10 = .ok (.iload_n 1, 1) := by decide +kernel
theorem dX0_take_11 : decode cX0_take 11 = .ok (.iaload, 1) := by decide +kernel
theorem dX0_take_12 : decode cX0_take 12 = .ok (.iconst (-1), 1) := by decide +kernel
theorem dX0_take_13 : decode cX0_take 13 = .ok (.ixor, 1) := by decide +kernel
theorem dX0_take_14 : decode cX0_take 14 = .ok (.iand, 1) := by decide +kernel
theorem dX0_take_15 : decode cX0_take 15 = .ok (.aload_n 0, 1) := by decide +kernel
theorem dX0_take_16 : decode cX0_take 16 = .ok (.getfield 15, 3) := by decide +kernel
theorem dX0_take_19 : decode cX0_take 19 = .ok (.iload_n 2, 1) := by decide +kernel
theorem dX0_take_20 : decode cX0_take 20 = .ok (.iaload, 1) := by decide +kernel
theorem dX0_take_21 : decode cX0_take 21 = .ok (.aload_n 0, 1) := by decide +kernel
theorem dX0_take_22 : decode cX0_take 22 = .ok (.getfield 15, 3) := by decide +kernel
theorem dX0_take_25 : decode cX0_take 25 = .ok (.iload_n 1, 1) := by decide +kernel
theorem dX0_take_26 : decode cX0_take 26 = .ok (.iaload, 1) := by decide +kernel
theorem dX0_take_27 : decode cX0_take 27 = .ok (.iconst (-1), 1) := by decide +kernel
theorem dX0_take_28 : decode cX0_take 28 = .ok (.ixor, 1) := by decide +kernel
theorem dX0_take_29 : decode cX0_take 29 = .ok (.iand, 1) := by decide +kernel
theorem dX0_take_30 : decode cX0_take 30 = .ok (.ior, 1) := by decide +kernel
theorem dX0_take_31 : decode cX0_take 31 = .ok (.aload_n 0, 1) := by decide +kernel
theorem dX0_take_32 : decode cX0_take 32 = .ok (.getfield 18, 3) := by decide +kernel
theorem dX0_take_35 : decode cX0_take 35 = .ok (.iload_n 2, 1) := by decide +kernel
theorem dX0_take_36 : decode cX0_take 36 = .ok (.iaload, 1) := by decide +kernel
theorem dX0_take_37 : decode cX0_take 37 = .ok (.aload_n 0, 1) := by decide +kernel
theorem dX0_take_38 : decode cX0_take 38 = .ok (.getfield 18, 3) := by decide +kernel
theorem dX0_take_41 : decode cX0_take 41 = .ok (.iload_n 1, 1) := by decide +kernel
theorem dX0_take_42 : decode cX0_take 42 = .ok (.iaload, 1) := by decide +kernel
theorem dX0_take_43 : decode cX0_take 43 = .ok (.iconst (-1), 1) := by decide +kernel
theorem dX0_take_44 : decode cX0_take 44 = .ok (.ixor, 1) := by decide +kernel
theorem dX0_take_45 : decode cX0_take 45 = .ok (.iand, 1) := by decide +kernel
theorem dX0_take_46 : decode cX0_take 46 = .ok (.ior, 1) := by decide +kernel
theorem dX0_take_47 : decode cX0_take 47 = .ok (.aload_n 0, 1) := by decide +kernel
theorem dX0_take_48 : decode cX0_take 48 = .ok (.getfield 21, 3) := by decide +kernel
theorem dX0_take_51 : decode cX0_take 51 = .ok (.iload_n 2, 1) := by decide +kernel
theorem dX0_take_52 : decode cX0_take 52 = .ok (.iaload, 1) := by decide +kernel
theorem dX0_take_53 : decode cX0_take 53 = .ok (.aload_n 0, 1) := by decide +kernel
theorem dX0_take_54 : decode cX0_take 54 = .ok (.getfield 21, 3) := by decide +kernel
theorem dX0_take_57 : decode cX0_take 57 = .ok (.iload_n 1, 1) := by decide +kernel
theorem dX0_take_58 : decode cX0_take 58 = .ok (.iaload, 1) := by decide +kernel
theorem dX0_take_59 : decode cX0_take 59 = .ok (.iconst (-1), 1) := by decide +kernel
theorem dX0_take_60 : decode cX0_take 60 = .ok (.ixor, 1) := by decide +kernel
theorem dX0_take_61 : decode cX0_take 61 = .ok (.iand, 1) := by decide +kernel
theorem dX0_take_62 : decode cX0_take 62 = .ok (.ior, 1) := by decide +kernel
theorem dX0_take_63 : decode cX0_take 63 = .ok (.istore_n 3, 1) := by decide +kernel
theorem dX0_take_64 : decode cX0_take 64 = .ok (.aload_n 0, 1) := by decide +kernel
theorem dX0_take_65 : decode cX0_take 65 = .ok (.getfield 11, 3) := by decide +kernel
theorem dX0_take_68 : decode cX0_take 68 = .ok (.iload_n 1, 1) := by decide +kernel
theorem dX0_take_69 : decode cX0_take 69 = .ok (.dup2, 1) := by decide +kernel
theorem dX0_take_70 : decode cX0_take 70 = .ok (.iaload, 1) := by decide +kernel
theorem dX0_take_71 : decode cX0_take 71 = .ok (.aload_n 0, 1) := by decide +kernel
theorem dX0_take_72 : decode cX0_take 72 = .ok (.getfield 11, 3) := by decide +kernel
theorem dX0_take_75 : decode cX0_take 75 = .ok (.iload_n 2, 1) := by decide +kernel
theorem dX0_take_76 : decode cX0_take 76 = .ok (.iaload, 1) := by decide +kernel
theorem dX0_take_77 : decode cX0_take 77 = .ok (.ior, 1) := by decide +kernel
theorem dX0_take_78 : decode cX0_take 78 = .ok (.iastore, 1) := by decide +kernel
theorem dX0_take_79 : decode cX0_take 79 = .ok (.aload_n 0, 1) := by decide +kernel
theorem dX0_take_80 : decode cX0_take 80 = .ok (.getfield 15, 3) := by decide +kernel
theorem dX0_take_83 : decode cX0_take 83 = .ok (.iload_n 1, 1) := by decide +kernel
theorem dX0_take_84 : decode cX0_take 84 = .ok (.dup2, 1) := by decide +kernel
theorem dX0_take_85 : decode cX0_take 85 = .ok (.iaload, 1) := by decide +kernel
theorem dX0_take_86 : decode cX0_take 86 = .ok (.aload_n 0, 1) := by decide +kernel
theorem dX0_take_87 : decode cX0_take 87 = .ok (.getfield 15, 3) := by decide +kernel
theorem dX0_take_90 : decode cX0_take 90 = .ok (.iload_n 2, 1) := by decide +kernel
theorem dX0_take_91 : decode cX0_take 91 = .ok (.iaload, 1) := by decide +kernel
theorem dX0_take_92 : decode cX0_take 92 = .ok (.ior, 1) := by decide +kernel
theorem dX0_take_93 : decode cX0_take 93 = .ok (.iastore, 1) := by decide +kernel
theorem dX0_take_94 : decode cX0_take 94 = .ok (.aload_n 0, 1) := by decide +kernel
theorem dX0_take_95 : decode cX0_take 95 = .ok (.getfield 18, 3) := by decide +kernel
theorem dX0_take_98 : decode cX0_take 98 = .ok (.iload_n 1, 1) := by decide +kernel
theorem dX0_take_99 : decode cX0_take 99 = .ok (.dup2, 1) := by decide +kernel
theorem dX0_take_100 : decode cX0_take 100 = .ok (.iaload, 1) := by decide +kernel
theorem dX0_take_101 : decode cX0_take 101 = .ok (.aload_n 0, 1) := by decide +kernel
theorem dX0_take_102 : decode cX0_take 102 = .ok (.getfield 18, 3) := by decide +kernel
theorem dX0_take_105 : decode cX0_take 105 = .ok (.iload_n 2, 1) := by decide +kernel
theorem dX0_take_106 : decode cX0_take 106 = .ok (.iaload, 1) := by decide +kernel
theorem dX0_take_107 : decode cX0_take 107 = .ok (.ior, 1) := by decide +kernel
theorem dX0_take_108 : decode cX0_take 108 = .ok (.iastore, 1) := by decide +kernel
theorem dX0_take_109 : decode cX0_take 109 = .ok (.aload_n 0, 1) := by decide +kernel
theorem dX0_take_110 : decode cX0_take 110 = .ok (.getfield 21, 3) := by decide +kernel
theorem dX0_take_113 : decode cX0_take 113 = .ok (.iload_n 1, 1) := by decide +kernel
theorem dX0_take_114 : decode cX0_take 114 = .ok (.dup2, 1) := by decide +kernel
theorem dX0_take_115 : decode cX0_take 115 = .ok (.iaload, 1) := by decide +kernel
theorem dX0_take_116 : decode cX0_take 116 = .ok (.aload_n 0, 1) := by decide +kernel
theorem dX0_take_117 : decode cX0_take 117 = .ok (.getfield 21, 3) := by decide +kernel
theorem dX0_take_120 : decode cX0_take 120 = .ok (.iload_n 2, 1) := by decide +kernel
theorem dX0_take_121 : decode cX0_take 121 = .ok (.iaload, 1) := by decide +kernel
theorem dX0_take_122 : decode cX0_take 122 = .ok (.ior, 1) := by decide +kernel
theorem dX0_take_123 : decode cX0_take 123 = .ok (.iastore, 1) := by decide +kernel
theorem dX0_take_124 : decode cX0_take 124 = .ok (.iload_n 3, 1) := by decide +kernel
theorem dX0_take_125 : decode cX0_take 125 = .ok (.ifCond .eq 7, 3) := by decide +kernel
theorem dX0_take_128 : decode cX0_take 128 = .ok (.iconst 1, 1) := by decide +kernel
theorem dX0_take_129 : decode cX0_take 129 = .ok (.goto 4, 3) := by decide +kernel
theorem dX0_take_132 : decode cX0_take 132 = .ok (.iconst 0, 1) := by decide +kernel
theorem dX0_take_133 : decode cX0_take 133 = .ok (.ireturn, 1) := by decide +kernel
theorem dX1_init_0 : decode cX1_init 0 = .ok (.aload_n 0, 1) := by decide +kernel
theorem dX1_init_1 : decode cX1_init 1 = .ok (.invokespecial 3, 3) := by decide +kernel
theorem dX1_init_4 : decode cX1_init 4 = .ok (.aload_n 0, 1) := by decide +kernel
theorem dX1_init_5 : decode cX1_init 5 = .ok (.bipush 18, 2) := by decide +kernel
theorem dX1_init_7 : decode cX1_init 7 = .ok (.newarray .int, 2) := by decide +kernel
theorem dX1_init_9 : decode cX1_init 9 = .ok (.putfield 9, 3) := by decide +kernel
theorem dX1_init_12 : decode cX1_init 12 = .ok (.aload_n 0, 1) := by decide +kernel
theorem dX1_init_13 : decode cX1_init 13 = .ok (.new 15, 3) := by decide +kernel
theorem dX1_init_16 : decode cX1_init 16 = .ok (.dup, 1) := by decide +kernel
theorem dX1_init_17 : decode cX1_init 17 = .ok (.invokespecial 17, 3) := by decide +kernel
theorem dX1_init_20 : decode cX1_init 20 = .ok (.putfield 18, 3) := by decide +kernel
theorem dX1_init_23 : decode cX1_init 23 = .ok (.aload_n 0, 1) := by decide +kernel
theorem dX1_init_24 : decode cX1_init 24 = .ok (.iconst 0, 1) := by decide +kernel
theorem dX1_init_25 : decode cX1_init 25 = .ok (.putfield 22, 3) := by decide +kernel
theorem dX1_init_28 : decode cX1_init 28 = .ok (.return_, 1) := by decide +kernel
theorem dX1_keep_0 : decode cX1_keep 0 = .ok (.aload_n 1, 1) := by decide +kernel
theorem dX1_keep_1 : decode cX1_keep 1 = .ok (.iconst 0, 1) := by decide +kernel
theorem dX1_keep_2 : decode cX1_keep 2 = .ok (.aload_n 0, 1) := by decide +kernel
theorem dX1_keep_3 : decode cX1_keep 3 = .ok (.getfield 9, 3) := by decide +kernel
theorem dX1_keep_6 : decode cX1_keep 6 = .ok (.iconst 0, 1) := by decide +kernel
theorem dX1_keep_7 : decode cX1_keep 7 = .ok (.bipush 18, 2) := by decide +kernel
theorem dX1_keep_9 : decode cX1_keep 9 = .ok (.invokestatic 26, 3) := by decide +kernel
theorem dX1_keep_12 : decode cX1_keep 12 = .ok (.aload_n 0, 1) := by decide +kernel
theorem dX1_keep_13 : decode cX1_keep 13 = .ok (.getfield 18, 3) := by decide +kernel
theorem dX1_keep_16 : decode cX1_keep 16 = .ok (.aload_n 2, 1) := by decide +kernel
theorem dX1_keep_17 : decode cX1_keep 17 = .ok (.invokevirtual 32, 3) := by decide +kernel
theorem dX1_keep_20 : decode cX1_keep 20 = .ok (.aload_n 0, 1) := by decide +kernel
theorem dX1_keep_21 : decode cX1_keep 21 = .ok (.iconst 1, 1) := by decide +kernel
theorem dX1_keep_22 : decode cX1_keep 22 = .ok (.putfield 22, 3) := by decide +kernel
theorem dX1_keep_25 : decode cX1_keep 25 = .ok (.return_, 1) := by decide +kernel
theorem dX2_init_0 : decode cX2_init 0 = .ok (.aload_n 0, 1) := by decide +kernel
theorem dX2_init_1 : decode cX2_init 1 = .ok (.invokespecial 3, 3) := by decide +kernel
theorem dX2_init_4 : decode cX2_init 4 = .ok (.aload_n 0, 1) := by decide +kernel
theorem dX2_init_5 : decode cX2_init 5 = .ok (.new 9, 3) := by decide +kernel
theorem dX2_init_8 : decode cX2_init 8 = .ok (.dup, 1) := by decide +kernel
theorem dX2_init_9 : decode cX2_init 9 = .ok (.invokespecial 11, 3) := by decide +kernel
theorem dX2_init_12 : decode cX2_init 12 = .ok (.putfield 12, 3) := by decide +kernel
theorem dX2_init_15 : decode cX2_init 15 = .ok (.aload_n 0, 1) := by decide +kernel
theorem dX2_init_16 : decode cX2_init 16 = .ok (.bipush 16, 2) := by decide +kernel
theorem dX2_init_18 : decode cX2_init 18 = .ok (.newarray .int, 2) := by decide +kernel
theorem dX2_init_20 : decode cX2_init 20 = .ok (.putfield 18, 3) := by decide +kernel
theorem dX2_init_23 : decode cX2_init 23 = .ok (.aload_n 0, 1) := by decide +kernel
theorem dX2_init_24 : decode cX2_init 24 = .ok (.bipush 16, 2) := by decide +kernel
theorem dX2_init_26 : decode cX2_init 26 = .ok (.newarray .int, 2) := by decide +kernel
theorem dX2_init_28 : decode cX2_init 28 = .ok (.putfield 22, 3) := by decide +kernel
theorem dX2_init_31 : decode cX2_init 31 = .ok (.aload_n 0, 1) := by decide +kernel
theorem dX2_init_32 : decode cX2_init 32 = .ok (.bipush 16, 2) := by decide +kernel
theorem dX2_init_34 : decode cX2_init 34 = .ok (.newarray .int, 2) := by decide +kernel
theorem dX2_init_36 : decode cX2_init 36 = .ok (.putfield 25, 3) := by decide +kernel
theorem dX2_init_39 : decode cX2_init 39 = .ok (.aload_n 0, 1) := by decide +kernel
theorem dX2_init_40 : decode cX2_init 40 = .ok (.iconst 0, 1) := by decide +kernel
theorem dX2_init_41 : decode cX2_init 41 = .ok (.putfield 28, 3) := by decide +kernel
theorem dX2_init_44 : decode cX2_init 44 = .ok (.aload_n 0, 1) := by decide +kernel
theorem dX2_init_45 : decode cX2_init 45 = .ok (.iconst 0, 1) := by decide +kernel
theorem dX2_init_46 : decode cX2_init 46 = .ok (.putfield 32, 3) := by decide +kernel
theorem dX2_init_49 : decode cX2_init 49 = .ok (.return_, 1) := by decide +kernel
theorem dX2_lay_0 : decode cX2_lay 0 = .ok (.aload_n 0, 1) := by decide +kernel
theorem dX2_lay_1 : decode cX2_lay 1 = .ok (.getfield 12, 3) := by decide +kernel
theorem dX2_lay_4 : decode cX2_lay 4 = .ok (.aload_n 1, 1) := by decide +kernel
theorem dX2_lay_5 : decode cX2_lay 5 = .ok (.invokevirtual 35, 3) := by decide +kernel
theorem dX2_lay_8 : decode cX2_lay 8 = .ok (.aload_n 0, 1) := by decide +kernel
theorem dX2_lay_9 : decode cX2_lay 9 = .ok (.iconst 0, 1) := by decide +kernel
theorem dX2_lay_10 : decode cX2_lay 10 = .ok (.putfield 28, 3) := by decide +kernel
theorem dX2_lay_13 : decode cX2_lay 13 = .ok (.aload_n 0, 1) := by decide +kernel
theorem dX2_lay_14 : decode cX2_lay 14 = .ok (.iconst 0, 1) := by decide +kernel
theorem dX2_lay_15 : decode cX2_lay 15 = .ok (.putfield 32, 3) := by decide +kernel
theorem dX2_lay_18 : decode cX2_lay 18 = .ok (.iconst 0, 1) := by decide +kernel
theorem dX2_lay_19 : decode cX2_lay 19 = .ok (.istore_n 3, 1) := by decide +kernel
theorem dX2_lay_20 : decode cX2_lay 20 = .ok (.iload_n 3, 1) := by decide +kernel
theorem dX2_lay_21 : decode cX2_lay 21 = .ok (.aload_n 0, 1) := by decide +kernel
theorem dX2_lay_22 : decode cX2_lay 22 = .ok (.getfield 12, 3) := by decide +kernel
theorem dX2_lay_25 : decode cX2_lay 25 = .ok (.getfield 39, 3) := by decide +kernel
theorem dX2_lay_28 : decode cX2_lay 28 = .ok (.if_icmp .ge 101, 3) := by decide +kernel
theorem dX2_lay_31 : decode cX2_lay 31 = .ok (.aload_n 0, 1) := by decide +kernel
theorem dX2_lay_32 : decode cX2_lay 32 = .ok (.getfield 18, 3) := by decide +kernel
theorem dX2_lay_35 : decode cX2_lay 35 = .ok (.iload_n 3, 1) := by decide +kernel
theorem dX2_lay_36 : decode cX2_lay 36 = .ok (.iconst 0, 1) := by decide +kernel
theorem dX2_lay_37 : decode cX2_lay 37 = .ok (.iastore, 1) := by decide +kernel
theorem dX2_lay_38 : decode cX2_lay 38 = .ok (.iconst 0, 1) := by decide +kernel
theorem dX2_lay_39 : decode cX2_lay 39 = .ok (.istore 4, 2) := by decide +kernel
