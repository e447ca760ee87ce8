theorem dX4_exchangeWithNext_40 : decode cX4_exchangeWithNext 40 = .ok (.iaload, 1) := by decide +kernel
theorem dX4_exchangeWithNext_41 : decode cX4_exchangeWithNext 41 = .ok (.iastore, 1) := by decide +kernel
theorem dX4_exchangeWithNext_42 : decode cX4_exchangeWithNext 42 = .ok (.aload_n 0, 1) := by decide +kernel
theorem dX4_exchangeWithNext_43 : decode cX4_exchangeWithNext 43 = .ok (.getfield 9, 3) := by decide +kernel
theorem dX4_exchangeWithNext_46 : decode cX4_exchangeWithNext 46 = .ok (.iload_n 1, 1) := by decide +kernel
theorem dX4_exchangeWithNext_47 : decode cX4_exchangeWithNext 47 = .ok (.iconst 1, 1) := by decide +kernel
theorem dX4_exchangeWithNext_48 : decode cX4_exchangeWithNext 48 = .ok (.iadd, 1) := by decide +kernel
theorem dX4_exchangeWithNext_49 : decode cX4_exchangeWithNext 49 = .ok (.iload_n 2, 1) := by decide +kernel
theorem dX4_exchangeWithNext_50 : decode cX4_exchangeWithNext 50 = .ok (.iastore, 1) := by decide +kernel
theorem dX4_exchangeWithNext_51 : decode cX4_exchangeWithNext 51 = .ok (.aload_n 0, 1) := by decide +kernel
theorem dX4_exchangeWithNext_52 : decode cX4_exchangeWithNext 52 = .ok (.getfield 15, 3) := by decide +kernel
theorem dX4_exchangeWithNext_55 : decode cX4_exchangeWithNext 55 = .ok (.iload_n 1, 1) := by decide +kernel
theorem dX4_exchangeWithNext_56 : decode cX4_exchangeWithNext 56 = .ok (.iconst 1, 1) := by decide +kernel
theorem dX4_exchangeWithNext_57 : decode cX4_exchangeWithNext 57 = .ok (.iadd, 1) := by decide +kernel
theorem dX4_exchangeWithNext_58 : decode cX4_exchangeWithNext 58 = .ok (.iload_n 3, 1) := by decide +kernel
theorem dX4_exchangeWithNext_59 : decode cX4_exchangeWithNext 59 = .ok (.iastore, 1) := by decide +kernel
theorem dX4_exchangeWithNext_60 : decode cX4_exchangeWithNext 60 = .ok (.return_, 1) := by decide +kernel
theorem dX4_copyFrom_0 : decode cX4_copyFrom 0 = .ok (.aload_n 1, 1) := by decide +kernel
theorem dX4_copyFrom_1 : decode cX4_copyFrom 1 = .ok (.getfield 9, 3) := by decide +kernel
theorem dX4_copyFrom_4 : decode cX4_copyFrom 4 = .ok (.iconst 0, 1) := by decide +kernel
theorem dX4_copyFrom_5 : decode cX4_copyFrom 5 = .ok (.aload_n 0, 1) := by decide +kernel
theorem dX4_copyFrom_6 : decode cX4_copyFrom 6 = .ok (.getfield 9, 3) := by decide +kernel
theorem dX4_copyFrom_9 : decode cX4_copyFrom 9 = .ok (.iconst 0, 1) := by decide +kernel
theorem dX4_copyFrom_10 : decode cX4_copyFrom 10 = .ok (.bipush 16, 2) := by decide +kernel
theorem dX4_copyFrom_12 : decode cX4_copyFrom 12 = .ok (.invokestatic 22, 3) := by decide +kernel
theorem dX4_copyFrom_15 : decode cX4_copyFrom 15 = .ok (.aload_n 1, 1) := by decide +kernel
theorem dX4_copyFrom_16 : decode cX4_copyFrom 16 = .ok (.getfield 15, 3) := by decide +kernel
theorem dX4_copyFrom_19 : decode cX4_copyFrom 19 = .ok (.iconst 0, 1) := by decide +kernel
theorem dX4_copyFrom_20 : decode cX4_copyFrom 20 = .ok (.aload_n 0, 1) := by decide +kernel
theorem dX4_copyFrom_21 : decode cX4_copyFrom 21 = .ok (.getfield 15, 3) := by decide +kernel
theorem dX4_copyFrom_24 : decode cX4_copyFrom 24 = .ok (.iconst 0, 1) := by decide +kernel
theorem dX4_copyFrom_25 : decode cX4_copyFrom 25 = .ok (.bipush 16, 2) := by decide +kernel
theorem dX4_copyFrom_27 : decode cX4_copyFrom 27 = .ok (.invokestatic 22, 3) := by decide +kernel
theorem dX4_copyFrom_30 : decode cX4_copyFrom 30 = .ok (.aload_n 0, 1) := by decide +kernel
theorem dX4_copyFrom_31 : decode cX4_copyFrom 31 = .ok (.aload_n 1, 1) := by decide +kernel
theorem dX4_copyFrom_32 : decode cX4_copyFrom 32 = .ok (.getfield 18, 3) := by decide +kernel
theorem dX4_copyFrom_35 : decode cX4_copyFrom 35 = .ok (.putfield 18, 3) := by decide +kernel
theorem dX4_copyFrom_38 : decode cX4_copyFrom 38 = .ok (.return_, 1) := by decide +kernel
theorem dX5_init_0 : decode cX5_init 0 = .ok (.aload_n 0, 1) := by decide +kernel
theorem dX5_init_1 : decode cX5_init 1 = .ok (.invokespecial 3, 3) := by decide +kernel
theorem dX5_init_4 : decode cX5_init 4 = .ok (.aload_n 0, 1) := by decide +kernel
theorem dX5_init_5 : decode cX5_init 5 = .ok (.bipush 30, 2) := by decide +kernel
theorem dX5_init_7 : decode cX5_init 7 = .ok (.newarray .int, 2) := by decide +kernel
theorem dX5_init_9 : decode cX5_init 9 = .ok (.putfield 9, 3) := by decide +kernel
theorem dX5_init_12 : decode cX5_init 12 = .ok (.aload_n 0, 1) := by decide +kernel
theorem dX5_init_13 : decode cX5_init 13 = .ok (.iconst 0, 1) := by decide +kernel
theorem dX5_init_14 : decode cX5_init 14 = .ok (.putfield 15, 3) := by decide +kernel
theorem dX5_init_17 : decode cX5_init 17 = .ok (.aload_n 0, 1) := by decide +kernel
theorem dX5_init_18 : decode cX5_init 18 = .ok (.bipush (-6), 2) := by decide +kernel
theorem dX5_init_20 : decode cX5_init 20 = .ok (.putfield 19, 3) := by decide +kernel
theorem dX5_init_23 : decode cX5_init 23 = .ok (.aload_n 0, 1) := by decide +kernel
theorem dX5_init_24 : decode cX5_init 24 = .ok (.bipush 15, 2) := by decide +kernel
theorem dX5_init_26 : decode cX5_init 26 = .ok (.newarray .int, 2) := by decide +kernel
theorem dX5_init_28 : decode cX5_init 28 = .ok (.putfield 22, 3) := by decide +kernel
theorem dX5_init_31 : decode cX5_init 31 = .ok (.aload_n 0, 1) := by decide +kernel
theorem dX5_init_32 : decode cX5_init 32 = .ok (.bipush 15, 2) := by decide +kernel
theorem dX5_init_34 : decode cX5_init 34 = .ok (.newarray .int, 2) := by decide +kernel
theorem dX5_init_36 : decode cX5_init 36 = .ok (.putfield 25, 3) := by decide +kernel
theorem dX5_init_39 : decode cX5_init 39 = .ok (.aload_n 0, 1) := by decide +kernel
theorem dX5_init_40 : decode cX5_init 40 = .ok (.bipush 15, 2) := by decide +kernel
theorem dX5_init_42 : decode cX5_init 42 = .ok (.newarray .int, 2) := by decide +kernel
theorem dX5_init_44 : decode cX5_init 44 = .ok (.putfield 28, 3) := by decide +kernel
theorem dX5_init_47 : decode cX5_init 47 = .ok (.aload_n 0, 1) := by decide +kernel
theorem dX5_init_48 : decode cX5_init 48 = .ok (.bipush 15, 2) := by decide +kernel
theorem dX5_init_50 : decode cX5_init 50 = .ok (.newarray .int, 2) := by decide +kernel
theorem dX5_init_52 : decode cX5_init 52 = .ok (.putfield 31, 3) := by decide +kernel
theorem dX5_init_55 : decode cX5_init 55 = .ok (.aload_n 0, 1) := by decide +kernel
theorem dX5_init_56 : decode cX5_init 56 = .ok (.iconst 0, 1) := by decide +kernel
theorem dX5_init_57 : decode cX5_init 57 = .ok (.putfield 34, 3) := by decide +kernel
theorem dX5_init_60 : decode cX5_init 60 = .ok (.aload_n 0, 1) := by decide +kernel
theorem dX5_init_61 : decode cX5_init 61 = .ok (.bipush 30, 2) := by decide +kernel
theorem dX5_init_63 : decode cX5_init 63 = .ok (.newarray .int, 2) := by decide +kernel
theorem dX5_init_65 : decode cX5_init 65 = .ok (.putfield 37, 3) := by decide +kernel
theorem dX5_init_68 : decode cX5_init 68 = .ok (.aload_n 0, 1) := by decide +kernel
theorem dX5_init_69 : decode cX5_init 69 = .ok (.bipush 30, 2) := by decide +kernel
theorem dX5_init_71 : decode cX5_init 71 = .ok (.newarray .int, 2) := by decide +kernel
theorem dX5_init_73 : decode cX5_init 73 = .ok (.putfield 40, 3) := by decide +kernel
theorem dX5_init_76 : decode cX5_init 76 = .ok (.aload_n 0, 1) := by decide +kernel
theorem dX5_init_77 : decode cX5_init 77 = .ok (.iconst 0, 1) := by decide +kernel
theorem dX5_init_78 : decode cX5_init 78 = .ok (.putfield 43, 3) := by decide +kernel
theorem dX5_init_81 : decode cX5_init 81 = .ok (.aload_n 0, 1) := by decide +kernel
theorem dX5_init_82 : decode cX5_init 82 = .ok (.iconst 0, 1) := by decide +kernel
theorem dX5_init_83 : decode cX5_init 83 = .ok (.putfield 46, 3) := by decide +kernel
theorem dX5_init_86 : decode cX5_init 86 = .ok (.return_, 1) := by decide +kernel
theorem dX5_append_0 : decode cX5_append 0 = .ok (.aload_n 0, 1) := by decide +kernel
theorem dX5_append_1 : decode cX5_append 1 = .ok (.getfield 15, 3) := by decide +kernel
theorem dX5_append_4 : decode cX5_append 4 = .ok (.bipush 30, 2) := by decide +kernel
theorem dX5_append_6 : decode cX5_append 6 = .ok (.if_icmp .ge 27, 3) := by decide +kernel
theorem dX5_append_9 : decode cX5_append 9 = .ok (.aload_n 0, 1) := by decide +kernel
theorem dX5_append_10 : decode cX5_append 10 = .ok (.getfield 9, 3) := by decide +kernel
theorem dX5_append_13 : decode cX5_append 13 = .ok (.aload_n 0, 1) := by decide +kernel
theorem dX5_append_14 : decode cX5_append 14 = .ok (.getfield 15, 3) := by decide +kernel
theorem dX5_append_17 : decode cX5_append 17 = .ok (.iload_n 1, 1) := by decide +kernel
theorem dX5_append_18 : decode cX5_append 18 = .ok (.iastore, 1) := by decide +kernel
theorem dX5_append_19 : decode cX5_append 19 = .ok (.aload_n 0, 1) := by decide +kernel
theorem dX5_append_20 : decode cX5_append 20 = .ok (.dup, 1) := by decide +kernel
theorem dX5_append_21 : decode cX5_append 21 = .ok (.getfield 15, 3) := by decide +kernel
theorem dX5_append_24 : decode cX5_append 24 = .ok (.iconst 1, 1) := by decide +kernel
theorem dX5_append_25 : decode cX5_append 25 = .ok (.iadd, 1) := by decide +kernel
theorem dX5_append_26 : decode cX5_append 26 = .ok (.putfield 15, 3) := by decide +kernel
theorem dX5_append_29 : decode cX5_append 29 = .ok (.aload_n 0, 1) := by decide +kernel
theorem dX5_append_30 : decode cX5_append 30 = .ok (.invokevirtual 49, 3) := by decide +kernel
theorem dX5_append_33 : decode cX5_append 33 = .ok (.return_, 1) := by decide +kernel
theorem dX5_empty_0 : decode cX5_empty 0 = .ok (.aload_n 0, 1) := by decide +kernel
theorem dX5_empty_1 : decode cX5_empty 1 = .ok (.iconst 0, 1) := by decide +kernel
theorem dX5_empty_2 : decode cX5_empty 2 = .ok (.putfield 15, 3) := by decide +kernel
theorem dX5_empty_5 : decode cX5_empty 5 = .ok (.aload_n 0, 1) := by decide +kernel
theorem dX5_empty_6 : decode cX5_empty 6 = .ok (.invokevirtual 49, 3) := by decide +kernel
theorem dX5_empty_9 : decode cX5_empty 9 = .ok (.return_, 1) := by decide +kernel
theorem dX5_calleeBits_0 : decode cX5_calleeBits 0 = .ok (.iconst 0, 1) := by decide +kernel
theorem dX5_calleeBits_1 : decode cX5_calleeBits 1 = .ok (.istore_n 1, 1) := by decide +kernel
theorem dX5_calleeBits_2 : decode cX5_calleeBits 2 = .ok (.iconst 0, 1) := by decide +kernel
theorem dX5_calleeBits_3 : decode cX5_calleeBits 3 = .ok (.istore_n 2, 1) := by decide +kernel
theorem dX5_calleeBits_4 : decode cX5_calleeBits 4 = .ok (.iload_n 2, 1) := by decide +kernel
theorem dX5_calleeBits_5 : decode cX5_calleeBits 5 = .ok (.aload_n 0, 1) := by decide +kernel
theorem dX5_calleeBits_6 : decode cX5_calleeBits 6 = .ok (.getfield 34, 3) := by decide +kernel
theorem dX5_calleeBits_9 : decode cX5_calleeBits 9 = .ok (.if_icmp .ge 30, 3) := by decide +kernel
theorem dX5_calleeBits_12 : decode cX5_calleeBits 12 = .ok (.aload_n 0, 1) := by decide +kernel
theorem dX5_calleeBits_13 : decode cX5_calleeBits 13 = .ok (.getfield 22, 3) := by decide +kernel
theorem dX5_calleeBits_16 : decode cX5_calleeBits 16 = .ok (.iload_n 2, 1) := by decide +kernel
theorem dX5_calleeBits_17 : decode cX5_calleeBits 17 = .ok (.iaload, 1) := by decide +kernel
theorem dX5_calleeBits_18 : decode cX5_calleeBits 18 = .ok (.iconst 3, 1) := by decide +kernel
theorem dX5_calleeBits_19 : decode cX5_calleeBits 19 = .ok (.if_icmp .ne 14, 3) := by decide +kernel
theorem dX5_calleeBits_22 : decode cX5_calleeBits 22 = .ok (.iload_n 1, 1) := by decide +kernel
theorem dX5_calleeBits_23 : decode cX5_calleeBits 23 = .ok (.iconst 1, 1) := by decide +kernel
theorem dX5_calleeBits_24 : decode cX5_calleeBits 24 = .ok (.aload_n 0, 1) := by decide +kernel
theorem dX5_calleeBits_25 : decode cX5_calleeBits 25 = .ok (.getfield 28, 3) := by decide +kernel
theorem dX5_calleeBits_28 : decode cX5_calleeBits 28 = .ok (.iload_n 2, 1) := by decide +kernel
theorem dX5_calleeBits_29 : decode cX5_calleeBits 29 = .ok (.iaload, 1) := by decide +kernel
theorem dX5_calleeBits_30 : decode cX5_calleeBits 30 = .ok (.ishl, 1) := by decide +kernel
theorem dX5_calleeBits_31 : decode cX5_calleeBits 31 = .ok (.ior, 1) := by decide +kernel
theorem dX5_calleeBits_32 : decode cX5_calleeBits 32 = .ok (.istore_n 1, 1) := by decide +kernel
theorem dX5_calleeBits_33 : decode cX5_calleeBits 33 = .ok (.iinc 2 1, 3) := by decide +kernel
theorem dX5_calleeBits_36 : decode cX5_calleeBits 36 = .ok (.goto (-32), 3) := by decide +kernel
theorem dX5_calleeBits_39 : decode cX5_calleeBits 39 = .ok (.iload_n 1, 1) := by decide +kernel
theorem dX5_calleeBits_40 : decode cX5_calleeBits 40 = .ok (.ireturn, 1) := by decide +kernel
theorem dX5_leafStart_0 : decode cX5_leafStart 0 = .ok (.iload_n 1, 1) := by decide +kernel
theorem dX5_leafStart_1 : decode cX5_leafStart 1 = .ok (.ifCond .ne 7, 3) := by decide +kernel
theorem dX5_leafStart_4 : decode cX5_leafStart 4 = .ok (.iconst 0, 1) := by decide +kernel
theorem dX5_leafStart_5 : decode cX5_leafStart 5 = .ok (.goto 11, 3) := by decide +kernel
theorem dX5_leafStart_8 : decode cX5_leafStart 8 = .ok (.aload_n 0, 1) := by decide +kernel
theorem dX5_leafStart_9 : decode cX5_leafStart 9 = .ok (.getfield 31, 3) := by decide +kernel
theorem dX5_leafStart_12 : decode cX5_leafStart 12 = .ok (.iload_n 1, 1) := by decide +kernel
theorem dX5_leafStart_13 : decode cX5_leafStart 13 = .ok (.iconst 1, 1) := by decide +kernel
theorem dX5_leafStart_14 : decode cX5_leafStart 14 = .ok (.isub, 1) := by decide +kernel
theorem dX5_leafStart_15 : decode cX5_leafStart 15 = .ok (.iaload, 1) := by decide +kernel
theorem dX5_leafStart_16 : decode cX5_leafStart 16 = .ok (.ireturn, 1) := by decide +kernel
theorem dX5_readText_0 : decode cX5_readText 0 = .ok (.aload_n 0, 1) := by decide +kernel
theorem dX5_readText_1 : decode cX5_readText 1 = .ok (.iconst 0, 1) := by decide +kernel
theorem dX5_readText_2 : decode cX5_readText 2 = .ok (.putfield 46, 3) := by decide +kernel
theorem dX5_readText_5 : decode cX5_readText 5 = .ok (.aload_n 0, 1) := by decide +kernel
theorem dX5_readText_6 : decode cX5_readText 6 = .ok (.iconst 0, 1) := by decide +kernel
theorem dX5_readText_7 : decode cX5_readText 7 = .ok (.putfield 34, 3) := by decide +kernel
theorem dX5_readText_10 : decode cX5_readText 10 = .ok (.aload_n 0, 1) := by decide +kernel
theorem dX5_readText_11 : decode cX5_readText 11 = .ok (.iconst 0, 1) := by decide +kernel
theorem dX5_readText_12 : decode cX5_readText 12 = .ok (.putfield 43, 3) := by decide +kernel
theorem dX5_readText_15 : decode cX5_readText 15 = .ok (.iconst 1, 1) := by decide +kernel
theorem dX5_readText_16 : decode cX5_readText 16 = .ok (.istore_n 1, 1) := by decide +kernel
theorem dX5_readText_17 : decode cX5_readText 17 = .ok (.iconst 0, 1) := by decide +kernel
theorem dX5_readText_18 : decode cX5_readText 18 = .ok (.istore_n 2, 1) := by decide +kernel
theorem dX5_readText_19 : decode cX5_readText 19 = .ok (.iload_n 2, 1) := by decide +kernel
theorem dX5_readText_20 : decode cX5_readText 20 = .ok (.bipush 15, 2) := by decide +kernel
theorem dX5_readText_22 : decode cX5_readText 22 = .ok (.if_icmp .ge 30, 3) := by decide +kernel
theorem dX5_readText_25 : decode cX5_readText 25 = .ok (.iload_n 1, 1) := by decide +kernel
theorem dX5_readText_26 : decode cX5_readText 26 = .ok (.ifCond .eq 26, 3) := by decide +kernel
theorem dX5_readText_29 : decode cX5_readText 29 = .ok (.aload_n 0, 1) := by decide +kernel
theorem dX5_readText_30 : decode cX5_readText 30 = .ok (.getfield 46, 3) := by decide +kernel
theorem dX5_readText_33 : decode cX5_readText 33 = .ok (.aload_n 0, 1) := by decide +kernel
theorem dX5_readText_34 : decode cX5_readText 34 = .ok (.getfield 15, 3) := by decide +kernel
theorem dX5_readText_37 : decode cX5_readText 37 = .ok (.if_icmp .ge 15, 3) := by decide +kernel
theorem dX5_readText_40 : decode cX5_readText 40 = .ok (.aload_n 0, 1) := by decide +kernel
theorem dX5_readText_41 : decode cX5_readText 41 = .ok (.iload_n 2, 1) := by decide +kernel
theorem dX5_readText_42 : decode cX5_readText 42 = .ok (.invokevirtual 52, 3) := by decide +kernel
theorem dX5_readText_45 : decode cX5_readText 45 = .ok (.istore_n 1, 1) := by decide +kernel
theorem dX5_readText_46 : decode cX5_readText 46 = .ok (.iinc 2 1, 3) := by decide +kernel
theorem dX5_readText_49 : decode cX5_readText 49 = .ok (.goto (-30), 3) := by decide +kernel
theorem dX5_readText_52 : decode cX5_readText 52 = .ok (.aload_n 0, 1) := by decide +kernel
theorem dX5_readText_53 : decode cX5_readText 53 = .ok (.iload_n 1, 1) := by decide +kernel
theorem dX5_readText_54 : decode cX5_readText 54 = .ok (.ifCond .eq 8, 3) := by decide +kernel
theorem dX5_readText_57 : decode cX5_readText 57 = .ok (.bipush (-6), 2) := by decide +kernel
theorem dX5_readText_59 : decode cX5_readText 59 = .ok (.goto 7, 3) := by decide +kernel
theorem dX5_readText_62 : decode cX5_readText 62 = .ok (.aload_n 0, 1) := by decide +kernel
theorem dX5_readText_63 : decode cX5_readText 63 = .ok (.getfield 46, 3) := by decide +kernel
theorem dX5_readText_66 : decode cX5_readText 66 = .ok (.putfield 19, 3) := by decide +kernel
theorem dX5_readText_69 : decode cX5_readText 69 = .ok (.return_, 1) := by decide +kernel
theorem dX5_readStatement_0 : decode cX5_readStatement 0 = .ok (.aload_n 0, 1) := by decide +kernel
theorem dX5_readStatement_1 : decode cX5_readStatement 1 = .ok (.getfield 9, 3) := by decide +kernel
theorem dX5_readStatement_4 : decode cX5_readStatement 4 = .ok (.aload_n 0, 1) := by decide +kernel
theorem dX5_readStatement_5 : decode cX5_readStatement 5 = .ok (.getfield 46, 3) := by decide +kernel
theorem dX5_readStatement_8 : decode cX5_readStatement 8 = .ok (.iaload, 1) := by decide +kernel
theorem dX5_readStatement_9 : decode cX5_readStatement 9 = .ok (.istore_n 2, 1) := by decide +kernel
theorem dX5_readStatement_10 : decode cX5_readStatement 10 = .ok (.iload_n 2, 1) := by decide +kernel
theorem dX5_readStatement_11 : decode cX5_readStatement 11 = .ok (.bipush 61, 2) := by decide +kernel
theorem dX5_readStatement_13 : decode cX5_readStatement 13 = .ok (.if_icmp .eq 33, 3) := by decide +kernel
theorem dX5_readStatement_16 : decode cX5_readStatement 16 = .ok (.iload_n 2, 1) := by decide +kernel
theorem dX5_readStatement_17 : decode cX5_readStatement 17 = .ok (.bipush 43, 2) := by decide +kernel
theorem dX5_readStatement_19 : decode cX5_readStatement 19 = .ok (.if_icmp .eq 27, 3) := by decide +kernel
theorem dX5_readStatement_22 : decode cX5_readStatement 22 = .ok (.iload_n 2, 1) := by decide +kernel
theorem dX5_readStatement_23 : decode cX5_readStatement 23 = .ok (.bipush 35, 2) := by decide +kernel
theorem dX5_readStatement_25 : decode cX5_readStatement 25 = .ok (.if_icmp .eq 21, 3) := by decide +kernel
theorem dX5_readStatement_28 : decode cX5_readStatement 28 = .ok (.iload_n 2, 1) := by decide +kernel
theorem dX5_readStatement_29 : decode cX5_readStatement 29 = .ok (.bipush 94, 2) := by decide +kernel
theorem dX5_readStatement_31 : decode cX5_readStatement 31 = .ok (.if_icmp .eq 15, 3) := by decide +kernel
theorem dX5_readStatement_34 : decode cX5_readStatement 34 = .ok (.iload_n 2, 1) := by decide +kernel
theorem dX5_readStatement_35 : decode cX5_readStatement 35 = .ok (.bipush 63, 2) := by decide +kernel
theorem dX5_readStatement_37 : decode cX5_readStatement 37 = .ok (.if_icmp .eq 9, 3) := by decide +kernel
theorem dX5_readStatement_40 : decode cX5_readStatement 40 = .ok (.iload_n 2, 1) := by decide +kernel
theorem dX5_readStatement_41 : decode cX5_readStatement 41 = .ok (.bipush 99, 2) := by decide +kernel
theorem dX5_readStatement_43 : decode cX5_readStatement 43 = .ok (.if_icmp .ne 7, 3) := by decide +kernel
theorem dX5_readStatement_46 : decode cX5_readStatement 46 = .ok (.iconst 1, 1) := by decide +kernel
theorem dX5_readStatement_47 : decode cX5_readStatement 47 = .ok (.goto 4, 3) := by decide +kernel
theorem dX5_readStatement_50 : decode cX5_readStatement 50 = .ok (.iconst 0, 1) := by decide +kernel
theorem dX5_readStatement_51 : decode cX5_readStatement 51 = .ok (.istore_n 3, 1) := by decide +kernel
theorem dX5_readStatement_52 : decode cX5_readStatement 52 = .ok (.iload_n 3, 1) := by decide +kernel
theorem dX5_readStatement_53 : decode cX5_readStatement 53 = .ok (.ifCond .ne 5, 3) := by decide +kernel
theorem dX5_readStatement_56 : decode cX5_readStatement 56 = .ok (.iconst 0, 1) := by decide +kernel
theorem dX5_readStatement_57 : decode cX5_readStatement 57 = .ok (.ireturn, 1) := by decide +kernel
theorem dX5_readStatement_58 : decode cX5_readStatement 58 = .ok (.aload_n 0, 1) := by decide +kernel
theorem dX5_readStatement_59 : decode cX5_readStatement 59 = .ok (.dup, 1) := by decide +kernel
theorem dX5_readStatement_60 : decode cX5_readStatement 60 = .ok (.getfield 46, 3) := by decide +kernel
theorem dX5_readStatement_63 : decode cX5_readStatement 63 = .ok (.iconst 1, 1) := by decide +kernel
theorem dX5_readStatement_64 : decode cX5_readStatement 64 = .ok (.iadd, 1) := by decide +kernel
theorem dX5_readStatement_65 : decode cX5_readStatement 65 = .ok (.putfield 46, 3) := by decide +kernel
theorem dX5_readStatement_68 : decode cX5_readStatement 68 = .ok (.aload_n 0, 1) := by decide +kernel
theorem dX5_readStatement_69 : decode cX5_readStatement 69 = .ok (.getfield 22, 3) := by decide +kernel
theorem dX5_readStatement_72 : decode cX5_readStatement 72 = .ok (.iload_n 1, 1) := by decide +kernel
theorem dX5_readStatement_73 : decode cX5_readStatement 73 = .ok (.iload_n 2, 1) := by decide +kernel
theorem dX5_readStatement_74 : decode cX5_readStatement 74 = .ok (.invokestatic 56, 3) := by decide +kernel
theorem dX5_readStatement_77 : decode cX5_readStatement 77 = .ok (.iastore, 1) := by decide +kernel
theorem dX5_readStatement_78 : decode cX5_readStatement 78 = .ok (.aload_n 0, 1) := by decide +kernel
theorem dX5_readStatement_79 : decode cX5_readStatement 79 = .ok (.getfield 22, 3) := by decide +kernel
theorem dX5_readStatement_82 : decode cX5_readStatement 82 = .ok (.iload_n 1, 1) := by decide +kernel
theorem dX5_readStatement_83 : decode cX5_readStatement 83 = .ok (.iaload, 1) := by decide +kernel
theorem dX5_readStatement_84 : decode cX5_readStatement 84 = .ok (.iconst 3, 1) := by decide +kernel
theorem dX5_readStatement_85 : decode cX5_readStatement 85 = .ok (.if_icmp .ne 13, 3) := by decide +kernel
theorem dX5_readStatement_88 : decode cX5_readStatement 88 = .ok (.aload_n 0, 1) := by decide +kernel
theorem dX5_readStatement_89 : decode cX5_readStatement 89 = .ok (.iload_n 1, 1) := by decide +kernel
theorem dX5_readStatement_90 : decode cX5_readStatement 90 = .ok (.invokevirtual 60, 3) := by decide +kernel
theorem dX5_readStatement_93 : decode cX5_readStatement 93 = .ok (.ifCond .ne 5, 3) := by decide +kernel
theorem dX5_readStatement_96 : decode cX5_readStatement 96 = .ok (.iconst 0, 1) := by decide +kernel
theorem dX5_readStatement_97 : decode cX5_readStatement 97 = .ok (.ireturn, 1) := by decide +kernel
theorem dX5_readStatement_98 : decode cX5_readStatement 98 = .ok (.iload_n 2, 1) := by decide +kernel
theorem dX5_readStatement_99 : decode cX5_readStatement 99 = .ok (.bipush 35, 2) := by decide +kernel
theorem dX5_readStatement_101 : decode cX5_readStatement 101 = .ok (.if_icmp .eq 15, 3) := by decide +kernel
theorem dX5_readStatement_104 : decode cX5_readStatement 104 = .ok (.iload_n 2, 1) := by decide +kernel
theorem dX5_readStatement_105 : decode cX5_readStatement 105 = .ok (.bipush 94, 2) := by decide +kernel
theorem dX5_readStatement_107 : decode cX5_readStatement 107 = .ok (.if_icmp .eq 9, 3) := by decide +kernel
theorem dX5_readStatement_110 : decode cX5_readStatement 110 = .ok (.iload_n 2, 1) := by decide +kernel
theorem dX5_readStatement_111 : decode cX5_readStatement 111 = .ok (.bipush 99, 2) := by decide +kernel
theorem dX5_readStatement_113 : decode cX5_readStatement 113 = .ok (.if_icmp .ne 7, 3) := by decide +kernel
theorem dX5_readStatement_116 : decode cX5_readStatement 116 = .ok (.iconst 1, 1) := by decide +kernel
theorem dX5_readStatement_117 : decode cX5_readStatement 117 = .ok (.goto 4, 3) := by decide +kernel
theorem dX5_readStatement_120 : decode cX5_readStatement 120 = .ok (.iconst 0, 1) := by decide +kernel
theorem dX5_readStatement_121 : decode cX5_readStatement 121 = .ok (.istore 4, 2) := by decide +kernel
theorem dX5_readStatement_123 : decode cX5_readStatement 123 = .ok (.aload_n 0, 1) := by decide +kernel
theorem dX5_readStatement_124 : decode cX5_readStatement 124 = .ok (.getfield 25, 3) := by decide +kernel
theorem dX5_readStatement_127 : decode cX5_readStatement 127 = .ok (.iload_n 1, 1) := by decide +kernel
theorem dX5_readStatement_128 : decode cX5_readStatement 128 = .ok (.iload 4, 2) := by decide +kernel
theorem dX5_readStatement_130 : decode cX5_readStatement 130 = .ok (.ifCond .eq 10, 3) := by decide +kernel
theorem dX5_readStatement_133 : decode cX5_readStatement 133 = .ok (.aload_n 0, 1) := by decide +kernel
theorem dX5_readStatement_134 : decode cX5_readStatement 134 = .ok (.invokevirtual 63, 3) := by decide +kernel
theorem dX5_readStatement_137 : decode cX5_readStatement 137 = .ok (.goto 7, 3) := by decide +kernel
theorem dX5_readStatement_140 : decode cX5_readStatement 140 = .ok (.aload_n 0, 1) := by decide +kernel
theorem dX5_readStatement_141 : decode cX5_readStatement 141 = .ok (.invokevirtual 67, 3) := by decide +kernel
theorem dX5_readStatement_144 : decode cX5_readStatement 144 = .ok (.iastore, 1) := by decide +kernel
theorem dX5_readStatement_145 : decode cX5_readStatement 145 = .ok (.aload_n 0, 1) := by decide +kernel
theorem dX5_readStatement_146 : decode cX5_readStatement 146 = .ok (.getfield 25, 3) := by decide +kernel
theorem dX5_readStatement_149 : decode cX5_readStatement 149 = .ok (.iload_n 1, 1) := by decide +kernel
theorem dX5_readStatement_150 : decode cX5_readStatement 150 = .ok (.iaload, 1) := by decide +kernel
theorem dX5_readStatement_151 : decode cX5_readStatement 151 = .ok (.iconst (-1), 1) := by decide +kernel
theorem dX5_readStatement_152 : decode cX5_readStatement 152 = .ok (.if_icmp .ne 5, 3) := by decide +kernel
theorem dX5_readStatement_155 : decode cX5_readStatement 155 = .ok (.iconst 0, 1) := by decide +kernel
theorem dX5_readStatement_156 : decode cX5_readStatement 156 = .ok (.ireturn, 1) := by decide +kernel
theorem dX5_readStatement_157 : decode cX5_readStatement 157 = .ok (.aload_n 0, 1) := by decide +kernel
theorem dX5_readStatement_158 : decode cX5_readStatement 158 = .ok (.getfield 22, 3) := by decide +kernel
theorem dX5_readStatement_161 : decode cX5_readStatement 161 = .ok (.iload_n 1, 1) := by decide +kernel
theorem dX5_readStatement_162 : decode cX5_readStatement 162 = .ok (.iaload, 1) := by decide +kernel
theorem dX5_readStatement_163 : decode cX5_readStatement 163 = .ok (.ifCond .eq 13, 3) := by decide +kernel
theorem dX5_readStatement_166 : decode cX5_readStatement 166 = .ok (.aload_n 0, 1) := by decide +kernel
theorem dX5_readStatement_167 : decode cX5_readStatement 167 = .ok (.getfield 22, 3) := by decide +kernel
theorem dX5_readStatement_170 : decode cX5_readStatement 170 = .ok (.iload_n 1, 1) := by decide +kernel
theorem dX5_readStatement_171 : decode cX5_readStatement 171 = .ok (.iaload, 1) := by decide +kernel
theorem dX5_readStatement_172 : decode cX5_readStatement 172 = .ok (.iconst 1, 1) := by decide +kernel
theorem dX5_readStatement_173 : decode cX5_readStatement 173 = .ok (.if_icmp .ne 7, 3) := by decide +kernel
theorem dX5_readStatement_176 : decode cX5_readStatement 176 = .ok (.iconst 1, 1) := by decide +kernel
theorem dX5_readStatement_177 : decode cX5_readStatement 177 = .ok (.goto 4, 3) := by decide +kernel
theorem dX5_readStatement_180 : decode cX5_readStatement 180 = .ok (.iconst 0, 1) := by decide +kernel
theorem dX5_readStatement_181 : decode cX5_readStatement 181 = .ok (.istore 5, 2) := by decide +kernel
theorem dX5_readStatement_183 : decode cX5_readStatement 183 = .ok (.iload 5, 2) := by decide +kernel
theorem dX5_readStatement_185 : decode cX5_readStatement 185 = .ok (.ifCond .eq 12, 3) := by decide +kernel
theorem dX5_readStatement_188 : decode cX5_readStatement 188 = .ok (.aload_n 0, 1) := by decide +kernel
theorem dX5_readStatement_189 : decode cX5_readStatement 189 = .ok (.invokevirtual 70, 3) := by decide +kernel
theorem dX5_readStatement_192 : decode cX5_readStatement 192 = .ok (.ifCond .ne 5, 3) := by decide +kernel
theorem dX5_readStatement_195 : decode cX5_readStatement 195 = .ok (.iconst 0, 1) := by decide +kernel
theorem dX5_readStatement_196 : decode cX5_readStatement 196 = .ok (.ireturn, 1) := by decide +kernel
theorem dX5_readStatement_197 : decode cX5_readStatement 197 = .ok (.aload_n 0, 1) := by decide +kernel
theorem dX5_readStatement_198 : decode cX5_readStatement 198 = .ok (.getfield 31, 3) := by decide +kernel
theorem dX5_readStatement_201 : decode cX5_readStatement 201 = .ok (.iload_n 1, 1) := by decide +kernel
theorem dX5_readStatement_202 : decode cX5_readStatement 202 = .ok (.aload_n 0, 1) := by decide +kernel
theorem dX5_readStatement_203 : decode cX5_readStatement 203 = .ok (.getfield 43, 3) := by decide +kernel
theorem dX5_readStatement_206 : decode cX5_readStatement 206 = .ok (.iastore, 1) := by decide +kernel
theorem dX5_readStatement_207 : decode cX5_readStatement 207 = .ok (.aload_n 0, 1) := by decide +kernel
theorem dX5_readStatement_208 : decode cX5_readStatement 208 = .ok (.iload_n 1, 1) := by decide +kernel
theorem dX5_readStatement_209 : decode cX5_readStatement 209 = .ok (.iconst 1, 1) := by decide +kernel
theorem dX5_readStatement_210 : decode cX5_readStatement 210 = .ok (.iadd, 1) := by decide +kernel
theorem dX5_readStatement_211 : decode cX5_readStatement 211 = .ok (.putfield 34, 3) := by decide +kernel
theorem dX5_readStatement_214 : decode cX5_readStatement 214 = .ok (.iconst 1, 1) := by decide +kernel
theorem dX5_readStatement_215 : decode cX5_readStatement 215 = .ok (.ireturn, 1) := by decide +kernel
theorem dX5_kindOf_0 : decode cX5_kindOf 0 = .ok (.iload_n 0, 1) := by decide +kernel
theorem dX5_kindOf_1 : decode cX5_kindOf 1 = .ok (.bipush 61, 2) := by decide +kernel
theorem dX5_kindOf_3 : decode cX5_kindOf 3 = .ok (.if_icmp .eq 9, 3) := by decide +kernel
theorem dX5_kindOf_6 : decode cX5_kindOf 6 = .ok (.iload_n 0, 1) := by decide +kernel
theorem dX5_kindOf_7 : decode cX5_kindOf 7 = .ok (.bipush 35, 2) := by decide +kernel
theorem dX5_kindOf_9 : decode cX5_kindOf 9 = .ok (.if_icmp .ne 5, 3) := by decide +kernel
theorem dX5_kindOf_12 : decode cX5_kindOf 12 = .ok (.iconst 0, 1) := by decide +kernel
theorem dX5_kindOf_13 : decode cX5_kindOf 13 = .ok (.ireturn, 1) := by decide +kernel
theorem dX5_kindOf_14 : decode cX5_kindOf 14 = .ok (.iload_n 0, 1) := by decide +kernel
theorem dX5_kindOf_15 : decode cX5_kindOf 15 = .ok (.bipush 43, 2) := by decide +kernel
theorem dX5_kindOf_17 : decode cX5_kindOf 17 = .ok (.if_icmp .eq 9, 3) := by decide +kernel
theorem dX5_kindOf_20 : decode cX5_kindOf 20 = .ok (.iload_n 0, 1) := by decide +kernel
theorem dX5_kindOf_21 : decode cX5_kindOf 21 = .ok (.bipush 94, 2) := by decide +kernel
theorem dX5_kindOf_23 : decode cX5_kindOf 23 = .ok (.if_icmp .ne 5, 3) := by decide +kernel
theorem dX5_kindOf_26 : decode cX5_kindOf 26 = .ok (.iconst 1, 1) := by decide +kernel
theorem dX5_kindOf_27 : decode cX5_kindOf 27 = .ok (.ireturn, 1) := by decide +kernel
theorem dX5_kindOf_28 : decode cX5_kindOf 28 = .ok (.iload_n 0, 1) := by decide +kernel
theorem dX5_kindOf_29 : decode cX5_kindOf 29 = .ok (.bipush 63, 2) := by decide +kernel
theorem dX5_kindOf_31 : decode cX5_kindOf 31 = .ok (.if_icmp .ne 7, 3) := by decide +kernel
theorem dX5_kindOf_34 : decode cX5_kindOf 34 = .ok (.iconst 2, 1) := by decide +kernel
theorem dX5_kindOf_35 : decode cX5_kindOf 35 = .ok (.goto 4, 3) := by decide +kernel
theorem dX5_kindOf_38 : decode cX5_kindOf 38 = .ok (.iconst 3, 1) := by decide +kernel
theorem dX5_kindOf_39 : decode cX5_kindOf 39 = .ok (.ireturn, 1) := by decide +kernel
theorem dX5_readCallee_0 : decode cX5_readCallee 0 = .ok (.aload_n 0, 1) := by decide +kernel
theorem dX5_readCallee_1 : decode cX5_readCallee 1 = .ok (.getfield 46, 3) := by decide +kernel
theorem dX5_readCallee_4 : decode cX5_readCallee 4 = .ok (.aload_n 0, 1) := by decide +kernel
theorem dX5_readCallee_5 : decode cX5_readCallee 5 = .ok (.getfield 15, 3) := by decide +kernel
theorem dX5_readCallee_8 : decode cX5_readCallee 8 = .ok (.if_icmp .ge 31, 3) := by decide +kernel
theorem dX5_readCallee_11 : decode cX5_readCallee 11 = .ok (.aload_n 0, 1) := by decide +kernel
theorem dX5_readCallee_12 : decode cX5_readCallee 12 = .ok (.getfield 9, 3) := by decide +kernel
theorem dX5_readCallee_15 : decode cX5_readCallee 15 = .ok (.aload_n 0, 1) := by decide +kernel
theorem dX5_readCallee_16 : decode cX5_readCallee 16 = .ok (.getfield 46, 3) := by decide +kernel
theorem dX5_readCallee_19 : decode cX5_readCallee 19 = .ok (.iaload, 1) := by decide +kernel
theorem dX5_readCallee_20 : decode cX5_readCallee 20 = .ok (.bipush 48, 2) := by decide +kernel
theorem dX5_readCallee_22 : decode cX5_readCallee 22 = .ok (.if_icmp .lt 17, 3) := by decide +kernel
theorem dX5_readCallee_25 : decode cX5_readCallee 25 = .ok (.aload_n 0, 1) := by decide +kernel
theorem dX5_readCallee_26 : decode cX5_readCallee 26 = .ok (.getfield 9, 3) := by decide +kernel
theorem dX5_readCallee_29 : decode cX5_readCallee 29 = .ok (.aload_n 0, 1) := by decide +kernel
theorem dX5_readCallee_30 : decode cX5_readCallee 30 = .ok (.getfield 46, 3) := by decide +kernel
theorem dX5_readCallee_33 : decode cX5_readCallee 33 = .ok (.iaload, 1) := by decide +kernel
theorem dX5_readCallee_34 : decode cX5_readCallee 34 = .ok (.bipush 54, 2) := by decide +kernel
theorem dX5_readCallee_36 : decode cX5_readCallee 36 = .ok (.if_icmp .lt 5, 3) := by decide +kernel
theorem dX5_readCallee_39 : decode cX5_readCallee 39 = .ok (.iconst 0, 1) := by decide +kernel
theorem dX5_readCallee_40 : decode cX5_readCallee 40 = .ok (.ireturn, 1) := by decide +kernel
theorem dX5_readCallee_41 : decode cX5_readCallee 41 = .ok (.aload_n 0, 1) := by decide +kernel
theorem dX5_readCallee_42 : decode cX5_readCallee 42 = .ok (.getfield 28, 3) := by decide +kernel
theorem dX5_readCallee_45 : decode cX5_readCallee 45 = .ok (.iload_n 1, 1) := by decide +kernel
theorem dX5_readCallee_46 : decode cX5_readCallee 46 = .ok (.aload_n 0, 1) := by decide +kernel
theorem dX5_readCallee_47 : decode cX5_readCallee 47 = .ok (.getfield 9, 3) := by decide +kernel
theorem dX5_readCallee_50 : decode cX5_readCallee 50 = .ok (.aload_n 0, 1) := by decide +kernel
theorem dX5_readCallee_51 : decode cX5_readCallee 51 = .ok (.getfield 46, 3) := by decide +kernel
theorem dX5_readCallee_54 : decode cX5_readCallee 54 = .ok (.iaload, 1) := by decide +kernel
theorem dX5_readCallee_55 : decode cX5_readCallee 55 = .ok (.bipush 48, 2) := by decide +kernel
theorem dX5_readCallee_57 : decode cX5_readCallee 57 = .ok (.isub, 1) := by decide +kernel
theorem dX5_readCallee_58 : decode cX5_readCallee 58 = .ok (.iastore, 1) := by decide +kernel
theorem dX5_readCallee_59 : decode cX5_readCallee 59 = .ok (.aload_n 0, 1) := by decide +kernel
theorem dX5_readCallee_60 : decode cX5_readCallee 60 = .ok (.dup, 1) := by decide +kernel
theorem dX5_readCallee_61 : decode cX5_readCallee 61 = .ok (.getfield 46, 3) := by decide +kernel
theorem dX5_readCallee_64 : decode cX5_readCallee 64 = .ok (.iconst 1, 1) := by decide +kernel
theorem dX5_readCallee_65 : decode cX5_readCallee 65 = .ok (.iadd, 1) := by decide +kernel
theorem dX5_readCallee_66 : decode cX5_readCallee 66 = .ok (.putfield 46, 3) := by decide +kernel
theorem dX5_readCallee_69 : decode cX5_readCallee 69 = .ok (.iconst 1, 1) := by decide +kernel
theorem dX5_readCallee_70 : decode cX5_readCallee 70 = .ok (.ireturn, 1) := by decide +kernel
theorem dX5_readLetter_0 : decode cX5_readLetter 0 = .ok (.aload_n 0, 1) := by decide +kernel
theorem dX5_readLetter_1 : decode cX5_readLetter 1 = .ok (.getfield 46, 3) := by decide +kernel
theorem dX5_readLetter_4 : decode cX5_readLetter 4 = .ok (.aload_n 0, 1) := by decide +kernel
theorem dX5_readLetter_5 : decode cX5_readLetter 5 = .ok (.getfield 15, 3) := by decide +kernel
theorem dX5_readLetter_8 : decode cX5_readLetter 8 = .ok (.if_icmp .ge 18, 3) := by decide +kernel
theorem dX5_readLetter_11 : decode cX5_readLetter 11 = .ok (.aload_n 0, 1) := by decide +kernel
theorem dX5_readLetter_12 : decode cX5_readLetter 12 = .ok (.getfield 9, 3) := by decide +kernel
theorem dX5_readLetter_15 : decode cX5_readLetter 15 = .ok (.aload_n 0, 1) := by decide +kernel
theorem dX5_readLetter_16 : decode cX5_readLetter 16 = .ok (.getfield 46, 3) := by decide +kernel
theorem dX5_readLetter_19 : decode cX5_readLetter 19 = .ok (.iaload, 1) := by decide +kernel
theorem dX5_readLetter_20 : decode cX5_readLetter 20 = .ok (.invokestatic 74, 3) := by decide +kernel
theorem dX5_readLetter_23 : decode cX5_readLetter 23 = .ok (.ifCond .ne 5, 3) := by decide +kernel
theorem dX5_readLetter_26 : decode cX5_readLetter 26 = .ok (.iconst (-1), 1) := by decide +kernel
theorem dX5_readLetter_27 : decode cX5_readLetter 27 = .ok (.ireturn, 1) := by decide +kernel
theorem dX5_readLetter_28 : decode cX5_readLetter 28 = .ok (.aload_n 0, 1) := by decide +kernel
theorem dX5_readLetter_29 : decode cX5_readLetter 29 = .ok (.getfield 9, 3) := by decide +kernel
theorem dX5_readLetter_32 : decode cX5_readLetter 32 = .ok (.aload_n 0, 1) := by decide +kernel
theorem dX5_readLetter_33 : decode cX5_readLetter 33 = .ok (.getfield 46, 3) := by decide +kernel
theorem dX5_readLetter_36 : decode cX5_readLetter 36 = .ok (.iaload, 1) := by decide +kernel
theorem dX5_readLetter_37 : decode cX5_readLetter 37 = .ok (.bipush 97, 2) := by decide +kernel
theorem dX5_readLetter_39 : decode cX5_readLetter 39 = .ok (.isub, 1) := by decide +kernel
theorem dX5_readLetter_40 : decode cX5_readLetter 40 = .ok (.istore_n 1, 1) := by decide +kernel
theorem dX5_readLetter_41 : decode cX5_readLetter 41 = .ok (.aload_n 0, 1) := by decide +kernel
theorem dX5_readLetter_42 : decode cX5_readLetter 42 = .ok (.dup, 1) := by decide +kernel
theorem dX5_readLetter_43 : decode cX5_readLetter 43 = .ok (.getfield 46, 3) := by decide +kernel
theorem dX5_readLetter_46 : decode cX5_readLetter 46 = .ok (.iconst 1, 1) := by decide +kernel
theorem dX5_readLetter_47 : decode cX5_readLetter 47 = .ok (.iadd, 1) := by decide +kernel
theorem dX5_readLetter_48 : decode cX5_readLetter 48 = .ok (.putfield 46, 3) := by decide +kernel
theorem dX5_readLetter_51 : decode cX5_readLetter 51 = .ok (.iload_n 1, 1) := by decide +kernel
theorem dX5_readLetter_52 : decode cX5_readLetter 52 = .ok (.ireturn, 1) := by decide +kernel
theorem dX5_readIndex_0 : decode cX5_readIndex 0 = .ok (.iconst 0, 1) := by decide +kernel
theorem dX5_readIndex_1 : decode cX5_readIndex 1 = .ok (.istore_n 1, 1) := by decide +kernel
theorem dX5_readIndex_2 : decode cX5_readIndex 2 = .ok (.aload_n 0, 1) := by decide +kernel
theorem dX5_readIndex_3 : decode cX5_readIndex 3 = .ok (.getfield 46, 3) := by decide +kernel
theorem dX5_readIndex_6 : decode cX5_readIndex 6 = .ok (.aload_n 0, 1) := by decide +kernel
theorem dX5_readIndex_7 : decode cX5_readIndex 7 = .ok (.getfield 15, 3) := by decide +kernel
theorem dX5_readIndex_10 : decode cX5_readIndex 10 = .ok (.if_icmp .ge 33, 3) := by decide +kernel
theorem dX5_readIndex_13 : decode cX5_readIndex 13 = .ok (.aload_n 0, 1) := by decide +kernel
theorem dX5_readIndex_14 : decode cX5_readIndex 14 = .ok (.getfield 9, 3) := by decide +kernel
theorem dX5_readIndex_17 : decode cX5_readIndex 17 = .ok (.aload_n 0, 1) := by decide +kernel
theorem dX5_readIndex_18 : decode cX5_readIndex 18 = .ok (.getfield 46, 3) := by decide +kernel
theorem dX5_readIndex_21 : decode cX5_readIndex 21 = .ok (.iaload, 1) := by decide +kernel
theorem dX5_readIndex_22 : decode cX5_readIndex 22 = .ok (.bipush 62, 2) := by decide +kernel
theorem dX5_readIndex_24 : decode cX5_readIndex 24 = .ok (.if_icmp .ne 19, 3) := by decide +kernel
theorem dX5_readIndex_27 : decode cX5_readIndex 27 = .ok (.aload_n 0, 1) := by decide +kernel
theorem dX5_readIndex_28 : decode cX5_readIndex 28 = .ok (.dup, 1) := by decide +kernel
theorem dX5_readIndex_29 : decode cX5_readIndex 29 = .ok (.getfield 46, 3) := by decide +kernel
theorem dX5_readIndex_32 : decode cX5_readIndex 32 = .ok (.iconst 1, 1) := by decide +kernel
theorem dX5_readIndex_33 : decode cX5_readIndex 33 = .ok (.iadd, 1) := by decide +kernel
theorem dX5_readIndex_34 : decode cX5_readIndex 34 = .ok (.putfield 46, 3) := by decide +kernel
theorem dX5_readIndex_37 : decode cX5_readIndex 37 = .ok (.iinc 1 1, 3) := by decide +kernel
theorem dX5_readIndex_40 : decode cX5_readIndex 40 = .ok (.goto (-38), 3) := by decide +kernel
theorem dX5_readIndex_43 : decode cX5_readIndex 43 = .ok (.aload_n 0, 1) := by decide +kernel
theorem dX5_readIndex_44 : decode cX5_readIndex 44 = .ok (.getfield 46, 3) := by decide +kernel
theorem dX5_readIndex_47 : decode cX5_readIndex 47 = .ok (.aload_n 0, 1) := by decide +kernel
theorem dX5_readIndex_48 : decode cX5_readIndex 48 = .ok (.getfield 15, 3) := by decide +kernel
theorem dX5_readIndex_51 : decode cX5_readIndex 51 = .ok (.if_icmp .lt 5, 3) := by decide +kernel
theorem dX5_readIndex_54 : decode cX5_readIndex 54 = .ok (.iconst (-1), 1) := by decide +kernel
theorem dX5_readIndex_55 : decode cX5_readIndex 55 = .ok (.ireturn, 1) := by decide +kernel
theorem dX5_readIndex_56 : decode cX5_readIndex 56 = .ok (.aload_n 0, 1) := by decide +kernel
theorem dX5_readIndex_57 : decode cX5_readIndex 57 = .ok (.getfield 9, 3) := by decide +kernel
theorem dX5_readIndex_60 : decode cX5_readIndex 60 = .ok (.aload_n 0, 1) := by decide +kernel
theorem dX5_readIndex_61 : decode cX5_readIndex 61 = .ok (.getfield 46, 3) := by decide +kernel
theorem dX5_readIndex_64 : decode cX5_readIndex 64 = .ok (.iaload, 1) := by decide +kernel
theorem dX5_readIndex_65 : decode cX5_readIndex 65 = .ok (.istore_n 2, 1) := by decide +kernel
theorem dX5_readIndex_66 : decode cX5_readIndex 66 = .ok (.iload_n 2, 1) := by decide +kernel
theorem dX5_readIndex_67 : decode cX5_readIndex 67 = .ok (.bipush 112, 2) := by decide +kernel
theorem dX5_readIndex_69 : decode cX5_readIndex 69 = .ok (.if_icmp .ne 21, 3) := by decide +kernel
theorem dX5_readIndex_72 : decode cX5_readIndex 72 = .ok (.aload_n 0, 1) := by decide +kernel
theorem dX5_readIndex_73 : decode cX5_readIndex 73 = .ok (.dup, 1) := by decide +kernel
theorem dX5_readIndex_74 : decode cX5_readIndex 74 = .ok (.getfield 46, 3) := by decide +kernel
theorem dX5_readIndex_77 : decode cX5_readIndex 77 = .ok (.iconst 1, 1) := by decide +kernel
theorem dX5_readIndex_78 : decode cX5_readIndex 78 = .ok (.iadd, 1) := by decide +kernel
theorem dX5_readIndex_79 : decode cX5_readIndex 79 = .ok (.putfield 46, 3) := by decide +kernel
theorem dX5_readIndex_82 : decode cX5_readIndex 82 = .ok (.bipush 18, 2) := by decide +kernel
theorem dX5_readIndex_84 : decode cX5_readIndex 84 = .ok (.iload_n 1, 1) := by decide +kernel
theorem dX5_readIndex_85 : decode cX5_readIndex 85 = .ok (.bipush 12, 2) := by decide +kernel
theorem dX5_readIndex_87 : decode cX5_readIndex 87 = .ok (.irem, 1) := by decide +kernel
theorem dX5_readIndex_88 : decode cX5_readIndex 88 = .ok (.iadd, 1) := by decide +kernel
theorem dX5_readIndex_89 : decode cX5_readIndex 89 = .ok (.ireturn, 1) := by decide +kernel
theorem dX5_readIndex_90 : decode cX5_readIndex 90 = .ok (.iload_n 2, 1) := by decide +kernel
theorem dX5_readIndex_91 : decode cX5_readIndex 91 = .ok (.invokestatic 77, 3) := by decide +kernel
theorem dX5_readIndex_94 : decode cX5_readIndex 94 = .ok (.ifCond .eq 26, 3) := by decide +kernel
theorem dX5_readIndex_97 : decode cX5_readIndex 97 = .ok (.aload_n 0, 1) := by decide +kernel
theorem dX5_readIndex_98 : decode cX5_readIndex 98 = .ok (.dup, 1) := by decide +kernel
theorem dX5_readIndex_99 : decode cX5_readIndex 99 = .ok (.getfield 46, 3) := by decide +kernel
theorem dX5_readIndex_102 : decode cX5_readIndex 102 = .ok (.iconst 1, 1) := by decide +kernel
theorem dX5_readIndex_103 : decode cX5_readIndex 103 = .ok (.iadd, 1) := by decide +kernel
theorem dX5_readIndex_104 : decode cX5_readIndex 104 = .ok (.putfield 46, 3) := by decide +kernel
theorem dX5_readIndex_107 : decode cX5_readIndex 107 = .ok (.bipush 6, 2) := by decide +kernel
theorem dX5_readIndex_109 : decode cX5_readIndex 109 = .ok (.iload_n 2, 1) := by decide +kernel
theorem dX5_readIndex_110 : decode cX5_readIndex 110 = .ok (.bipush 48, 2) := by decide +kernel
theorem dX5_readIndex_112 : decode cX5_readIndex 112 = .ok (.isub, 1) := by decide +kernel
theorem dX5_readIndex_113 : decode cX5_readIndex 113 = .ok (.iload_n 1, 1) := by decide +kernel
theorem dX5_readIndex_114 : decode cX5_readIndex 114 = .ok (.iadd, 1) := by decide +kernel
theorem dX5_readIndex_115 : decode cX5_readIndex 115 = .ok (.bipush 12, 2) := by decide +kernel
theorem dX5_readIndex_117 : decode cX5_readIndex 117 = .ok (.irem, 1) := by decide +kernel
theorem dX5_readIndex_118 : decode cX5_readIndex 118 = .ok (.iadd, 1) := by decide +kernel
theorem dX5_readIndex_119 : decode cX5_readIndex 119 = .ok (.ireturn, 1) := by decide +kernel
theorem dX5_readIndex_120 : decode cX5_readIndex 120 = .ok (.iconst (-1), 1) := by decide +kernel
theorem dX5_readIndex_121 : decode cX5_readIndex 121 = .ok (.ireturn, 1) := by decide +kernel
theorem dX5_readTerm_0 : decode cX5_readTerm 0 = .ok (.iconst 1, 1) := by decide +kernel
theorem dX5_readTerm_1 : decode cX5_readTerm 1 = .ok (.istore_n 1, 1) := by decide +kernel
theorem dX5_readTerm_2 : decode cX5_readTerm 2 = .ok (.iconst 0, 1) := by decide +kernel
theorem dX5_readTerm_3 : decode cX5_readTerm 3 = .ok (.istore_n 2, 1) := by decide +kernel
theorem dX5_readTerm_4 : decode cX5_readTerm 4 = .ok (.iload_n 2, 1) := by decide +kernel
theorem dX5_readTerm_5 : decode cX5_readTerm 5 = .ok (.bipush 30, 2) := by decide +kernel
theorem dX5_readTerm_7 : decode cX5_readTerm 7 = .ok (.if_icmp .ge 69, 3) := by decide +kernel
theorem dX5_readTerm_10 : decode cX5_readTerm 10 = .ok (.iload_n 1, 1) := by decide +kernel
theorem dX5_readTerm_11 : decode cX5_readTerm 11 = .ok (.ifCond .le 65, 3) := by decide +kernel
theorem dX5_readTerm_14 : decode cX5_readTerm 14 = .ok (.aload_n 0, 1) := by decide +kernel
theorem dX5_readTerm_15 : decode cX5_readTerm 15 = .ok (.getfield 46, 3) := by decide +kernel
theorem dX5_readTerm_18 : decode cX5_readTerm 18 = .ok (.aload_n 0, 1) := by decide +kernel
theorem dX5_readTerm_19 : decode cX5_readTerm 19 = .ok (.getfield 15, 3) := by decide +kernel
theorem dX5_readTerm_22 : decode cX5_readTerm 22 = .ok (.if_icmp .ge 54, 3) := by decide +kernel
theorem dX5_readTerm_25 : decode cX5_readTerm 25 = .ok (.aload_n 0, 1) := by decide +kernel
theorem dX5_readTerm_26 : decode cX5_readTerm 26 = .ok (.getfield 9, 3) := by decide +kernel
theorem dX5_readTerm_29 : decode cX5_readTerm 29 = .ok (.aload_n 0, 1) := by decide +kernel
theorem dX5_readTerm_30 : decode cX5_readTerm 30 = .ok (.getfield 46, 3) := by decide +kernel
theorem dX5_readTerm_33 : decode cX5_readTerm 33 = .ok (.iaload, 1) := by decide +kernel
theorem dX5_readTerm_34 : decode cX5_readTerm 34 = .ok (.bipush 126, 2) := by decide +kernel
theorem dX5_readTerm_36 : decode cX5_readTerm 36 = .ok (.if_icmp .ne 19, 3) := by decide +kernel
theorem dX5_readTerm_39 : decode cX5_readTerm 39 = .ok (.aload_n 0, 1) := by decide +kernel
theorem dX5_readTerm_40 : decode cX5_readTerm 40 = .ok (.dup, 1) := by decide +kernel
theorem dX5_readTerm_41 : decode cX5_readTerm 41 = .ok (.getfield 46, 3) := by decide +kernel
theorem dX5_readTerm_44 : decode cX5_readTerm 44 = .ok (.iconst 1, 1) := by decide +kernel
theorem dX5_readTerm_45 : decode cX5_readTerm 45 = .ok (.iadd, 1) := by decide +kernel
theorem dX5_readTerm_46 : decode cX5_readTerm 46 = .ok (.putfield 46, 3) := by decide +kernel
theorem dX5_readTerm_49 : decode cX5_readTerm 49 = .ok (.iinc 1 1, 3) := by decide +kernel
theorem dX5_readTerm_52 : decode cX5_readTerm 52 = .ok (.goto 18, 3) := by decide +kernel
theorem dX5_readTerm_55 : decode cX5_readTerm 55 = .ok (.aload_n 0, 1) := by decide +kernel
theorem dX5_readTerm_56 : decode cX5_readTerm 56 = .ok (.invokevirtual 80, 3) := by decide +kernel
theorem dX5_readTerm_59 : decode cX5_readTerm 59 = .ok (.ifCond .eq 9, 3) := by decide +kernel
theorem dX5_readTerm_62 : decode cX5_readTerm 62 = .ok (.iinc 1 (-1), 3) := by decide +kernel
theorem dX5_readTerm_65 : decode cX5_readTerm 65 = .ok (.goto 5, 3) := by decide +kernel
theorem dX5_readTerm_68 : decode cX5_readTerm 68 = .ok (.iconst 0, 1) := by decide +kernel
theorem dX5_readTerm_69 : decode cX5_readTerm 69 = .ok (.ireturn, 1) := by decide +kernel
theorem dX5_readTerm_70 : decode cX5_readTerm 70 = .ok (.iinc 2 1, 3) := by decide +kernel
theorem dX5_readTerm_73 : decode cX5_readTerm 73 = .ok (.goto (-69), 3) := by decide +kernel
theorem dX5_readTerm_76 : decode cX5_readTerm 76 = .ok (.iload_n 1, 1) := by decide +kernel
theorem dX5_readTerm_77 : decode cX5_readTerm 77 = .ok (.ifCond .ne 7, 3) := by decide +kernel
theorem dX5_readTerm_80 : decode cX5_readTerm 80 = .ok (.iconst 1, 1) := by decide +kernel
theorem dX5_readTerm_81 : decode cX5_readTerm 81 = .ok (.goto 4, 3) := by decide +kernel
theorem dX5_readTerm_84 : decode cX5_readTerm 84 = .ok (.iconst 0, 1) := by decide +kernel
theorem dX5_readTerm_85 : decode cX5_readTerm 85 = .ok (.ireturn, 1) := by decide +kernel
theorem dX5_readLeaf_0 : decode cX5_readLeaf 0 = .ok (.aload_n 0, 1) := by decide +kernel
theorem dX5_readLeaf_1 : decode cX5_readLeaf 1 = .ok (.getfield 9, 3) := by decide +kernel
theorem dX5_readLeaf_4 : decode cX5_readLeaf 4 = .ok (.aload_n 0, 1) := by decide +kernel
theorem dX5_readLeaf_5 : decode cX5_readLeaf 5 = .ok (.getfield 46, 3) := by decide +kernel
theorem dX5_readLeaf_8 : decode cX5_readLeaf 8 = .ok (.iaload, 1) := by decide +kernel
theorem dX5_readLeaf_9 : decode cX5_readLeaf 9 = .ok (.istore_n 1, 1) := by decide +kernel
theorem dX5_readLeaf_10 : decode cX5_readLeaf 10 = .ok (.iload_n 1, 1) := by decide +kernel
theorem dX5_readLeaf_11 : decode cX5_readLeaf 11 = .ok (.invokestatic 77, 3) := by decide +kernel
theorem dX5_readLeaf_14 : decode cX5_readLeaf 14 = .ok (.ifCond .eq 23, 3) := by decide +kernel
theorem dX5_readLeaf_17 : decode cX5_readLeaf 17 = .ok (.aload_n 0, 1) := by decide +kernel
theorem dX5_readLeaf_18 : decode cX5_readLeaf 18 = .ok (.dup, 1) := by decide +kernel
theorem dX5_readLeaf_19 : decode cX5_readLeaf 19 = .ok (.getfield 46, 3) := by decide +kernel
theorem dX5_readLeaf_22 : decode cX5_readLeaf 22 = .ok (.iconst 1, 1) := by decide +kernel
theorem dX5_readLeaf_23 : decode cX5_readLeaf 23 = .ok (.iadd, 1) := by decide +kernel
theorem dX5_readLeaf_24 : decode cX5_readLeaf 24 = .ok (.putfield 46, 3) := by decide +kernel
theorem dX5_readLeaf_27 : decode cX5_readLeaf 27 = .ok (.aload_n 0, 1) := by decide +kernel
theorem dX5_readLeaf_28 : decode cX5_readLeaf 28 = .ok (.iconst 0, 1) := by decide +kernel
theorem dX5_readLeaf_29 : decode cX5_readLeaf 29 = .ok (.iload_n 1, 1) := by decide +kernel
theorem dX5_readLeaf_30 : decode cX5_readLeaf 30 = .ok (.bipush 48, 2) := by decide +kernel
theorem dX5_readLeaf_32 : decode cX5_readLeaf 32 = .ok (.isub, 1) := by decide +kernel
theorem dX5_readLeaf_33 : decode cX5_readLeaf 33 = .ok (.invokevirtual 83, 3) := by decide +kernel
theorem dX5_readLeaf_36 : decode cX5_readLeaf 36 = .ok (.ireturn, 1) := by decide +kernel
theorem dX5_readLeaf_37 : decode cX5_readLeaf 37 = .ok (.iload_n 1, 1) := by decide +kernel
theorem dX5_readLeaf_38 : decode cX5_readLeaf 38 = .ok (.bipush 112, 2) := by decide +kernel
theorem dX5_readLeaf_40 : decode cX5_readLeaf 40 = .ok (.if_icmp .ne 20, 3) := by decide +kernel
theorem dX5_readLeaf_43 : decode cX5_readLeaf 43 = .ok (.aload_n 0, 1) := by decide +kernel
theorem dX5_readLeaf_44 : decode cX5_readLeaf 44 = .ok (.dup, 1) := by decide +kernel
theorem dX5_readLeaf_45 : decode cX5_readLeaf 45 = .ok (.getfield 46, 3) := by decide +kernel
theorem dX5_readLeaf_48 : decode cX5_readLeaf 48 = .ok (.iconst 1, 1) := by decide +kernel
theorem dX5_readLeaf_49 : decode cX5_readLeaf 49 = .ok (.iadd, 1) := by decide +kernel
theorem dX5_readLeaf_50 : decode cX5_readLeaf 50 = .ok (.putfield 46, 3) := by decide +kernel
theorem dX5_readLeaf_53 : decode cX5_readLeaf 53 = .ok (.aload_n 0, 1) := by decide +kernel
theorem dX5_readLeaf_54 : decode cX5_readLeaf 54 = .ok (.iconst 1, 1) := by decide +kernel
theorem dX5_readLeaf_55 : decode cX5_readLeaf 55 = .ok (.iconst 0, 1) := by decide +kernel
theorem dX5_readLeaf_56 : decode cX5_readLeaf 56 = .ok (.invokevirtual 83, 3) := by decide +kernel
theorem dX5_readLeaf_59 : decode cX5_readLeaf 59 = .ok (.ireturn, 1) := by decide +kernel
theorem dX5_readLeaf_60 : decode cX5_readLeaf 60 = .ok (.iload_n 1, 1) := by decide +kernel
theorem dX5_readLeaf_61 : decode cX5_readLeaf 61 = .ok (.invokestatic 74, 3) := by decide +kernel
theorem dX5_readLeaf_64 : decode cX5_readLeaf 64 = .ok (.ifCond .eq 23, 3) := by decide +kernel
theorem dX5_readLeaf_67 : decode cX5_readLeaf 67 = .ok (.aload_n 0, 1) := by decide +kernel
theorem dX5_readLeaf_68 : decode cX5_readLeaf 68 = .ok (.dup, 1) := by decide +kernel
theorem dX5_readLeaf_69 : decode cX5_readLeaf 69 = .ok (.getfield 46, 3) := by decide +kernel
theorem dX5_readLeaf_72 : decode cX5_readLeaf 72 = .ok (.iconst 1, 1) := by decide +kernel
theorem dX5_readLeaf_73 : decode cX5_readLeaf 73 = .ok (.iadd, 1) := by decide +kernel
theorem dX5_readLeaf_74 : decode cX5_readLeaf 74 = .ok (.putfield 46, 3) := by decide +kernel
theorem dX5_readLeaf_77 : decode cX5_readLeaf 77 = .ok (.aload_n 0, 1) := by decide +kernel
theorem dX5_readLeaf_78 : decode cX5_readLeaf 78 = .ok (.iconst 2, 1) := by decide +kernel
theorem dX5_readLeaf_79 : decode cX5_readLeaf 79 = .ok (.iload_n 1, 1) := by decide +kernel
theorem dX5_readLeaf_80 : decode cX5_readLeaf 80 = .ok (.bipush 97, 2) := by decide +kernel
theorem dX5_readLeaf_82 : decode cX5_readLeaf 82 = .ok (.isub, 1) := by decide +kernel
theorem dX5_readLeaf_83 : decode cX5_readLeaf 83 = .ok (.invokevirtual 83, 3) := by decide +kernel
theorem dX5_readLeaf_86 : decode cX5_readLeaf 86 = .ok (.ireturn, 1) := by decide +kernel
theorem dX5_readLeaf_87 : decode cX5_readLeaf 87 = .ok (.iload_n 1, 1) := by decide +kernel
theorem dX5_readLeaf_88 : decode cX5_readLeaf 88 = .ok (.bipush 64, 2) := by decide +kernel
theorem dX5_readLeaf_90 : decode cX5_readLeaf 90 = .ok (.if_icmp .ne 23, 3) := by decide +kernel
theorem dX5_readLeaf_93 : decode cX5_readLeaf 93 = .ok (.aload_n 0, 1) := by decide +kernel
theorem dX5_readLeaf_94 : decode cX5_readLeaf 94 = .ok (.dup, 1) := by decide +kernel
theorem dX5_readLeaf_95 : decode cX5_readLeaf 95 = .ok (.getfield 46, 3) := by decide +kernel
theorem dX5_readLeaf_98 : decode cX5_readLeaf 98 = .ok (.iconst 1, 1) := by decide +kernel
theorem dX5_readLeaf_99 : decode cX5_readLeaf 99 = .ok (.iadd, 1) := by decide +kernel
theorem dX5_readLeaf_100 : decode cX5_readLeaf 100 = .ok (.putfield 46, 3) := by decide +kernel
theorem dX5_readLeaf_103 : decode cX5_readLeaf 103 = .ok (.aload_n 0, 1) := by decide +kernel
theorem dX5_readLeaf_104 : decode cX5_readLeaf 104 = .ok (.iconst 2, 1) := by decide +kernel
theorem dX5_readLeaf_105 : decode cX5_readLeaf 105 = .ok (.aload_n 0, 1) := by decide +kernel
theorem dX5_readLeaf_106 : decode cX5_readLeaf 106 = .ok (.invokevirtual 63, 3) := by decide +kernel
theorem dX5_readLeaf_109 : decode cX5_readLeaf 109 = .ok (.invokevirtual 83, 3) := by decide +kernel
theorem dX5_readLeaf_112 : decode cX5_readLeaf 112 = .ok (.ireturn, 1) := by decide +kernel
theorem dX5_readLeaf_113 : decode cX5_readLeaf 113 = .ok (.iconst 0, 1) := by decide +kernel
theorem dX5_readLeaf_114 : decode cX5_readLeaf 114 = .ok (.ireturn, 1) := by decide +kernel
theorem dX5_addLeaf_0 : decode cX5_addLeaf 0 = .ok (.iload_n 2, 1) := by decide +kernel
theorem dX5_addLeaf_1 : decode cX5_addLeaf 1 = .ok (.iconst (-1), 1) := by decide +kernel
theorem dX5_addLeaf_2 : decode cX5_addLeaf 2 = .ok (.if_icmp .eq 12, 3) := by decide +kernel
theorem dX5_addLeaf_5 : decode cX5_addLeaf 5 = .ok (.aload_n 0, 1) := by decide +kernel
theorem dX5_addLeaf_6 : decode cX5_addLeaf 6 = .ok (.getfield 43, 3) := by decide +kernel
theorem dX5_addLeaf_9 : decode cX5_addLeaf 9 = .ok (.bipush 30, 2) := by decide +kernel
theorem dX5_addLeaf_11 : decode cX5_addLeaf 11 = .ok (.if_icmp .lt 5, 3) := by decide +kernel
theorem dX5_addLeaf_14 : decode cX5_addLeaf 14 = .ok (.iconst 0, 1) := by decide +kernel
theorem dX5_addLeaf_15 : decode cX5_addLeaf 15 = .ok (.ireturn, 1) := by decide +kernel
theorem dX5_addLeaf_16 : decode cX5_addLeaf 16 = .ok (.aload_n 0, 1) := by decide +kernel
theorem dX5_addLeaf_17 : decode cX5_addLeaf 17 = .ok (.getfield 37, 3) := by decide +kernel
theorem dX5_addLeaf_20 : decode cX5_addLeaf 20 = .ok (.aload_n 0, 1) := by decide +kernel
theorem dX5_addLeaf_21 : decode cX5_addLeaf 21 = .ok (.getfield 43, 3) := by decide +kernel
theorem dX5_addLeaf_24 : decode cX5_addLeaf 24 = .ok (.iload_n 1, 1) := by decide +kernel
theorem dX5_addLeaf_25 : decode cX5_addLeaf 25 = .ok (.iastore, 1) := by decide +kernel
theorem dX5_addLeaf_26 : decode cX5_addLeaf 26 = .ok (.aload_n 0, 1) := by decide +kernel
theorem dX5_addLeaf_27 : decode cX5_addLeaf 27 = .ok (.getfield 40, 3) := by decide +kernel
theorem dX5_addLeaf_30 : decode cX5_addLeaf 30 = .ok (.aload_n 0, 1) := by decide +kernel
theorem dX5_addLeaf_31 : decode cX5_addLeaf 31 = .ok (.getfield 43, 3) := by decide +kernel
theorem dX5_addLeaf_34 : decode cX5_addLeaf 34 = .ok (.iload_n 2, 1) := by decide +kernel
theorem dX5_addLeaf_35 : decode cX5_addLeaf 35 = .ok (.iastore, 1) := by decide +kernel
theorem dX5_addLeaf_36 : decode cX5_addLeaf 36 = .ok (.aload_n 0, 1) := by decide +kernel
theorem dX5_addLeaf_37 : decode cX5_addLeaf 37 = .ok (.dup, 1) := by decide +kernel
theorem dX5_addLeaf_38 : decode cX5_addLeaf 38 = .ok (.getfield 43, 3) := by decide +kernel
theorem dX5_addLeaf_41 : decode cX5_addLeaf 41 = .ok (.iconst 1, 1) := by decide +kernel
theorem dX5_addLeaf_42 : decode cX5_addLeaf 42 = .ok (.iadd, 1) := by decide +kernel
theorem dX5_addLeaf_43 : decode cX5_addLeaf 43 = .ok (.putfield 43, 3) := by decide +kernel
theorem dX5_addLeaf_46 : decode cX5_addLeaf 46 = .ok (.iconst 1, 1) := by decide +kernel
theorem dX5_addLeaf_47 : decode cX5_addLeaf 47 = .ok (.ireturn, 1) := by decide +kernel
theorem dX5_isFigure_0 : decode cX5_isFigure 0 = .ok (.iload_n 0, 1) := by decide +kernel
theorem dX5_isFigure_1 : decode cX5_isFigure 1 = .ok (.bipush 48, 2) := by decide +kernel
theorem dX5_isFigure_3 : decode cX5_isFigure 3 = .ok (.if_icmp .lt 13, 3) := by decide +kernel
theorem dX5_isFigure_6 : decode cX5_isFigure 6 = .ok (.iload_n 0, 1) := by decide +kernel
theorem dX5_isFigure_7 : decode cX5_isFigure 7 = .ok (.bipush 57, 2) := by decide +kernel
theorem dX5_isFigure_9 : decode cX5_isFigure 9 = .ok (.if_icmp .gt 7, 3) := by decide +kernel
theorem dX5_isFigure_12 : decode cX5_isFigure 12 = .ok (.iconst 1, 1) := by decide +kernel
theorem dX5_isFigure_13 : decode cX5_isFigure 13 = .ok (.goto 4, 3) := by decide +kernel
theorem dX5_isFigure_16 : decode cX5_isFigure 16 = .ok (.iconst 0, 1) := by decide +kernel
theorem dX5_isFigure_17 : decode cX5_isFigure 17 = .ok (.ireturn, 1) := by decide +kernel
theorem dX5_isLetter_0 : decode cX5_isLetter 0 = .ok (.iload_n 0, 1) := by decide +kernel
theorem dX5_isLetter_1 : decode cX5_isLetter 1 = .ok (.bipush 97, 2) := by decide +kernel
theorem dX5_isLetter_3 : decode cX5_isLetter 3 = .ok (.if_icmp .lt 13, 3) := by decide +kernel
theorem dX5_isLetter_6 : decode cX5_isLetter 6 = .ok (.iload_n 0, 1) := by decide +kernel
theorem dX5_isLetter_7 : decode cX5_isLetter 7 = .ok (.bipush 103, 2) := by decide +kernel
theorem dX5_isLetter_9 : decode cX5_isLetter 9 = .ok (.if_icmp .ge 7, 3) := by decide +kernel
theorem dX5_isLetter_12 : decode cX5_isLetter 12 = .ok (.iconst 1, 1) := by decide +kernel
theorem dX5_isLetter_13 : decode cX5_isLetter 13 = .ok (.goto 4, 3) := by decide +kernel
theorem dX5_isLetter_16 : decode cX5_isLetter 16 = .ok (.iconst 0, 1) := by decide +kernel
theorem dX5_isLetter_17 : decode cX5_isLetter 17 = .ok (.ireturn, 1) := by decide +kernel
theorem dX6_init_0 : decode cX6_init 0 = .ok (.aload_n 0, 1) := by decide +kernel
theorem dX6_init_1 : decode cX6_init 1 = .ok (.invokespecial 3, 3) := by decide +kernel
theorem dX6_init_4 : decode cX6_init 4 = .ok (.aload_n 0, 1) := by decide +kernel
theorem dX6_init_5 : decode cX6_init 5 = .ok (.bipush 6, 2) := by decide +kernel
theorem dX6_init_7 : decode cX6_init 7 = .ok (.anewarray 9, 3) := by decide +kernel
theorem dX6_init_10 : decode cX6_init 10 = .ok (.putfield 11, 3) := by decide +kernel
theorem dX6_init_13 : decode cX6_init 13 = .ok (.aload_n 0, 1) := by decide +kernel
theorem dX6_init_14 : decode cX6_init 14 = .ok (.new 15, 3) := by decide +kernel
theorem dX6_init_17 : decode cX6_init 17 = .ok (.dup, 1) := by decide +kernel
theorem dX6_init_18 : decode cX6_init 18 = .ok (.invokespecial 17, 3) := by decide +kernel
theorem dX6_init_21 : decode cX6_init 21 = .ok (.putfield 18, 3) := by decide +kernel
theorem dX6_init_24 : decode cX6_init 24 = .ok (.aload_n 0, 1) := by decide +kernel
theorem dX6_init_25 : decode cX6_init 25 = .ok (.bipush 18, 2) := by decide +kernel
theorem dX6_init_27 : decode cX6_init 27 = .ok (.newarray .int, 2) := by decide +kernel
theorem dX6_init_29 : decode cX6_init 29 = .ok (.putfield 22, 3) := by decide +kernel
theorem dX6_init_32 : decode cX6_init 32 = .ok (.aload_n 0, 1) := by decide +kernel
theorem dX6_init_33 : decode cX6_init 33 = .ok (.new 26, 3) := by decide +kernel
theorem dX6_init_36 : decode cX6_init 36 = .ok (.dup, 1) := by decide +kernel
theorem dX6_init_37 : decode cX6_init 37 = .ok (.invokespecial 28, 3) := by decide +kernel
theorem dX6_init_40 : decode cX6_init 40 = .ok (.putfield 29, 3) := by decide +kernel
theorem dX6_init_43 : decode cX6_init 43 = .ok (.aload_n 0, 1) := by decide +kernel
theorem dX6_init_44 : decode cX6_init 44 = .ok (.iconst 2, 1) := by decide +kernel
theorem dX6_init_45 : decode cX6_init 45 = .ok (.anewarray 33, 3) := by decide +kernel
theorem dX6_init_48 : decode cX6_init 48 = .ok (.putfield 35, 3) := by decide +kernel
theorem dX6_init_51 : decode cX6_init 51 = .ok (.aload_n 0, 1) := by decide +kernel
theorem dX6_init_52 : decode cX6_init 52 = .ok (.new 39, 3) := by decide +kernel
theorem dX6_init_55 : decode cX6_init 55 = .ok (.dup, 1) := by decide +kernel
theorem dX6_init_56 : decode cX6_init 56 = .ok (.invokespecial 41, 3) := by decide +kernel
theorem dX6_init_59 : decode cX6_init 59 = .ok (.putfield 42, 3) := by decide +kernel
theorem dX6_init_62 : decode cX6_init 62 = .ok (.aload_n 0, 1) := by decide +kernel
theorem dX6_init_63 : decode cX6_init 63 = .ok (.new 39, 3) := by decide +kernel
theorem dX6_init_66 : decode cX6_init 66 = .ok (.dup, 1) := by decide +kernel
theorem dX6_init_67 : decode cX6_init 67 = .ok (.invokespecial 41, 3) := by decide +kernel
theorem dX6_init_70 : decode cX6_init 70 = .ok (.putfield 46, 3) := by decide +kernel
theorem dX6_init_73 : decode cX6_init 73 = .ok (.aload_n 0, 1) := by decide +kernel
theorem dX6_init_74 : decode cX6_init 74 = .ok (.new 49, 3) := by decide +kernel
theorem dX6_init_77 : decode cX6_init 77 = .ok (.dup, 1) := by decide +kernel
theorem dX6_init_78 : decode cX6_init 78 = .ok (.invokespecial 51, 3) := by decide +kernel
theorem dX6_init_81 : decode cX6_init 81 = .ok (.putfield 52, 3) := by decide +kernel
theorem dX6_init_84 : decode cX6_init 84 = .ok (.iconst 0, 1) := by decide +kernel
theorem dX6_init_85 : decode cX6_init 85 = .ok (.istore_n 1, 1) := by decide +kernel
theorem dX6_init_86 : decode cX6_init 86 = .ok (.iload_n 1, 1) := by decide +kernel
theorem dX6_init_87 : decode cX6_init 87 = .ok (.bipush 6, 2) := by decide +kernel
theorem dX6_init_89 : decode cX6_init 89 = .ok (.if_icmp .ge 22, 3) := by decide +kernel
theorem dX6_init_92 : decode cX6_init 92 = .ok (.aload_n 0, 1) := by decide +kernel
theorem dX6_init_93 : decode cX6_init 93 = .ok (.getfield 11, 3) := by decide +kernel
theorem dX6_init_96 : decode cX6_init 96 = .ok (.iload_n 1, 1) := by decide +kernel
theorem dX6_init_97 : decode cX6_init 97 = .ok (.new 9, 3) := by decide +kernel
theorem dX6_init_100 : decode cX6_init 100 = .ok (.dup, 1) := by decide +kernel
theorem dX6_init_101 : decode cX6_init 101 = .ok (.invokespecial 56, 3) := by decide +kernel
theorem dX6_init_104 : decode cX6_init 104 = .ok (.aastore, 1) := by decide +kernel
theorem dX6_init_105 : decode cX6_init 105 = .ok (.iinc 1 1, 3) := by decide +kernel
theorem dX6_init_108 : decode cX6_init 108 = .ok (.goto (-22), 3) := by decide +kernel
theorem dX6_init_111 : decode cX6_init 111 = .ok (.iconst 0, 1) := by decide +kernel
theorem dX6_init_112 : decode cX6_init 112 = .ok (.istore_n 1, 1) := by decide +kernel
theorem dX6_init_113 : decode cX6_init 113 = .ok (.iload_n 1, 1) := by decide +kernel
theorem dX6_init_114 : decode cX6_init 114 = .ok (.iconst 2, 1) := by decide +kernel
theorem dX6_init_115 : decode cX6_init 115 = .ok (.if_icmp .ge 22, 3) := by decide +kernel
theorem dX6_init_118 : decode cX6_init 118 = .ok (.aload_n 0, 1) := by decide +kernel
theorem dX6_init_119 : decode cX6_init 119 = .ok (.getfield 35, 3) := by decide +kernel
theorem dX6_init_122 : decode cX6_init 122 = .ok (.iload_n 1, 1) := by decide +kernel
theorem dX6_init_123 : decode cX6_init 123 = .ok (.new 33, 3) := by decide +kernel
theorem dX6_init_126 : decode cX6_init 126 = .ok (.dup, 1) := by decide +kernel
theorem dX6_init_127 : decode cX6_init 127 = .ok (.invokespecial 57, 3) := by decide +kernel
theorem dX6_init_130 : decode cX6_init 130 = .ok (.aastore, 1) := by decide +kernel
theorem dX6_init_131 : decode cX6_init 131 = .ok (.iinc 1 1, 3) := by decide +kernel
