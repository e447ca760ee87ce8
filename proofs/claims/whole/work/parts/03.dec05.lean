theorem dX7_callsOf_34 : decode cX7_callsOf 34 = .ok (.getfield 127, 3) := by decide +kernel
theorem dX7_callsOf_37 : decode cX7_callsOf 37 = .ok (.ishl, 1) := by decide +kernel
theorem dX7_callsOf_38 : decode cX7_callsOf 38 = .ok (.goto 4, 3) := by decide +kernel
theorem dX7_callsOf_41 : decode cX7_callsOf 41 = .ok (.iconst 0, 1) := by decide +kernel
theorem dX7_callsOf_42 : decode cX7_callsOf 42 = .ok (.ior, 1) := by decide +kernel
theorem dX7_callsOf_43 : decode cX7_callsOf 43 = .ok (.istore_n 2, 1) := by decide +kernel
theorem dX7_callsOf_44 : decode cX7_callsOf 44 = .ok (.goto (-37), 3) := by decide +kernel
theorem dX7_callsOf_47 : decode cX7_callsOf 47 = .ok (.iload_n 2, 1) := by decide +kernel
theorem dX7_callsOf_48 : decode cX7_callsOf 48 = .ok (.ireturn, 1) := by decide +kernel
theorem dX7_findReaches_0 : decode cX7_findReaches 0 = .ok (.iconst 0, 1) := by decide +kernel
theorem dX7_findReaches_1 : decode cX7_findReaches 1 = .ok (.istore_n 1, 1) := by decide +kernel
theorem dX7_findReaches_2 : decode cX7_findReaches 2 = .ok (.iload_n 1, 1) := by decide +kernel
theorem dX7_findReaches_3 : decode cX7_findReaches 3 = .ok (.bipush 6, 2) := by decide +kernel
theorem dX7_findReaches_5 : decode cX7_findReaches 5 = .ok (.if_icmp .ge 24, 3) := by decide +kernel
theorem dX7_findReaches_8 : decode cX7_findReaches 8 = .ok (.aload_n 0, 1) := by decide +kernel
theorem dX7_findReaches_9 : decode cX7_findReaches 9 = .ok (.getfield 37, 3) := by decide +kernel
theorem dX7_findReaches_12 : decode cX7_findReaches 12 = .ok (.iload_n 1, 1) := by decide +kernel
theorem dX7_findReaches_13 : decode cX7_findReaches 13 = .ok (.iconst 1, 1) := by decide +kernel
theorem dX7_findReaches_14 : decode cX7_findReaches 14 = .ok (.iload_n 1, 1) := by decide +kernel
theorem dX7_findReaches_15 : decode cX7_findReaches 15 = .ok (.ishl, 1) := by decide +kernel
theorem dX7_findReaches_16 : decode cX7_findReaches 16 = .ok (.aload_n 0, 1) := by decide +kernel
theorem dX7_findReaches_17 : decode cX7_findReaches 17 = .ok (.iload_n 1, 1) := by decide +kernel
theorem dX7_findReaches_18 : decode cX7_findReaches 18 = .ok (.invokevirtual 167, 3) := by decide +kernel
theorem dX7_findReaches_21 : decode cX7_findReaches 21 = .ok (.ior, 1) := by decide +kernel
theorem dX7_findReaches_22 : decode cX7_findReaches 22 = .ok (.iastore, 1) := by decide +kernel
theorem dX7_findReaches_23 : decode cX7_findReaches 23 = .ok (.iinc 1 1, 3) := by decide +kernel
theorem dX7_findReaches_26 : decode cX7_findReaches 26 = .ok (.goto (-24), 3) := by decide +kernel
theorem dX7_findReaches_29 : decode cX7_findReaches 29 = .ok (.iconst 0, 1) := by decide +kernel
theorem dX7_findReaches_30 : decode cX7_findReaches 30 = .ok (.istore_n 1, 1) := by decide +kernel
theorem dX7_findReaches_31 : decode cX7_findReaches 31 = .ok (.iload_n 1, 1) := by decide +kernel
theorem dX7_findReaches_32 : decode cX7_findReaches 32 = .ok (.bipush 6, 2) := by decide +kernel
theorem dX7_findReaches_34 : decode cX7_findReaches 34 = .ok (.if_icmp .ge 70, 3) := by decide +kernel
theorem dX7_findReaches_37 : decode cX7_findReaches 37 = .ok (.iconst 0, 1) := by decide +kernel
theorem dX7_findReaches_38 : decode cX7_findReaches 38 = .ok (.istore_n 2, 1) := by decide +kernel
theorem dX7_findReaches_39 : decode cX7_findReaches 39 = .ok (.iload_n 2, 1) := by decide +kernel
theorem dX7_findReaches_40 : decode cX7_findReaches 40 = .ok (.bipush 6, 2) := by decide +kernel
theorem dX7_findReaches_42 : decode cX7_findReaches 42 = .ok (.if_icmp .ge 56, 3) := by decide +kernel
theorem dX7_findReaches_45 : decode cX7_findReaches 45 = .ok (.iconst 0, 1) := by decide +kernel
theorem dX7_findReaches_46 : decode cX7_findReaches 46 = .ok (.istore_n 3, 1) := by decide +kernel
theorem dX7_findReaches_47 : decode cX7_findReaches 47 = .ok (.iload_n 3, 1) := by decide +kernel
theorem dX7_findReaches_48 : decode cX7_findReaches 48 = .ok (.bipush 6, 2) := by decide +kernel
theorem dX7_findReaches_50 : decode cX7_findReaches 50 = .ok (.if_icmp .ge 42, 3) := by decide +kernel
theorem dX7_findReaches_53 : decode cX7_findReaches 53 = .ok (.aload_n 0, 1) := by decide +kernel
theorem dX7_findReaches_54 : decode cX7_findReaches 54 = .ok (.getfield 37, 3) := by decide +kernel
theorem dX7_findReaches_57 : decode cX7_findReaches 57 = .ok (.iload_n 2, 1) := by decide +kernel
theorem dX7_findReaches_58 : decode cX7_findReaches 58 = .ok (.dup2, 1) := by decide +kernel
theorem dX7_findReaches_59 : decode cX7_findReaches 59 = .ok (.iaload, 1) := by decide +kernel
theorem dX7_findReaches_60 : decode cX7_findReaches 60 = .ok (.aload_n 0, 1) := by decide +kernel
theorem dX7_findReaches_61 : decode cX7_findReaches 61 = .ok (.getfield 37, 3) := by decide +kernel
theorem dX7_findReaches_64 : decode cX7_findReaches 64 = .ok (.iload_n 2, 1) := by decide +kernel
theorem dX7_findReaches_65 : decode cX7_findReaches 65 = .ok (.iaload, 1) := by decide +kernel
theorem dX7_findReaches_66 : decode cX7_findReaches 66 = .ok (.iload_n 3, 1) := by decide +kernel
theorem dX7_findReaches_67 : decode cX7_findReaches 67 = .ok (.ishr, 1) := by decide +kernel
theorem dX7_findReaches_68 : decode cX7_findReaches 68 = .ok (.iconst 1, 1) := by decide +kernel
theorem dX7_findReaches_69 : decode cX7_findReaches 69 = .ok (.iand, 1) := by decide +kernel
theorem dX7_findReaches_70 : decode cX7_findReaches 70 = .ok (.iconst 1, 1) := by decide +kernel
theorem dX7_findReaches_71 : decode cX7_findReaches 71 = .ok (.if_icmp .ne 12, 3) := by decide +kernel
theorem dX7_findReaches_74 : decode cX7_findReaches 74 = .ok (.aload_n 0, 1) := by decide +kernel
theorem dX7_findReaches_75 : decode cX7_findReaches 75 = .ok (.getfield 37, 3) := by decide +kernel
theorem dX7_findReaches_78 : decode cX7_findReaches 78 = .ok (.iload_n 3, 1) := by decide +kernel
theorem dX7_findReaches_79 : decode cX7_findReaches 79 = .ok (.iaload, 1) := by decide +kernel
theorem dX7_findReaches_80 : decode cX7_findReaches 80 = .ok (.goto 4, 3) := by decide +kernel
theorem dX7_findReaches_83 : decode cX7_findReaches 83 = .ok (.iconst 0, 1) := by decide +kernel
theorem dX7_findReaches_84 : decode cX7_findReaches 84 = .ok (.ior, 1) := by decide +kernel
theorem dX7_findReaches_85 : decode cX7_findReaches 85 = .ok (.iastore, 1) := by decide +kernel
theorem dX7_findReaches_86 : decode cX7_findReaches 86 = .ok (.iinc 3 1, 3) := by decide +kernel
theorem dX7_findReaches_89 : decode cX7_findReaches 89 = .ok (.goto (-42), 3) := by decide +kernel
theorem dX7_findReaches_92 : decode cX7_findReaches 92 = .ok (.iinc 2 1, 3) := by decide +kernel
theorem dX7_findReaches_95 : decode cX7_findReaches 95 = .ok (.goto (-56), 3) := by decide +kernel
theorem dX7_findReaches_98 : decode cX7_findReaches 98 = .ok (.iinc 1 1, 3) := by decide +kernel
theorem dX7_findReaches_101 : decode cX7_findReaches 101 = .ok (.goto (-70), 3) := by decide +kernel
theorem dX7_findReaches_104 : decode cX7_findReaches 104 = .ok (.return_, 1) := by decide +kernel
theorem dX7_isKnown_0 : decode cX7_isKnown 0 = .ok (.iconst 1, 1) := by decide +kernel
theorem dX7_isKnown_1 : decode cX7_isKnown 1 = .ok (.istore_n 2, 1) := by decide +kernel
theorem dX7_isKnown_2 : decode cX7_isKnown 2 = .ok (.iconst 0, 1) := by decide +kernel
theorem dX7_isKnown_3 : decode cX7_isKnown 3 = .ok (.istore_n 3, 1) := by decide +kernel
theorem dX7_isKnown_4 : decode cX7_isKnown 4 = .ok (.iload_n 3, 1) := by decide +kernel
theorem dX7_isKnown_5 : decode cX7_isKnown 5 = .ok (.bipush 6, 2) := by decide +kernel
theorem dX7_isKnown_7 : decode cX7_isKnown 7 = .ok (.if_icmp .ge 40, 3) := by decide +kernel
theorem dX7_isKnown_10 : decode cX7_isKnown 10 = .ok (.iload_n 2, 1) := by decide +kernel
theorem dX7_isKnown_11 : decode cX7_isKnown 11 = .ok (.ifCond .eq 28, 3) := by decide +kernel
theorem dX7_isKnown_14 : decode cX7_isKnown 14 = .ok (.aload_n 0, 1) := by decide +kernel
theorem dX7_isKnown_15 : decode cX7_isKnown 15 = .ok (.getfield 37, 3) := by decide +kernel
theorem dX7_isKnown_18 : decode cX7_isKnown 18 = .ok (.iload_n 1, 1) := by decide +kernel
theorem dX7_isKnown_19 : decode cX7_isKnown 19 = .ok (.iaload, 1) := by decide +kernel
theorem dX7_isKnown_20 : decode cX7_isKnown 20 = .ok (.iload_n 3, 1) := by decide +kernel
theorem dX7_isKnown_21 : decode cX7_isKnown 21 = .ok (.ishr, 1) := by decide +kernel
theorem dX7_isKnown_22 : decode cX7_isKnown 22 = .ok (.iconst 1, 1) := by decide +kernel
theorem dX7_isKnown_23 : decode cX7_isKnown 23 = .ok (.iand, 1) := by decide +kernel
theorem dX7_isKnown_24 : decode cX7_isKnown 24 = .ok (.ifCond .eq 11, 3) := by decide +kernel
theorem dX7_isKnown_27 : decode cX7_isKnown 27 = .ok (.aload_n 0, 1) := by decide +kernel
theorem dX7_isKnown_28 : decode cX7_isKnown 28 = .ok (.iload_n 3, 1) := by decide +kernel
theorem dX7_isKnown_29 : decode cX7_isKnown 29 = .ok (.invokevirtual 159, 3) := by decide +kernel
theorem dX7_isKnown_32 : decode cX7_isKnown 32 = .ok (.ifCond .ge 7, 3) := by decide +kernel
theorem dX7_isKnown_35 : decode cX7_isKnown 35 = .ok (.iconst 1, 1) := by decide +kernel
theorem dX7_isKnown_36 : decode cX7_isKnown 36 = .ok (.goto 4, 3) := by decide +kernel
theorem dX7_isKnown_39 : decode cX7_isKnown 39 = .ok (.iconst 0, 1) := by decide +kernel
theorem dX7_isKnown_40 : decode cX7_isKnown 40 = .ok (.istore_n 2, 1) := by decide +kernel
theorem dX7_isKnown_41 : decode cX7_isKnown 41 = .ok (.iinc 3 1, 3) := by decide +kernel
theorem dX7_isKnown_44 : decode cX7_isKnown 44 = .ok (.goto (-40), 3) := by decide +kernel
theorem dX7_isKnown_47 : decode cX7_isKnown 47 = .ok (.iload_n 2, 1) := by decide +kernel
theorem dX7_isKnown_48 : decode cX7_isKnown 48 = .ok (.ireturn, 1) := by decide +kernel
theorem dX7_more_0 : decode cX7_more 0 = .ok (.aload_n 0, 1) := by decide +kernel
theorem dX7_more_1 : decode cX7_more 1 = .ok (.aload_n 0, 1) := by decide +kernel
theorem dX7_more_2 : decode cX7_more 2 = .ok (.getfield 170, 3) := by decide +kernel
theorem dX7_more_5 : decode cX7_more 5 = .ok (.ifCond .ne 10, 3) := by decide +kernel
theorem dX7_more_8 : decode cX7_more 8 = .ok (.iload_n 1, 1) := by decide +kernel
theorem dX7_more_9 : decode cX7_more 9 = .ok (.iload_n 2, 1) := by decide +kernel
theorem dX7_more_10 : decode cX7_more 10 = .ok (.ior, 1) := by decide +kernel
theorem dX7_more_11 : decode cX7_more 11 = .ok (.iload_n 1, 1) := by decide +kernel
theorem dX7_more_12 : decode cX7_more 12 = .ok (.if_icmp .eq 7, 3) := by decide +kernel
theorem dX7_more_15 : decode cX7_more 15 = .ok (.iconst 1, 1) := by decide +kernel
theorem dX7_more_16 : decode cX7_more 16 = .ok (.goto 4, 3) := by decide +kernel
theorem dX7_more_19 : decode cX7_more 19 = .ok (.iconst 0, 1) := by decide +kernel
theorem dX7_more_20 : decode cX7_more 20 = .ok (.putfield 170, 3) := by decide +kernel
theorem dX7_more_23 : decode cX7_more 23 = .ok (.iload_n 1, 1) := by decide +kernel
theorem dX7_more_24 : decode cX7_more 24 = .ok (.iload_n 2, 1) := by decide +kernel
theorem dX7_more_25 : decode cX7_more 25 = .ok (.ior, 1) := by decide +kernel
theorem dX7_more_26 : decode cX7_more 26 = .ok (.ireturn, 1) := by decide +kernel
theorem dX7_takeIn_0 : decode cX7_takeIn 0 = .ok (.aload_n 0, 1) := by decide +kernel
theorem dX7_takeIn_1 : decode cX7_takeIn 1 = .ok (.getfield 25, 3) := by decide +kernel
theorem dX7_takeIn_4 : decode cX7_takeIn 4 = .ok (.iload_n 1, 1) := by decide +kernel
theorem dX7_takeIn_5 : decode cX7_takeIn 5 = .ok (.aload_n 0, 1) := by decide +kernel
theorem dX7_takeIn_6 : decode cX7_takeIn 6 = .ok (.aload_n 0, 1) := by decide +kernel
theorem dX7_takeIn_7 : decode cX7_takeIn 7 = .ok (.getfield 25, 3) := by decide +kernel
theorem dX7_takeIn_10 : decode cX7_takeIn 10 = .ok (.iload_n 1, 1) := by decide +kernel
theorem dX7_takeIn_11 : decode cX7_takeIn 11 = .ok (.iaload, 1) := by decide +kernel
theorem dX7_takeIn_12 : decode cX7_takeIn 12 = .ok (.iload_n 2, 1) := by decide +kernel
theorem dX7_takeIn_13 : decode cX7_takeIn 13 = .ok (.invokevirtual 174, 3) := by decide +kernel
theorem dX7_takeIn_16 : decode cX7_takeIn 16 = .ok (.iastore, 1) := by decide +kernel
theorem dX7_takeIn_17 : decode cX7_takeIn 17 = .ok (.aload_n 0, 1) := by decide +kernel
theorem dX7_takeIn_18 : decode cX7_takeIn 18 = .ok (.getfield 28, 3) := by decide +kernel
theorem dX7_takeIn_21 : decode cX7_takeIn 21 = .ok (.iload_n 1, 1) := by decide +kernel
theorem dX7_takeIn_22 : decode cX7_takeIn 22 = .ok (.aload_n 0, 1) := by decide +kernel
theorem dX7_takeIn_23 : decode cX7_takeIn 23 = .ok (.aload_n 0, 1) := by decide +kernel
theorem dX7_takeIn_24 : decode cX7_takeIn 24 = .ok (.getfield 28, 3) := by decide +kernel
theorem dX7_takeIn_27 : decode cX7_takeIn 27 = .ok (.iload_n 1, 1) := by decide +kernel
theorem dX7_takeIn_28 : decode cX7_takeIn 28 = .ok (.iaload, 1) := by decide +kernel
theorem dX7_takeIn_29 : decode cX7_takeIn 29 = .ok (.iload_n 3, 1) := by decide +kernel
theorem dX7_takeIn_30 : decode cX7_takeIn 30 = .ok (.invokevirtual 174, 3) := by decide +kernel
theorem dX7_takeIn_33 : decode cX7_takeIn 33 = .ok (.iastore, 1) := by decide +kernel
theorem dX7_takeIn_34 : decode cX7_takeIn 34 = .ok (.aload_n 0, 1) := by decide +kernel
theorem dX7_takeIn_35 : decode cX7_takeIn 35 = .ok (.getfield 31, 3) := by decide +kernel
theorem dX7_takeIn_38 : decode cX7_takeIn 38 = .ok (.iload_n 1, 1) := by decide +kernel
theorem dX7_takeIn_39 : decode cX7_takeIn 39 = .ok (.aload_n 0, 1) := by decide +kernel
theorem dX7_takeIn_40 : decode cX7_takeIn 40 = .ok (.aload_n 0, 1) := by decide +kernel
theorem dX7_takeIn_41 : decode cX7_takeIn 41 = .ok (.getfield 31, 3) := by decide +kernel
theorem dX7_takeIn_44 : decode cX7_takeIn 44 = .ok (.iload_n 1, 1) := by decide +kernel
theorem dX7_takeIn_45 : decode cX7_takeIn 45 = .ok (.iaload, 1) := by decide +kernel
theorem dX7_takeIn_46 : decode cX7_takeIn 46 = .ok (.iload 4, 2) := by decide +kernel
theorem dX7_takeIn_48 : decode cX7_takeIn 48 = .ok (.invokevirtual 174, 3) := by decide +kernel
theorem dX7_takeIn_51 : decode cX7_takeIn 51 = .ok (.iastore, 1) := by decide +kernel
theorem dX7_takeIn_52 : decode cX7_takeIn 52 = .ok (.aload_n 0, 1) := by decide +kernel
theorem dX7_takeIn_53 : decode cX7_takeIn 53 = .ok (.getfield 34, 3) := by decide +kernel
theorem dX7_takeIn_56 : decode cX7_takeIn 56 = .ok (.iload_n 1, 1) := by decide +kernel
theorem dX7_takeIn_57 : decode cX7_takeIn 57 = .ok (.aload_n 0, 1) := by decide +kernel
theorem dX7_takeIn_58 : decode cX7_takeIn 58 = .ok (.aload_n 0, 1) := by decide +kernel
theorem dX7_takeIn_59 : decode cX7_takeIn 59 = .ok (.getfield 34, 3) := by decide +kernel
theorem dX7_takeIn_62 : decode cX7_takeIn 62 = .ok (.iload_n 1, 1) := by decide +kernel
theorem dX7_takeIn_63 : decode cX7_takeIn 63 = .ok (.iaload, 1) := by decide +kernel
theorem dX7_takeIn_64 : decode cX7_takeIn 64 = .ok (.iload 5, 2) := by decide +kernel
theorem dX7_takeIn_66 : decode cX7_takeIn 66 = .ok (.invokevirtual 174, 3) := by decide +kernel
theorem dX7_takeIn_69 : decode cX7_takeIn 69 = .ok (.iastore, 1) := by decide +kernel
theorem dX7_takeIn_70 : decode cX7_takeIn 70 = .ok (.return_, 1) := by decide +kernel
theorem dX7_addEffects_0 : decode cX7_addEffects 0 = .ok (.bipush 12, 2) := by decide +kernel
theorem dX7_addEffects_2 : decode cX7_addEffects 2 = .ok (.iload_n 1, 1) := by decide +kernel
theorem dX7_addEffects_3 : decode cX7_addEffects 3 = .ok (.imul, 1) := by decide +kernel
theorem dX7_addEffects_4 : decode cX7_addEffects 4 = .ok (.iload_n 2, 1) := by decide +kernel
theorem dX7_addEffects_5 : decode cX7_addEffects 5 = .ok (.iadd, 1) := by decide +kernel
theorem dX7_addEffects_6 : decode cX7_addEffects 6 = .ok (.istore_n 3, 1) := by decide +kernel
theorem dX7_addEffects_7 : decode cX7_addEffects 7 = .ok (.aload_n 0, 1) := by decide +kernel
theorem dX7_addEffects_8 : decode cX7_addEffects 8 = .ok (.iload_n 1, 1) := by decide +kernel
theorem dX7_addEffects_9 : decode cX7_addEffects 9 = .ok (.invokevirtual 149, 3) := by decide +kernel
theorem dX7_addEffects_12 : decode cX7_addEffects 12 = .ok (.aload_n 0, 1) := by decide +kernel
theorem dX7_addEffects_13 : decode cX7_addEffects 13 = .ok (.invokevirtual 153, 3) := by decide +kernel
theorem dX7_addEffects_16 : decode cX7_addEffects 16 = .ok (.ifCond .eq 164, 3) := by decide +kernel
theorem dX7_addEffects_19 : decode cX7_addEffects 19 = .ok (.aload_n 0, 1) := by decide +kernel
theorem dX7_addEffects_20 : decode cX7_addEffects 20 = .ok (.iload_n 2, 1) := by decide +kernel
theorem dX7_addEffects_21 : decode cX7_addEffects 21 = .ok (.invokevirtual 156, 3) := by decide +kernel
theorem dX7_addEffects_24 : decode cX7_addEffects 24 = .ok (.ifCond .eq 156, 3) := by decide +kernel
theorem dX7_addEffects_27 : decode cX7_addEffects 27 = .ok (.bipush 12, 2) := by decide +kernel
theorem dX7_addEffects_29 : decode cX7_addEffects 29 = .ok (.aload_n 0, 1) := by decide +kernel
theorem dX7_addEffects_30 : decode cX7_addEffects 30 = .ok (.getfield 127, 3) := by decide +kernel
theorem dX7_addEffects_33 : decode cX7_addEffects 33 = .ok (.imul, 1) := by decide +kernel
theorem dX7_addEffects_34 : decode cX7_addEffects 34 = .ok (.aload_n 0, 1) := by decide +kernel
theorem dX7_addEffects_35 : decode cX7_addEffects 35 = .ok (.getfield 130, 3) := by decide +kernel
theorem dX7_addEffects_38 : decode cX7_addEffects 38 = .ok (.iadd, 1) := by decide +kernel
theorem dX7_addEffects_39 : decode cX7_addEffects 39 = .ok (.istore 4, 2) := by decide +kernel
theorem dX7_addEffects_41 : decode cX7_addEffects 41 = .ok (.aload_n 0, 1) := by decide +kernel
theorem dX7_addEffects_42 : decode cX7_addEffects 42 = .ok (.getfield 133, 3) := by decide +kernel
theorem dX7_addEffects_45 : decode cX7_addEffects 45 = .ok (.bipush 99, 2) := by decide +kernel
theorem dX7_addEffects_47 : decode cX7_addEffects 47 = .ok (.if_icmp .ne 39, 3) := by decide +kernel
theorem dX7_addEffects_50 : decode cX7_addEffects 50 = .ok (.aload_n 0, 1) := by decide +kernel
theorem dX7_addEffects_51 : decode cX7_addEffects 51 = .ok (.iload_n 3, 1) := by decide +kernel
theorem dX7_addEffects_52 : decode cX7_addEffects 52 = .ok (.aload_n 0, 1) := by decide +kernel
theorem dX7_addEffects_53 : decode cX7_addEffects 53 = .ok (.getfield 25, 3) := by decide +kernel
theorem dX7_addEffects_56 : decode cX7_addEffects 56 = .ok (.iload 4, 2) := by decide +kernel
theorem dX7_addEffects_58 : decode cX7_addEffects 58 = .ok (.iaload, 1) := by decide +kernel
theorem dX7_addEffects_59 : decode cX7_addEffects 59 = .ok (.aload_n 0, 1) := by decide +kernel
theorem dX7_addEffects_60 : decode cX7_addEffects 60 = .ok (.getfield 28, 3) := by decide +kernel
theorem dX7_addEffects_63 : decode cX7_addEffects 63 = .ok (.iload 4, 2) := by decide +kernel
theorem dX7_addEffects_65 : decode cX7_addEffects 65 = .ok (.iaload, 1) := by decide +kernel
theorem dX7_addEffects_66 : decode cX7_addEffects 66 = .ok (.aload_n 0, 1) := by decide +kernel
theorem dX7_addEffects_67 : decode cX7_addEffects 67 = .ok (.getfield 31, 3) := by decide +kernel
theorem dX7_addEffects_70 : decode cX7_addEffects 70 = .ok (.iload 4, 2) := by decide +kernel
theorem dX7_addEffects_72 : decode cX7_addEffects 72 = .ok (.iaload, 1) := by decide +kernel
theorem dX7_addEffects_73 : decode cX7_addEffects 73 = .ok (.aload_n 0, 1) := by decide +kernel
theorem dX7_addEffects_74 : decode cX7_addEffects 74 = .ok (.getfield 34, 3) := by decide +kernel
theorem dX7_addEffects_77 : decode cX7_addEffects 77 = .ok (.iload 4, 2) := by decide +kernel
theorem dX7_addEffects_79 : decode cX7_addEffects 79 = .ok (.iaload, 1) := by decide +kernel
theorem dX7_addEffects_80 : decode cX7_addEffects 80 = .ok (.invokevirtual 178, 3) := by decide +kernel
theorem dX7_addEffects_83 : decode cX7_addEffects 83 = .ok (.goto 94, 3) := by decide +kernel
theorem dX7_addEffects_86 : decode cX7_addEffects 86 = .ok (.aload_n 0, 1) := by decide +kernel
theorem dX7_addEffects_87 : decode cX7_addEffects 87 = .ok (.getfield 133, 3) := by decide +kernel
theorem dX7_addEffects_90 : decode cX7_addEffects 90 = .ok (.bipush 63, 2) := by decide +kernel
theorem dX7_addEffects_92 : decode cX7_addEffects 92 = .ok (.if_icmp .ne 20, 3) := by decide +kernel
theorem dX7_addEffects_95 : decode cX7_addEffects 95 = .ok (.aload_n 0, 1) := by decide +kernel
theorem dX7_addEffects_96 : decode cX7_addEffects 96 = .ok (.iload_n 3, 1) := by decide +kernel
theorem dX7_addEffects_97 : decode cX7_addEffects 97 = .ok (.iconst 1, 1) := by decide +kernel
theorem dX7_addEffects_98 : decode cX7_addEffects 98 = .ok (.aload_n 0, 1) := by decide +kernel
theorem dX7_addEffects_99 : decode cX7_addEffects 99 = .ok (.getfield 124, 3) := by decide +kernel
theorem dX7_addEffects_102 : decode cX7_addEffects 102 = .ok (.ishl, 1) := by decide +kernel
theorem dX7_addEffects_103 : decode cX7_addEffects 103 = .ok (.iconst 0, 1) := by decide +kernel
theorem dX7_addEffects_104 : decode cX7_addEffects 104 = .ok (.iconst 0, 1) := by decide +kernel
theorem dX7_addEffects_105 : decode cX7_addEffects 105 = .ok (.iconst 1, 1) := by decide +kernel
theorem dX7_addEffects_106 : decode cX7_addEffects 106 = .ok (.invokevirtual 178, 3) := by decide +kernel
theorem dX7_addEffects_109 : decode cX7_addEffects 109 = .ok (.goto 68, 3) := by decide +kernel
theorem dX7_addEffects_112 : decode cX7_addEffects 112 = .ok (.aload_n 0, 1) := by decide +kernel
theorem dX7_addEffects_113 : decode cX7_addEffects 113 = .ok (.getfield 133, 3) := by decide +kernel
theorem dX7_addEffects_116 : decode cX7_addEffects 116 = .ok (.bipush 61, 2) := by decide +kernel
theorem dX7_addEffects_118 : decode cX7_addEffects 118 = .ok (.if_icmp .eq 12, 3) := by decide +kernel
theorem dX7_addEffects_121 : decode cX7_addEffects 121 = .ok (.aload_n 0, 1) := by decide +kernel
theorem dX7_addEffects_122 : decode cX7_addEffects 122 = .ok (.getfield 133, 3) := by decide +kernel
theorem dX7_addEffects_125 : decode cX7_addEffects 125 = .ok (.bipush 35, 2) := by decide +kernel
theorem dX7_addEffects_127 : decode cX7_addEffects 127 = .ok (.if_icmp .ne 7, 3) := by decide +kernel
theorem dX7_addEffects_130 : decode cX7_addEffects 130 = .ok (.iconst 1, 1) := by decide +kernel
theorem dX7_addEffects_131 : decode cX7_addEffects 131 = .ok (.goto 4, 3) := by decide +kernel
theorem dX7_addEffects_134 : decode cX7_addEffects 134 = .ok (.iconst 0, 1) := by decide +kernel
theorem dX7_addEffects_135 : decode cX7_addEffects 135 = .ok (.istore 5, 2) := by decide +kernel
theorem dX7_addEffects_137 : decode cX7_addEffects 137 = .ok (.aload_n 0, 1) := by decide +kernel
theorem dX7_addEffects_138 : decode cX7_addEffects 138 = .ok (.iload_n 3, 1) := by decide +kernel
theorem dX7_addEffects_139 : decode cX7_addEffects 139 = .ok (.aload_n 0, 1) := by decide +kernel
theorem dX7_addEffects_140 : decode cX7_addEffects 140 = .ok (.getfield 115, 3) := by decide +kernel
theorem dX7_addEffects_143 : decode cX7_addEffects 143 = .ok (.iload 5, 2) := by decide +kernel
theorem dX7_addEffects_145 : decode cX7_addEffects 145 = .ok (.ifCond .eq 12, 3) := by decide +kernel
theorem dX7_addEffects_148 : decode cX7_addEffects 148 = .ok (.iconst 1, 1) := by decide +kernel
theorem dX7_addEffects_149 : decode cX7_addEffects 149 = .ok (.aload_n 0, 1) := by decide +kernel
theorem dX7_addEffects_150 : decode cX7_addEffects 150 = .ok (.getfield 124, 3) := by decide +kernel
theorem dX7_addEffects_153 : decode cX7_addEffects 153 = .ok (.ishl, 1) := by decide +kernel
theorem dX7_addEffects_154 : decode cX7_addEffects 154 = .ok (.goto 4, 3) := by decide +kernel
theorem dX7_addEffects_157 : decode cX7_addEffects 157 = .ok (.iconst 0, 1) := by decide +kernel
theorem dX7_addEffects_158 : decode cX7_addEffects 158 = .ok (.iload 5, 2) := by decide +kernel
theorem dX7_addEffects_160 : decode cX7_addEffects 160 = .ok (.ifCond .eq 7, 3) := by decide +kernel
theorem dX7_addEffects_163 : decode cX7_addEffects 163 = .ok (.iconst 0, 1) := by decide +kernel
theorem dX7_addEffects_164 : decode cX7_addEffects 164 = .ok (.goto 9, 3) := by decide +kernel
theorem dX7_addEffects_167 : decode cX7_addEffects 167 = .ok (.iconst 1, 1) := by decide +kernel
theorem dX7_addEffects_168 : decode cX7_addEffects 168 = .ok (.aload_n 0, 1) := by decide +kernel
theorem dX7_addEffects_169 : decode cX7_addEffects 169 = .ok (.getfield 124, 3) := by decide +kernel
theorem dX7_addEffects_172 : decode cX7_addEffects 172 = .ok (.ishl, 1) := by decide +kernel
theorem dX7_addEffects_173 : decode cX7_addEffects 173 = .ok (.iconst 0, 1) := by decide +kernel
theorem dX7_addEffects_174 : decode cX7_addEffects 174 = .ok (.invokevirtual 178, 3) := by decide +kernel
theorem dX7_addEffects_177 : decode cX7_addEffects 177 = .ok (.goto (-165), 3) := by decide +kernel
theorem dX7_addEffects_180 : decode cX7_addEffects 180 = .ok (.return_, 1) := by decide +kernel
theorem dX7_findEffects_0 : decode cX7_findEffects 0 = .ok (.aload_n 0, 1) := by decide +kernel
theorem dX7_findEffects_1 : decode cX7_findEffects 1 = .ok (.invokevirtual 182, 3) := by decide +kernel
theorem dX7_findEffects_4 : decode cX7_findEffects 4 = .ok (.iconst 0, 1) := by decide +kernel
theorem dX7_findEffects_5 : decode cX7_findEffects 5 = .ok (.istore_n 1, 1) := by decide +kernel
theorem dX7_findEffects_6 : decode cX7_findEffects 6 = .ok (.iload_n 1, 1) := by decide +kernel
theorem dX7_findEffects_7 : decode cX7_findEffects 7 = .ok (.bipush 72, 2) := by decide +kernel
theorem dX7_findEffects_9 : decode cX7_findEffects 9 = .ok (.if_icmp .ge 37, 3) := by decide +kernel
theorem dX7_findEffects_12 : decode cX7_findEffects 12 = .ok (.aload_n 0, 1) := by decide +kernel
theorem dX7_findEffects_13 : decode cX7_findEffects 13 = .ok (.getfield 25, 3) := by decide +kernel
theorem dX7_findEffects_16 : decode cX7_findEffects 16 = .ok (.iload_n 1, 1) := by decide +kernel
theorem dX7_findEffects_17 : decode cX7_findEffects 17 = .ok (.iconst 0, 1) := by decide +kernel
theorem dX7_findEffects_18 : decode cX7_findEffects 18 = .ok (.iastore, 1) := by decide +kernel
theorem dX7_findEffects_19 : decode cX7_findEffects 19 = .ok (.aload_n 0, 1) := by decide +kernel
theorem dX7_findEffects_20 : decode cX7_findEffects 20 = .ok (.getfield 28, 3) := by decide +kernel
theorem dX7_findEffects_23 : decode cX7_findEffects 23 = .ok (.iload_n 1, 1) := by decide +kernel
theorem dX7_findEffects_24 : decode cX7_findEffects 24 = .ok (.iconst 0, 1) := by decide +kernel
theorem dX7_findEffects_25 : decode cX7_findEffects 25 = .ok (.iastore, 1) := by decide +kernel
theorem dX7_findEffects_26 : decode cX7_findEffects 26 = .ok (.aload_n 0, 1) := by decide +kernel
theorem dX7_findEffects_27 : decode cX7_findEffects 27 = .ok (.getfield 31, 3) := by decide +kernel
theorem dX7_findEffects_30 : decode cX7_findEffects 30 = .ok (.iload_n 1, 1) := by decide +kernel
theorem dX7_findEffects_31 : decode cX7_findEffects 31 = .ok (.iconst 0, 1) := by decide +kernel
theorem dX7_findEffects_32 : decode cX7_findEffects 32 = .ok (.iastore, 1) := by decide +kernel
theorem dX7_findEffects_33 : decode cX7_findEffects 33 = .ok (.aload_n 0, 1) := by decide +kernel
theorem dX7_findEffects_34 : decode cX7_findEffects 34 = .ok (.getfield 34, 3) := by decide +kernel
theorem dX7_findEffects_37 : decode cX7_findEffects 37 = .ok (.iload_n 1, 1) := by decide +kernel
theorem dX7_findEffects_38 : decode cX7_findEffects 38 = .ok (.iconst 0, 1) := by decide +kernel
theorem dX7_findEffects_39 : decode cX7_findEffects 39 = .ok (.iastore, 1) := by decide +kernel
theorem dX7_findEffects_40 : decode cX7_findEffects 40 = .ok (.iinc 1 1, 3) := by decide +kernel
theorem dX7_findEffects_43 : decode cX7_findEffects 43 = .ok (.goto (-37), 3) := by decide +kernel
theorem dX7_findEffects_46 : decode cX7_findEffects 46 = .ok (.aload_n 0, 1) := by decide +kernel
theorem dX7_findEffects_47 : decode cX7_findEffects 47 = .ok (.iconst 1, 1) := by decide +kernel
theorem dX7_findEffects_48 : decode cX7_findEffects 48 = .ok (.putfield 170, 3) := by decide +kernel
theorem dX7_findEffects_51 : decode cX7_findEffects 51 = .ok (.aload_n 0, 1) := by decide +kernel
theorem dX7_findEffects_52 : decode cX7_findEffects 52 = .ok (.getfield 170, 3) := by decide +kernel
theorem dX7_findEffects_55 : decode cX7_findEffects 55 = .ok (.ifCond .eq 37, 3) := by decide +kernel
theorem dX7_findEffects_58 : decode cX7_findEffects 58 = .ok (.aload_n 0, 1) := by decide +kernel
theorem dX7_findEffects_59 : decode cX7_findEffects 59 = .ok (.iconst 0, 1) := by decide +kernel
theorem dX7_findEffects_60 : decode cX7_findEffects 60 = .ok (.putfield 170, 3) := by decide +kernel
theorem dX7_findEffects_63 : decode cX7_findEffects 63 = .ok (.iconst 0, 1) := by decide +kernel
theorem dX7_findEffects_64 : decode cX7_findEffects 64 = .ok (.istore_n 1, 1) := by decide +kernel
theorem dX7_findEffects_65 : decode cX7_findEffects 65 = .ok (.iload_n 1, 1) := by decide +kernel
theorem dX7_findEffects_66 : decode cX7_findEffects 66 = .ok (.bipush 72, 2) := by decide +kernel
theorem dX7_findEffects_68 : decode cX7_findEffects 68 = .ok (.if_icmp .ge 21, 3) := by decide +kernel
theorem dX7_findEffects_71 : decode cX7_findEffects 71 = .ok (.aload_n 0, 1) := by decide +kernel
theorem dX7_findEffects_72 : decode cX7_findEffects 72 = .ok (.iload_n 1, 1) := by decide +kernel
theorem dX7_findEffects_73 : decode cX7_findEffects 73 = .ok (.bipush 12, 2) := by decide +kernel
theorem dX7_findEffects_75 : decode cX7_findEffects 75 = .ok (.idiv, 1) := by decide +kernel
theorem dX7_findEffects_76 : decode cX7_findEffects 76 = .ok (.iload_n 1, 1) := by decide +kernel
theorem dX7_findEffects_77 : decode cX7_findEffects 77 = .ok (.bipush 12, 2) := by decide +kernel
theorem dX7_findEffects_79 : decode cX7_findEffects 79 = .ok (.irem, 1) := by decide +kernel
theorem dX7_findEffects_80 : decode cX7_findEffects 80 = .ok (.invokevirtual 185, 3) := by decide +kernel
theorem dX7_findEffects_83 : decode cX7_findEffects 83 = .ok (.iinc 1 1, 3) := by decide +kernel
theorem dX7_findEffects_86 : decode cX7_findEffects 86 = .ok (.goto (-21), 3) := by decide +kernel
theorem dX7_findEffects_89 : decode cX7_findEffects 89 = .ok (.goto (-38), 3) := by decide +kernel
theorem dX7_findEffects_92 : decode cX7_findEffects 92 = .ok (.return_, 1) := by decide +kernel
theorem dX7_effect_0 : decode cX7_effect 0 = .ok (.iload_n 1, 1) := by decide +kernel
theorem dX7_effect_1 : decode cX7_effect 1 = .ok (.invokestatic 87, 3) := by decide +kernel
theorem dX7_effect_4 : decode cX7_effect 4 = .ok (.ifCond .ne 5, 3) := by decide +kernel
theorem dX7_effect_7 : decode cX7_effect 7 = .ok (.iconst (-1), 1) := by decide +kernel
theorem dX7_effect_8 : decode cX7_effect 8 = .ok (.ireturn, 1) := by decide +kernel
theorem dX7_effect_9 : decode cX7_effect 9 = .ok (.iload_n 2, 1) := by decide +kernel
theorem dX7_effect_10 : decode cX7_effect 10 = .ok (.invokestatic 189, 3) := by decide +kernel
theorem dX7_effect_13 : decode cX7_effect 13 = .ok (.ifCond .eq 15, 3) := by decide +kernel
theorem dX7_effect_16 : decode cX7_effect 16 = .ok (.iload_n 3, 1) := by decide +kernel
theorem dX7_effect_17 : decode cX7_effect 17 = .ok (.i2l, 1) := by decide +kernel
theorem dX7_effect_18 : decode cX7_effect 18 = .ok (.lconst 0, 1) := by decide +kernel
theorem dX7_effect_19 : decode cX7_effect 19 = .ok (.ldc2_w 192, 3) := by decide +kernel
theorem dX7_effect_22 : decode cX7_effect 22 = .ok (.invokestatic 79, 3) := by decide +kernel
theorem dX7_effect_25 : decode cX7_effect 25 = .ok (.ifCond .ne 6, 3) := by decide +kernel
theorem dX7_effect_28 : decode cX7_effect 28 = .ok (.bipush (-2), 2) := by decide +kernel
theorem dX7_effect_30 : decode cX7_effect 30 = .ok (.ireturn, 1) := by decide +kernel
theorem dX7_effect_31 : decode cX7_effect 31 = .ok (.aload_n 0, 1) := by decide +kernel
theorem dX7_effect_32 : decode cX7_effect 32 = .ok (.invokevirtual 194, 3) := by decide +kernel
theorem dX7_effect_35 : decode cX7_effect 35 = .ok (.aload_n 0, 1) := by decide +kernel
theorem dX7_effect_36 : decode cX7_effect 36 = .ok (.iload_n 1, 1) := by decide +kernel
theorem dX7_effect_37 : decode cX7_effect 37 = .ok (.invokevirtual 197, 3) := by decide +kernel
theorem dX7_effect_40 : decode cX7_effect 40 = .ok (.ifCond .ne 6, 3) := by decide +kernel
theorem dX7_effect_43 : decode cX7_effect 43 = .ok (.bipush (-5), 2) := by decide +kernel
theorem dX7_effect_45 : decode cX7_effect 45 = .ok (.ireturn, 1) := by decide +kernel
theorem dX7_effect_46 : decode cX7_effect 46 = .ok (.bipush 12, 2) := by decide +kernel
theorem dX7_effect_48 : decode cX7_effect 48 = .ok (.iload_n 1, 1) := by decide +kernel
theorem dX7_effect_49 : decode cX7_effect 49 = .ok (.imul, 1) := by decide +kernel
theorem dX7_effect_50 : decode cX7_effect 50 = .ok (.iload_n 2, 1) := by decide +kernel
theorem dX7_effect_51 : decode cX7_effect 51 = .ok (.iadd, 1) := by decide +kernel
theorem dX7_effect_52 : decode cX7_effect 52 = .ok (.istore 4, 2) := by decide +kernel
theorem dX7_effect_54 : decode cX7_effect 54 = .ok (.iload_n 3, 1) := by decide +kernel
theorem dX7_effect_55 : decode cX7_effect 55 = .ok (.ifCond .ne 13, 3) := by decide +kernel
theorem dX7_effect_58 : decode cX7_effect 58 = .ok (.aload_n 0, 1) := by decide +kernel
theorem dX7_effect_59 : decode cX7_effect 59 = .ok (.getfield 25, 3) := by decide +kernel
theorem dX7_effect_62 : decode cX7_effect 62 = .ok (.iload 4, 2) := by decide +kernel
theorem dX7_effect_64 : decode cX7_effect 64 = .ok (.iaload, 1) := by decide +kernel
theorem dX7_effect_65 : decode cX7_effect 65 = .ok (.goto 40, 3) := by decide +kernel
theorem dX7_effect_68 : decode cX7_effect 68 = .ok (.iload_n 3, 1) := by decide +kernel
theorem dX7_effect_69 : decode cX7_effect 69 = .ok (.iconst 1, 1) := by decide +kernel
theorem dX7_effect_70 : decode cX7_effect 70 = .ok (.if_icmp .ne 13, 3) := by decide +kernel
theorem dX7_effect_73 : decode cX7_effect 73 = .ok (.aload_n 0, 1) := by decide +kernel
theorem dX7_effect_74 : decode cX7_effect 74 = .ok (.getfield 28, 3) := by decide +kernel
theorem dX7_effect_77 : decode cX7_effect 77 = .ok (.iload 4, 2) := by decide +kernel
theorem dX7_effect_79 : decode cX7_effect 79 = .ok (.iaload, 1) := by decide +kernel
theorem dX7_effect_80 : decode cX7_effect 80 = .ok (.goto 25, 3) := by decide +kernel
theorem dX7_effect_83 : decode cX7_effect 83 = .ok (.iload_n 3, 1) := by decide +kernel
theorem dX7_effect_84 : decode cX7_effect 84 = .ok (.iconst 2, 1) := by decide +kernel
theorem dX7_effect_85 : decode cX7_effect 85 = .ok (.if_icmp .ne 13, 3) := by decide +kernel
theorem dX7_effect_88 : decode cX7_effect 88 = .ok (.aload_n 0, 1) := by decide +kernel
theorem dX7_effect_89 : decode cX7_effect 89 = .ok (.getfield 31, 3) := by decide +kernel
theorem dX7_effect_92 : decode cX7_effect 92 = .ok (.iload 4, 2) := by decide +kernel
theorem dX7_effect_94 : decode cX7_effect 94 = .ok (.iaload, 1) := by decide +kernel
theorem dX7_effect_95 : decode cX7_effect 95 = .ok (.goto 10, 3) := by decide +kernel
theorem dX7_effect_98 : decode cX7_effect 98 = .ok (.aload_n 0, 1) := by decide +kernel
theorem dX7_effect_99 : decode cX7_effect 99 = .ok (.getfield 34, 3) := by decide +kernel
theorem dX7_effect_102 : decode cX7_effect 102 = .ok (.iload 4, 2) := by decide +kernel
theorem dX7_effect_104 : decode cX7_effect 104 = .ok (.iaload, 1) := by decide +kernel
theorem dX7_effect_105 : decode cX7_effect 105 = .ok (.ireturn, 1) := by decide +kernel
theorem dX7_causesOf_0 : decode cX7_causesOf 0 = .ok (.aload_n 0, 1) := by decide +kernel
theorem dX7_causesOf_1 : decode cX7_causesOf 1 = .ok (.getfield 28, 3) := by decide +kernel
theorem dX7_causesOf_4 : decode cX7_causesOf 4 = .ok (.iload_n 1, 1) := by decide +kernel
theorem dX7_causesOf_5 : decode cX7_causesOf 5 = .ok (.iaload, 1) := by decide +kernel
theorem dX7_causesOf_6 : decode cX7_causesOf 6 = .ok (.aload_n 0, 1) := by decide +kernel
theorem dX7_causesOf_7 : decode cX7_causesOf 7 = .ok (.getfield 31, 3) := by decide +kernel
theorem dX7_causesOf_10 : decode cX7_causesOf 10 = .ok (.iload_n 1, 1) := by decide +kernel
theorem dX7_causesOf_11 : decode cX7_causesOf 11 = .ok (.iaload, 1) := by decide +kernel
theorem dX7_causesOf_12 : decode cX7_causesOf 12 = .ok (.ior, 1) := by decide +kernel
theorem dX7_causesOf_13 : decode cX7_causesOf 13 = .ok (.istore_n 3, 1) := by decide +kernel
theorem dX7_causesOf_14 : decode cX7_causesOf 14 = .ok (.aload_n 0, 1) := by decide +kernel
theorem dX7_causesOf_15 : decode cX7_causesOf 15 = .ok (.getfield 28, 3) := by decide +kernel
theorem dX7_causesOf_18 : decode cX7_causesOf 18 = .ok (.iload_n 2, 1) := by decide +kernel
theorem dX7_causesOf_19 : decode cX7_causesOf 19 = .ok (.iaload, 1) := by decide +kernel
theorem dX7_causesOf_20 : decode cX7_causesOf 20 = .ok (.aload_n 0, 1) := by decide +kernel
theorem dX7_causesOf_21 : decode cX7_causesOf 21 = .ok (.getfield 31, 3) := by decide +kernel
theorem dX7_causesOf_24 : decode cX7_causesOf 24 = .ok (.iload_n 2, 1) := by decide +kernel
theorem dX7_causesOf_25 : decode cX7_causesOf 25 = .ok (.iaload, 1) := by decide +kernel
theorem dX7_causesOf_26 : decode cX7_causesOf 26 = .ok (.ior, 1) := by decide +kernel
theorem dX7_causesOf_27 : decode cX7_causesOf 27 = .ok (.istore 4, 2) := by decide +kernel
theorem dX7_causesOf_29 : decode cX7_causesOf 29 = .ok (.aload_n 0, 1) := by decide +kernel
theorem dX7_causesOf_30 : decode cX7_causesOf 30 = .ok (.getfield 28, 3) := by decide +kernel
theorem dX7_causesOf_33 : decode cX7_causesOf 33 = .ok (.iload_n 1, 1) := by decide +kernel
theorem dX7_causesOf_34 : decode cX7_causesOf 34 = .ok (.iaload, 1) := by decide +kernel
theorem dX7_causesOf_35 : decode cX7_causesOf 35 = .ok (.iload 4, 2) := by decide +kernel
theorem dX7_causesOf_37 : decode cX7_causesOf 37 = .ok (.iand, 1) := by decide +kernel
theorem dX7_causesOf_38 : decode cX7_causesOf 38 = .ok (.ifCond .ne 14, 3) := by decide +kernel
theorem dX7_causesOf_41 : decode cX7_causesOf 41 = .ok (.aload_n 0, 1) := by decide +kernel
theorem dX7_causesOf_42 : decode cX7_causesOf 42 = .ok (.getfield 28, 3) := by decide +kernel
theorem dX7_causesOf_45 : decode cX7_causesOf 45 = .ok (.iload_n 2, 1) := by decide +kernel
theorem dX7_causesOf_46 : decode cX7_causesOf 46 = .ok (.iaload, 1) := by decide +kernel
theorem dX7_causesOf_47 : decode cX7_causesOf 47 = .ok (.iload_n 3, 1) := by decide +kernel
theorem dX7_causesOf_48 : decode cX7_causesOf 48 = .ok (.iand, 1) := by decide +kernel
theorem dX7_causesOf_49 : decode cX7_causesOf 49 = .ok (.ifCond .eq 7, 3) := by decide +kernel
theorem dX7_causesOf_52 : decode cX7_causesOf 52 = .ok (.iconst 1, 1) := by decide +kernel
theorem dX7_causesOf_53 : decode cX7_causesOf 53 = .ok (.goto 4, 3) := by decide +kernel
theorem dX7_causesOf_56 : decode cX7_causesOf 56 = .ok (.iconst 0, 1) := by decide +kernel
theorem dX7_causesOf_57 : decode cX7_causesOf 57 = .ok (.istore 5, 2) := by decide +kernel
theorem dX7_causesOf_59 : decode cX7_causesOf 59 = .ok (.iload 5, 2) := by decide +kernel
theorem dX7_causesOf_61 : decode cX7_causesOf 61 = .ok (.aload_n 0, 1) := by decide +kernel
theorem dX7_causesOf_62 : decode cX7_causesOf 62 = .ok (.getfield 25, 3) := by decide +kernel
theorem dX7_causesOf_65 : decode cX7_causesOf 65 = .ok (.iload_n 1, 1) := by decide +kernel
theorem dX7_causesOf_66 : decode cX7_causesOf 66 = .ok (.iaload, 1) := by decide +kernel
theorem dX7_causesOf_67 : decode cX7_causesOf 67 = .ok (.iload 4, 2) := by decide +kernel
theorem dX7_causesOf_69 : decode cX7_causesOf 69 = .ok (.iand, 1) := by decide +kernel
theorem dX7_causesOf_70 : decode cX7_causesOf 70 = .ok (.ifCond .ne 14, 3) := by decide +kernel
theorem dX7_causesOf_73 : decode cX7_causesOf 73 = .ok (.aload_n 0, 1) := by decide +kernel
theorem dX7_causesOf_74 : decode cX7_causesOf 74 = .ok (.getfield 25, 3) := by decide +kernel
theorem dX7_causesOf_77 : decode cX7_causesOf 77 = .ok (.iload_n 2, 1) := by decide +kernel
theorem dX7_causesOf_78 : decode cX7_causesOf 78 = .ok (.iaload, 1) := by decide +kernel
theorem dX7_causesOf_79 : decode cX7_causesOf 79 = .ok (.iload_n 3, 1) := by decide +kernel
theorem dX7_causesOf_80 : decode cX7_causesOf 80 = .ok (.iand, 1) := by decide +kernel
theorem dX7_causesOf_81 : decode cX7_causesOf 81 = .ok (.ifCond .eq 7, 3) := by decide +kernel
theorem dX7_causesOf_84 : decode cX7_causesOf 84 = .ok (.iconst 2, 1) := by decide +kernel
theorem dX7_causesOf_85 : decode cX7_causesOf 85 = .ok (.goto 4, 3) := by decide +kernel
theorem dX7_causesOf_88 : decode cX7_causesOf 88 = .ok (.iconst 0, 1) := by decide +kernel
theorem dX7_causesOf_89 : decode cX7_causesOf 89 = .ok (.ior, 1) := by decide +kernel
theorem dX7_causesOf_90 : decode cX7_causesOf 90 = .ok (.istore 5, 2) := by decide +kernel
theorem dX7_causesOf_92 : decode cX7_causesOf 92 = .ok (.iload 5, 2) := by decide +kernel
theorem dX7_causesOf_94 : decode cX7_causesOf 94 = .ok (.aload_n 0, 1) := by decide +kernel
theorem dX7_causesOf_95 : decode cX7_causesOf 95 = .ok (.getfield 34, 3) := by decide +kernel
theorem dX7_causesOf_98 : decode cX7_causesOf 98 = .ok (.iload_n 1, 1) := by decide +kernel
theorem dX7_causesOf_99 : decode cX7_causesOf 99 = .ok (.iaload, 1) := by decide +kernel
theorem dX7_causesOf_100 : decode cX7_causesOf 100 = .ok (.iconst 1, 1) := by decide +kernel
theorem dX7_causesOf_101 : decode cX7_causesOf 101 = .ok (.if_icmp .ne 17, 3) := by decide +kernel
theorem dX7_causesOf_104 : decode cX7_causesOf 104 = .ok (.aload_n 0, 1) := by decide +kernel
theorem dX7_causesOf_105 : decode cX7_causesOf 105 = .ok (.getfield 34, 3) := by decide +kernel
theorem dX7_causesOf_108 : decode cX7_causesOf 108 = .ok (.iload_n 2, 1) := by decide +kernel
theorem dX7_causesOf_109 : decode cX7_causesOf 109 = .ok (.iaload, 1) := by decide +kernel
theorem dX7_causesOf_110 : decode cX7_causesOf 110 = .ok (.iconst 1, 1) := by decide +kernel
theorem dX7_causesOf_111 : decode cX7_causesOf 111 = .ok (.if_icmp .ne 7, 3) := by decide +kernel
theorem dX7_causesOf_114 : decode cX7_causesOf 114 = .ok (.iconst 4, 1) := by decide +kernel
theorem dX7_causesOf_115 : decode cX7_causesOf 115 = .ok (.goto 4, 3) := by decide +kernel
theorem dX7_causesOf_118 : decode cX7_causesOf 118 = .ok (.iconst 0, 1) := by decide +kernel
theorem dX7_causesOf_119 : decode cX7_causesOf 119 = .ok (.ior, 1) := by decide +kernel
theorem dX7_causesOf_120 : decode cX7_causesOf 120 = .ok (.ireturn, 1) := by decide +kernel
theorem dX7_causes_0 : decode cX7_causes 0 = .ok (.iload_n 1, 1) := by decide +kernel
theorem dX7_causes_1 : decode cX7_causes 1 = .ok (.invokestatic 87, 3) := by decide +kernel
theorem dX7_causes_4 : decode cX7_causes 4 = .ok (.ifCond .eq 10, 3) := by decide +kernel
theorem dX7_causes_7 : decode cX7_causes 7 = .ok (.iload_n 3, 1) := by decide +kernel
theorem dX7_causes_8 : decode cX7_causes 8 = .ok (.invokestatic 87, 3) := by decide +kernel
theorem dX7_causes_11 : decode cX7_causes 11 = .ok (.ifCond .ne 5, 3) := by decide +kernel
theorem dX7_causes_14 : decode cX7_causes 14 = .ok (.iconst (-1), 1) := by decide +kernel
theorem dX7_causes_15 : decode cX7_causes 15 = .ok (.ireturn, 1) := by decide +kernel
theorem dX7_causes_16 : decode cX7_causes 16 = .ok (.iload_n 2, 1) := by decide +kernel
theorem dX7_causes_17 : decode cX7_causes 17 = .ok (.invokestatic 189, 3) := by decide +kernel
theorem dX7_causes_20 : decode cX7_causes 20 = .ok (.ifCond .eq 11, 3) := by decide +kernel
theorem dX7_causes_23 : decode cX7_causes 23 = .ok (.iload 4, 2) := by decide +kernel
theorem dX7_causes_25 : decode cX7_causes 25 = .ok (.invokestatic 189, 3) := by decide +kernel
theorem dX7_causes_28 : decode cX7_causes 28 = .ok (.ifCond .ne 6, 3) := by decide +kernel
theorem dX7_causes_31 : decode cX7_causes 31 = .ok (.bipush (-2), 2) := by decide +kernel
theorem dX7_causes_33 : decode cX7_causes 33 = .ok (.ireturn, 1) := by decide +kernel
theorem dX7_causes_34 : decode cX7_causes 34 = .ok (.aload_n 0, 1) := by decide +kernel
theorem dX7_causes_35 : decode cX7_causes 35 = .ok (.invokevirtual 194, 3) := by decide +kernel
theorem dX7_causes_38 : decode cX7_causes 38 = .ok (.aload_n 0, 1) := by decide +kernel
theorem dX7_causes_39 : decode cX7_causes 39 = .ok (.iload_n 1, 1) := by decide +kernel
theorem dX7_causes_40 : decode cX7_causes 40 = .ok (.invokevirtual 197, 3) := by decide +kernel
theorem dX7_causes_43 : decode cX7_causes 43 = .ok (.ifCond .eq 31, 3) := by decide +kernel
theorem dX7_causes_46 : decode cX7_causes 46 = .ok (.aload_n 0, 1) := by decide +kernel
theorem dX7_causes_47 : decode cX7_causes 47 = .ok (.iload_n 3, 1) := by decide +kernel
theorem dX7_causes_48 : decode cX7_causes 48 = .ok (.invokevirtual 197, 3) := by decide +kernel
theorem dX7_causes_51 : decode cX7_causes 51 = .ok (.ifCond .eq 23, 3) := by decide +kernel
theorem dX7_causes_54 : decode cX7_causes 54 = .ok (.aload_n 0, 1) := by decide +kernel
theorem dX7_causes_55 : decode cX7_causes 55 = .ok (.bipush 12, 2) := by decide +kernel
theorem dX7_causes_57 : decode cX7_causes 57 = .ok (.iload_n 1, 1) := by decide +kernel
theorem dX7_causes_58 : decode cX7_causes 58 = .ok (.imul, 1) := by decide +kernel
theorem dX7_causes_59 : decode cX7_causes 59 = .ok (.iload_n 2, 1) := by decide +kernel
theorem dX7_causes_60 : decode cX7_causes 60 = .ok (.iadd, 1) := by decide +kernel
theorem dX7_causes_61 : decode cX7_causes 61 = .ok (.bipush 12, 2) := by decide +kernel
theorem dX7_causes_63 : decode cX7_causes 63 = .ok (.iload_n 3, 1) := by decide +kernel
theorem dX7_causes_64 : decode cX7_causes 64 = .ok (.imul, 1) := by decide +kernel
theorem dX7_causes_65 : decode cX7_causes 65 = .ok (.iload 4, 2) := by decide +kernel
theorem dX7_causes_67 : decode cX7_causes 67 = .ok (.iadd, 1) := by decide +kernel
theorem dX7_causes_68 : decode cX7_causes 68 = .ok (.invokevirtual 200, 3) := by decide +kernel
theorem dX7_causes_71 : decode cX7_causes 71 = .ok (.goto 5, 3) := by decide +kernel
theorem dX7_causes_74 : decode cX7_causes 74 = .ok (.bipush (-5), 2) := by decide +kernel
theorem dX7_causes_76 : decode cX7_causes 76 = .ok (.ireturn, 1) := by decide +kernel
theorem dX7_call_0 : decode cX7_call 0 = .ok (.iload_n 1, 1) := by decide +kernel
theorem dX7_call_1 : decode cX7_call 1 = .ok (.invokestatic 87, 3) := by decide +kernel
theorem dX7_call_4 : decode cX7_call 4 = .ok (.ifCond .ne 5, 3) := by decide +kernel
theorem dX7_call_7 : decode cX7_call 7 = .ok (.iconst (-1), 1) := by decide +kernel
theorem dX7_call_8 : decode cX7_call 8 = .ok (.ireturn, 1) := by decide +kernel
theorem dX7_call_9 : decode cX7_call 9 = .ok (.iload_n 2, 1) := by decide +kernel
theorem dX7_call_10 : decode cX7_call 10 = .ok (.invokestatic 189, 3) := by decide +kernel
theorem dX7_call_13 : decode cX7_call 13 = .ok (.ifCond .ne 6, 3) := by decide +kernel
theorem dX7_call_16 : decode cX7_call 16 = .ok (.bipush (-2), 2) := by decide +kernel
theorem dX7_call_18 : decode cX7_call 18 = .ok (.ireturn, 1) := by decide +kernel
theorem dX7_call_19 : decode cX7_call 19 = .ok (.aload_n 0, 1) := by decide +kernel
theorem dX7_call_20 : decode cX7_call 20 = .ok (.getfield 203, 3) := by decide +kernel
theorem dX7_call_23 : decode cX7_call 23 = .ok (.bipush 16, 2) := by decide +kernel
theorem dX7_call_25 : decode cX7_call 25 = .ok (.if_icmp .ne 6, 3) := by decide +kernel
theorem dX7_call_28 : decode cX7_call 28 = .ok (.bipush (-4), 2) := by decide +kernel
theorem dX7_call_30 : decode cX7_call 30 = .ok (.ireturn, 1) := by decide +kernel
theorem dX7_call_31 : decode cX7_call 31 = .ok (.aload_n 0, 1) := by decide +kernel
theorem dX7_call_32 : decode cX7_call 32 = .ok (.getfield 19, 3) := by decide +kernel
theorem dX7_call_35 : decode cX7_call 35 = .ok (.aload_n 0, 1) := by decide +kernel
theorem dX7_call_36 : decode cX7_call 36 = .ok (.getfield 203, 3) := by decide +kernel
theorem dX7_call_39 : decode cX7_call 39 = .ok (.iload_n 1, 1) := by decide +kernel
theorem dX7_call_40 : decode cX7_call 40 = .ok (.iastore, 1) := by decide +kernel
theorem dX7_call_41 : decode cX7_call 41 = .ok (.aload_n 0, 1) := by decide +kernel
theorem dX7_call_42 : decode cX7_call 42 = .ok (.getfield 22, 3) := by decide +kernel
theorem dX7_call_45 : decode cX7_call 45 = .ok (.aload_n 0, 1) := by decide +kernel
theorem dX7_call_46 : decode cX7_call 46 = .ok (.getfield 203, 3) := by decide +kernel
theorem dX7_call_49 : decode cX7_call 49 = .ok (.iload_n 2, 1) := by decide +kernel
theorem dX7_call_50 : decode cX7_call 50 = .ok (.iastore, 1) := by decide +kernel
theorem dX7_call_51 : decode cX7_call 51 = .ok (.aload_n 0, 1) := by decide +kernel
theorem dX7_call_52 : decode cX7_call 52 = .ok (.dup, 1) := by decide +kernel
theorem dX7_call_53 : decode cX7_call 53 = .ok (.getfield 203, 3) := by decide +kernel
theorem dX7_call_56 : decode cX7_call 56 = .ok (.iconst 1, 1) := by decide +kernel
theorem dX7_call_57 : decode cX7_call 57 = .ok (.iadd, 1) := by decide +kernel
theorem dX7_call_58 : decode cX7_call 58 = .ok (.putfield 203, 3) := by decide +kernel
theorem dX7_call_61 : decode cX7_call 61 = .ok (.aload_n 0, 1) := by decide +kernel
theorem dX7_call_62 : decode cX7_call 62 = .ok (.getfield 203, 3) := by decide +kernel
theorem dX7_call_65 : decode cX7_call 65 = .ok (.ireturn, 1) := by decide +kernel
theorem dX7_isCall_0 : decode cX7_isCall 0 = .ok (.iload_n 1, 1) := by decide +kernel
theorem dX7_isCall_1 : decode cX7_isCall 1 = .ok (.i2l, 1) := by decide +kernel
theorem dX7_isCall_2 : decode cX7_isCall 2 = .ok (.lconst 0, 1) := by decide +kernel
theorem dX7_isCall_3 : decode cX7_isCall 3 = .ok (.aload_n 0, 1) := by decide +kernel
theorem dX7_isCall_4 : decode cX7_isCall 4 = .ok (.getfield 203, 3) := by decide +kernel
theorem dX7_isCall_7 : decode cX7_isCall 7 = .ok (.iconst 1, 1) := by decide +kernel
theorem dX7_isCall_8 : decode cX7_isCall 8 = .ok (.isub, 1) := by decide +kernel
theorem dX7_isCall_9 : decode cX7_isCall 9 = .ok (.i2l, 1) := by decide +kernel
theorem dX7_isCall_10 : decode cX7_isCall 10 = .ok (.invokestatic 79, 3) := by decide +kernel
theorem dX7_isCall_13 : decode cX7_isCall 13 = .ok (.ireturn, 1) := by decide +kernel
theorem dX7_drop_0 : decode cX7_drop 0 = .ok (.aload_n 0, 1) := by decide +kernel
theorem dX7_drop_1 : decode cX7_drop 1 = .ok (.iload_n 1, 1) := by decide +kernel
theorem dX7_drop_2 : decode cX7_drop 2 = .ok (.invokevirtual 206, 3) := by decide +kernel
theorem dX7_drop_5 : decode cX7_drop 5 = .ok (.ifCond .ne 5, 3) := by decide +kernel
theorem dX7_drop_8 : decode cX7_drop 8 = .ok (.iconst (-1), 1) := by decide +kernel
theorem dX7_drop_9 : decode cX7_drop 9 = .ok (.ireturn, 1) := by decide +kernel
theorem dX7_drop_10 : decode cX7_drop 10 = .ok (.aload_n 0, 1) := by decide +kernel
theorem dX7_drop_11 : decode cX7_drop 11 = .ok (.dup, 1) := by decide +kernel
theorem dX7_drop_12 : decode cX7_drop 12 = .ok (.getfield 203, 3) := by decide +kernel
theorem dX7_drop_15 : decode cX7_drop 15 = .ok (.iconst 1, 1) := by decide +kernel
theorem dX7_drop_16 : decode cX7_drop 16 = .ok (.isub, 1) := by decide +kernel
theorem dX7_drop_17 : decode cX7_drop 17 = .ok (.putfield 203, 3) := by decide +kernel
theorem dX7_drop_20 : decode cX7_drop 20 = .ok (.iload_n 1, 1) := by decide +kernel
theorem dX7_drop_21 : decode cX7_drop 21 = .ok (.istore_n 2, 1) := by decide +kernel
theorem dX7_drop_22 : decode cX7_drop 22 = .ok (.iload_n 2, 1) := by decide +kernel
theorem dX7_drop_23 : decode cX7_drop 23 = .ok (.aload_n 0, 1) := by decide +kernel
theorem dX7_drop_24 : decode cX7_drop 24 = .ok (.getfield 203, 3) := by decide +kernel
theorem dX7_drop_27 : decode cX7_drop 27 = .ok (.if_icmp .ge 37, 3) := by decide +kernel
theorem dX7_drop_30 : decode cX7_drop 30 = .ok (.aload_n 0, 1) := by decide +kernel
theorem dX7_drop_31 : decode cX7_drop 31 = .ok (.getfield 19, 3) := by decide +kernel
theorem dX7_drop_34 : decode cX7_drop 34 = .ok (.iload_n 2, 1) := by decide +kernel
theorem dX7_drop_35 : decode cX7_drop 35 = .ok (.aload_n 0, 1) := by decide +kernel
theorem dX7_drop_36 : decode cX7_drop 36 = .ok (.getfield 19, 3) := by decide +kernel
theorem dX7_drop_39 : decode cX7_drop 39 = .ok (.iload_n 2, 1) := by decide +kernel
theorem dX7_drop_40 : decode cX7_drop 40 = .ok (.iconst 1, 1) := by decide +kernel
theorem dX7_drop_41 : decode cX7_drop 41 = .ok (.iadd, 1) := by decide +kernel
theorem dX7_drop_42 : decode cX7_drop 42 = .ok (.iaload, 1) := by decide +kernel
theorem dX7_drop_43 : decode cX7_drop 43 = .ok (.iastore, 1) := by decide +kernel
theorem dX7_drop_44 : decode cX7_drop 44 = .ok (.aload_n 0, 1) := by decide +kernel
theorem dX7_drop_45 : decode cX7_drop 45 = .ok (.getfield 22, 3) := by decide +kernel
theorem dX7_drop_48 : decode cX7_drop 48 = .ok (.iload_n 2, 1) := by decide +kernel
theorem dX7_drop_49 : decode cX7_drop 49 = .ok (.aload_n 0, 1) := by decide +kernel
theorem dX7_drop_50 : decode cX7_drop 50 = .ok (.getfield 22, 3) := by decide +kernel
theorem dX7_drop_53 : decode cX7_drop 53 = .ok (.iload_n 2, 1) := by decide +kernel
theorem dX7_drop_54 : decode cX7_drop 54 = .ok (.iconst 1, 1) := by decide +kernel
theorem dX7_drop_55 : decode cX7_drop 55 = .ok (.iadd, 1) := by decide +kernel
theorem dX7_drop_56 : decode cX7_drop 56 = .ok (.iaload, 1) := by decide +kernel
theorem dX7_drop_57 : decode cX7_drop 57 = .ok (.iastore, 1) := by decide +kernel
theorem dX7_drop_58 : decode cX7_drop 58 = .ok (.iinc 2 1, 3) := by decide +kernel
theorem dX7_drop_61 : decode cX7_drop 61 = .ok (.goto (-39), 3) := by decide +kernel
theorem dX7_drop_64 : decode cX7_drop 64 = .ok (.aload_n 0, 1) := by decide +kernel
theorem dX7_drop_65 : decode cX7_drop 65 = .ok (.getfield 203, 3) := by decide +kernel
theorem dX7_drop_68 : decode cX7_drop 68 = .ok (.ireturn, 1) := by decide +kernel
theorem dX7_effectOf_0 : decode cX7_effectOf 0 = .ok (.bipush 12, 2) := by decide +kernel
theorem dX7_effectOf_2 : decode cX7_effectOf 2 = .ok (.aload_n 0, 1) := by decide +kernel
theorem dX7_effectOf_3 : decode cX7_effectOf 3 = .ok (.getfield 19, 3) := by decide +kernel
theorem dX7_effectOf_6 : decode cX7_effectOf 6 = .ok (.iload_n 1, 1) := by decide +kernel
theorem dX7_effectOf_7 : decode cX7_effectOf 7 = .ok (.iaload, 1) := by decide +kernel
theorem dX7_effectOf_8 : decode cX7_effectOf 8 = .ok (.imul, 1) := by decide +kernel
theorem dX7_effectOf_9 : decode cX7_effectOf 9 = .ok (.aload_n 0, 1) := by decide +kernel
theorem dX7_effectOf_10 : decode cX7_effectOf 10 = .ok (.getfield 22, 3) := by decide +kernel
theorem dX7_effectOf_13 : decode cX7_effectOf 13 = .ok (.iload_n 1, 1) := by decide +kernel
theorem dX7_effectOf_14 : decode cX7_effectOf 14 = .ok (.iaload, 1) := by decide +kernel
theorem dX7_effectOf_15 : decode cX7_effectOf 15 = .ok (.iadd, 1) := by decide +kernel
theorem dX7_effectOf_16 : decode cX7_effectOf 16 = .ok (.ireturn, 1) := by decide +kernel
theorem dX7_turn_0 : decode cX7_turn 0 = .ok (.aload_n 0, 1) := by decide +kernel
theorem dX7_turn_1 : decode cX7_turn 1 = .ok (.iload_n 1, 1) := by decide +kernel
theorem dX7_turn_2 : decode cX7_turn 2 = .ok (.iaload, 1) := by decide +kernel
theorem dX7_turn_3 : decode cX7_turn 3 = .ok (.istore_n 2, 1) := by decide +kernel
theorem dX7_turn_4 : decode cX7_turn 4 = .ok (.aload_n 0, 1) := by decide +kernel
theorem dX7_turn_5 : decode cX7_turn 5 = .ok (.iload_n 1, 1) := by decide +kernel
theorem dX7_turn_6 : decode cX7_turn 6 = .ok (.aload_n 0, 1) := by decide +kernel
theorem dX7_turn_7 : decode cX7_turn 7 = .ok (.iload_n 1, 1) := by decide +kernel
theorem dX7_turn_8 : decode cX7_turn 8 = .ok (.iconst 1, 1) := by decide +kernel
theorem dX7_turn_9 : decode cX7_turn 9 = .ok (.iadd, 1) := by decide +kernel
theorem dX7_turn_10 : decode cX7_turn 10 = .ok (.iaload, 1) := by decide +kernel
theorem dX7_turn_11 : decode cX7_turn 11 = .ok (.iastore, 1) := by decide +kernel
theorem dX7_turn_12 : decode cX7_turn 12 = .ok (.aload_n 0, 1) := by decide +kernel
theorem dX7_turn_13 : decode cX7_turn 13 = .ok (.iload_n 1, 1) := by decide +kernel
theorem dX7_turn_14 : decode cX7_turn 14 = .ok (.iconst 1, 1) := by decide +kernel
theorem dX7_turn_15 : decode cX7_turn 15 = .ok (.iadd, 1) := by decide +kernel
theorem dX7_turn_16 : decode cX7_turn 16 = .ok (.iload_n 2, 1) := by decide +kernel
theorem dX7_turn_17 : decode cX7_turn 17 = .ok (.iastore, 1) := by decide +kernel
theorem dX7_turn_18 : decode cX7_turn 18 = .ok (.return_, 1) := by decide +kernel
theorem dX7_swap_0 : decode cX7_swap 0 = .ok (.aload_n 0, 1) := by decide +kernel
theorem dX7_swap_1 : decode cX7_swap 1 = .ok (.iload_n 1, 1) := by decide +kernel
theorem dX7_swap_2 : decode cX7_swap 2 = .ok (.invokevirtual 206, 3) := by decide +kernel
theorem dX7_swap_5 : decode cX7_swap 5 = .ok (.ifCond .eq 13, 3) := by decide +kernel
theorem dX7_swap_8 : decode cX7_swap 8 = .ok (.aload_n 0, 1) := by decide +kernel
theorem dX7_swap_9 : decode cX7_swap 9 = .ok (.iload_n 1, 1) := by decide +kernel
theorem dX7_swap_10 : decode cX7_swap 10 = .ok (.iconst 1, 1) := by decide +kernel
theorem dX7_swap_11 : decode cX7_swap 11 = .ok (.iadd, 1) := by decide +kernel
theorem dX7_swap_12 : decode cX7_swap 12 = .ok (.invokevirtual 206, 3) := by decide +kernel
theorem dX7_swap_15 : decode cX7_swap 15 = .ok (.ifCond .ne 5, 3) := by decide +kernel
theorem dX7_swap_18 : decode cX7_swap 18 = .ok (.iconst (-1), 1) := by decide +kernel
theorem dX7_swap_19 : decode cX7_swap 19 = .ok (.ireturn, 1) := by decide +kernel
theorem dX7_swap_20 : decode cX7_swap 20 = .ok (.aload_n 0, 1) := by decide +kernel
theorem dX7_swap_21 : decode cX7_swap 21 = .ok (.invokevirtual 194, 3) := by decide +kernel
theorem dX7_swap_24 : decode cX7_swap 24 = .ok (.aload_n 0, 1) := by decide +kernel
theorem dX7_swap_25 : decode cX7_swap 25 = .ok (.aload_n 0, 1) := by decide +kernel
theorem dX7_swap_26 : decode cX7_swap 26 = .ok (.getfield 19, 3) := by decide +kernel
theorem dX7_swap_29 : decode cX7_swap 29 = .ok (.iload_n 1, 1) := by decide +kernel
theorem dX7_swap_30 : decode cX7_swap 30 = .ok (.iaload, 1) := by decide +kernel
theorem dX7_swap_31 : decode cX7_swap 31 = .ok (.invokevirtual 197, 3) := by decide +kernel
theorem dX7_swap_34 : decode cX7_swap 34 = .ok (.ifCond .eq 18, 3) := by decide +kernel
theorem dX7_swap_37 : decode cX7_swap 37 = .ok (.aload_n 0, 1) := by decide +kernel
theorem dX7_swap_38 : decode cX7_swap 38 = .ok (.aload_n 0, 1) := by decide +kernel
theorem dX7_swap_39 : decode cX7_swap 39 = .ok (.getfield 19, 3) := by decide +kernel
theorem dX7_swap_42 : decode cX7_swap 42 = .ok (.iload_n 1, 1) := by decide +kernel
theorem dX7_swap_43 : decode cX7_swap 43 = .ok (.iconst 1, 1) := by decide +kernel
theorem dX7_swap_44 : decode cX7_swap 44 = .ok (.iadd, 1) := by decide +kernel
theorem dX7_swap_45 : decode cX7_swap 45 = .ok (.iaload, 1) := by decide +kernel
theorem dX7_swap_46 : decode cX7_swap 46 = .ok (.invokevirtual 197, 3) := by decide +kernel
theorem dX7_swap_49 : decode cX7_swap 49 = .ok (.ifCond .ne 6, 3) := by decide +kernel
theorem dX7_swap_52 : decode cX7_swap 52 = .ok (.bipush (-5), 2) := by decide +kernel
theorem dX7_swap_54 : decode cX7_swap 54 = .ok (.ireturn, 1) := by decide +kernel
theorem dX7_swap_55 : decode cX7_swap 55 = .ok (.aload_n 0, 1) := by decide +kernel
theorem dX7_swap_56 : decode cX7_swap 56 = .ok (.aload_n 0, 1) := by decide +kernel
theorem dX7_swap_57 : decode cX7_swap 57 = .ok (.iload_n 1, 1) := by decide +kernel
theorem dX7_swap_58 : decode cX7_swap 58 = .ok (.invokevirtual 209, 3) := by decide +kernel
theorem dX7_swap_61 : decode cX7_swap 61 = .ok (.aload_n 0, 1) := by decide +kernel
theorem dX7_swap_62 : decode cX7_swap 62 = .ok (.iload_n 1, 1) := by decide +kernel
theorem dX7_swap_63 : decode cX7_swap 63 = .ok (.iconst 1, 1) := by decide +kernel
theorem dX7_swap_64 : decode cX7_swap 64 = .ok (.iadd, 1) := by decide +kernel
theorem dX7_swap_65 : decode cX7_swap 65 = .ok (.invokevirtual 209, 3) := by decide +kernel
theorem dX7_swap_68 : decode cX7_swap 68 = .ok (.invokevirtual 200, 3) := by decide +kernel
theorem dX7_swap_71 : decode cX7_swap 71 = .ok (.ifCond .eq 6, 3) := by decide +kernel
theorem dX7_swap_74 : decode cX7_swap 74 = .ok (.bipush (-3), 2) := by decide +kernel
theorem dX7_swap_76 : decode cX7_swap 76 = .ok (.ireturn, 1) := by decide +kernel
theorem dX7_swap_77 : decode cX7_swap 77 = .ok (.aload_n 0, 1) := by decide +kernel
theorem dX7_swap_78 : decode cX7_swap 78 = .ok (.getfield 19, 3) := by decide +kernel
theorem dX7_swap_81 : decode cX7_swap 81 = .ok (.iload_n 1, 1) := by decide +kernel
theorem dX7_swap_82 : decode cX7_swap 82 = .ok (.invokestatic 212, 3) := by decide +kernel
theorem dX7_swap_85 : decode cX7_swap 85 = .ok (.aload_n 0, 1) := by decide +kernel
theorem dX7_swap_86 : decode cX7_swap 86 = .ok (.getfield 22, 3) := by decide +kernel
theorem dX7_swap_89 : decode cX7_swap 89 = .ok (.iload_n 1, 1) := by decide +kernel
theorem dX7_swap_90 : decode cX7_swap 90 = .ok (.invokestatic 212, 3) := by decide +kernel
theorem dX7_swap_93 : decode cX7_swap 93 = .ok (.iconst 1, 1) := by decide +kernel
theorem dX7_swap_94 : decode cX7_swap 94 = .ok (.ireturn, 1) := by decide +kernel
theorem dX7_isAllKnown_0 : decode cX7_isAllKnown 0 = .ok (.iconst 1, 1) := by decide +kernel
theorem dX7_isAllKnown_1 : decode cX7_isAllKnown 1 = .ok (.istore_n 1, 1) := by decide +kernel
theorem dX7_isAllKnown_2 : decode cX7_isAllKnown 2 = .ok (.iconst 0, 1) := by decide +kernel
theorem dX7_isAllKnown_3 : decode cX7_isAllKnown 3 = .ok (.istore_n 2, 1) := by decide +kernel
theorem dX7_isAllKnown_4 : decode cX7_isAllKnown 4 = .ok (.iload_n 2, 1) := by decide +kernel
theorem dX7_isAllKnown_5 : decode cX7_isAllKnown 5 = .ok (.aload_n 0, 1) := by decide +kernel
theorem dX7_isAllKnown_6 : decode cX7_isAllKnown 6 = .ok (.getfield 203, 3) := by decide +kernel
theorem dX7_isAllKnown_9 : decode cX7_isAllKnown 9 = .ok (.if_icmp .ge 32, 3) := by decide +kernel
theorem dX7_isAllKnown_12 : decode cX7_isAllKnown 12 = .ok (.iload_n 1, 1) := by decide +kernel
theorem dX7_isAllKnown_13 : decode cX7_isAllKnown 13 = .ok (.ifCond .eq 20, 3) := by decide +kernel
theorem dX7_isAllKnown_16 : decode cX7_isAllKnown 16 = .ok (.aload_n 0, 1) := by decide +kernel
theorem dX7_isAllKnown_17 : decode cX7_isAllKnown 17 = .ok (.aload_n 0, 1) := by decide +kernel
theorem dX7_isAllKnown_18 : decode cX7_isAllKnown 18 = .ok (.getfield 19, 3) := by decide +kernel
theorem dX7_isAllKnown_21 : decode cX7_isAllKnown 21 = .ok (.iload_n 2, 1) := by decide +kernel
theorem dX7_isAllKnown_22 : decode cX7_isAllKnown 22 = .ok (.iaload, 1) := by decide +kernel
theorem dX7_isAllKnown_23 : decode cX7_isAllKnown 23 = .ok (.invokevirtual 197, 3) := by decide +kernel
theorem dX7_isAllKnown_26 : decode cX7_isAllKnown 26 = .ok (.ifCond .eq 7, 3) := by decide +kernel
theorem dX7_isAllKnown_29 : decode cX7_isAllKnown 29 = .ok (.iconst 1, 1) := by decide +kernel
theorem dX7_isAllKnown_30 : decode cX7_isAllKnown 30 = .ok (.goto 4, 3) := by decide +kernel
theorem dX7_isAllKnown_33 : decode cX7_isAllKnown 33 = .ok (.iconst 0, 1) := by decide +kernel
theorem dX7_isAllKnown_34 : decode cX7_isAllKnown 34 = .ok (.istore_n 1, 1) := by decide +kernel
theorem dX7_isAllKnown_35 : decode cX7_isAllKnown 35 = .ok (.iinc 2 1, 3) := by decide +kernel
theorem dX7_isAllKnown_38 : decode cX7_isAllKnown 38 = .ok (.goto (-34), 3) := by decide +kernel
theorem dX7_isAllKnown_41 : decode cX7_isAllKnown 41 = .ok (.iload_n 1, 1) := by decide +kernel
theorem dX7_isAllKnown_42 : decode cX7_isAllKnown 42 = .ok (.ireturn, 1) := by decide +kernel
theorem dX7_isAhead_0 : decode cX7_isAhead 0 = .ok (.aload_n 0, 1) := by decide +kernel
theorem dX7_isAhead_1 : decode cX7_isAhead 1 = .ok (.getfield 43, 3) := by decide +kernel
theorem dX7_isAhead_4 : decode cX7_isAhead 4 = .ok (.iload_n 1, 1) := by decide +kernel
theorem dX7_isAhead_5 : decode cX7_isAhead 5 = .ok (.iaload, 1) := by decide +kernel
theorem dX7_isAhead_6 : decode cX7_isAhead 6 = .ok (.aload_n 0, 1) := by decide +kernel
theorem dX7_isAhead_7 : decode cX7_isAhead 7 = .ok (.getfield 43, 3) := by decide +kernel
