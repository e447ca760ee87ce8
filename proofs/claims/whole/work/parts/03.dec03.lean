theorem dX6_init_134 : decode cX6_init 134 = .ok (.goto (-21), 3) := by decide +kernel
theorem dX6_init_137 : decode cX6_init 137 = .ok (.return_, 1) := by decide +kernel
theorem dX6_say_0 : decode cX6_say 0 = .ok (.iload_n 1, 1) := by decide +kernel
theorem dX6_say_1 : decode cX6_say 1 = .ok (.bipush 6, 2) := by decide +kernel
theorem dX6_say_3 : decode cX6_say 3 = .ok (.invokestatic 58, 3) := by decide +kernel
theorem dX6_say_6 : decode cX6_say 6 = .ok (.ifCond .ne 5, 3) := by decide +kernel
theorem dX6_say_9 : decode cX6_say 9 = .ok (.iconst (-1), 1) := by decide +kernel
theorem dX6_say_10 : decode cX6_say 10 = .ok (.ireturn, 1) := by decide +kernel
theorem dX6_say_11 : decode cX6_say 11 = .ok (.iload_n 2, 1) := by decide +kernel
theorem dX6_say_12 : decode cX6_say 12 = .ok (.bipush 33, 2) := by decide +kernel
theorem dX6_say_14 : decode cX6_say 14 = .ok (.if_icmp .lt 9, 3) := by decide +kernel
theorem dX6_say_17 : decode cX6_say 17 = .ok (.iload_n 2, 1) := by decide +kernel
theorem dX6_say_18 : decode cX6_say 18 = .ok (.bipush 126, 2) := by decide +kernel
theorem dX6_say_20 : decode cX6_say 20 = .ok (.if_icmp .le 6, 3) := by decide +kernel
theorem dX6_say_23 : decode cX6_say 23 = .ok (.bipush (-2), 2) := by decide +kernel
theorem dX6_say_25 : decode cX6_say 25 = .ok (.ireturn, 1) := by decide +kernel
theorem dX6_say_26 : decode cX6_say 26 = .ok (.aload_n 0, 1) := by decide +kernel
theorem dX6_say_27 : decode cX6_say 27 = .ok (.getfield 11, 3) := by decide +kernel
theorem dX6_say_30 : decode cX6_say 30 = .ok (.iload_n 1, 1) := by decide +kernel
theorem dX6_say_31 : decode cX6_say 31 = .ok (.aaload, 1) := by decide +kernel
theorem dX6_say_32 : decode cX6_say 32 = .ok (.getfield 62, 3) := by decide +kernel
theorem dX6_say_35 : decode cX6_say 35 = .ok (.bipush 30, 2) := by decide +kernel
theorem dX6_say_37 : decode cX6_say 37 = .ok (.if_icmp .lt 6, 3) := by decide +kernel
theorem dX6_say_40 : decode cX6_say 40 = .ok (.bipush (-4), 2) := by decide +kernel
theorem dX6_say_42 : decode cX6_say 42 = .ok (.ireturn, 1) := by decide +kernel
theorem dX6_say_43 : decode cX6_say 43 = .ok (.aload_n 0, 1) := by decide +kernel
theorem dX6_say_44 : decode cX6_say 44 = .ok (.getfield 11, 3) := by decide +kernel
theorem dX6_say_47 : decode cX6_say 47 = .ok (.iload_n 1, 1) := by decide +kernel
theorem dX6_say_48 : decode cX6_say 48 = .ok (.aaload, 1) := by decide +kernel
theorem dX6_say_49 : decode cX6_say 49 = .ok (.iload_n 2, 1) := by decide +kernel
theorem dX6_say_50 : decode cX6_say 50 = .ok (.invokevirtual 66, 3) := by decide +kernel
theorem dX6_say_53 : decode cX6_say 53 = .ok (.aload_n 0, 1) := by decide +kernel
theorem dX6_say_54 : decode cX6_say 54 = .ok (.getfield 18, 3) := by decide +kernel
theorem dX6_say_57 : decode cX6_say 57 = .ok (.invokevirtual 70, 3) := by decide +kernel
theorem dX6_say_60 : decode cX6_say 60 = .ok (.aload_n 0, 1) := by decide +kernel
theorem dX6_say_61 : decode cX6_say 61 = .ok (.getfield 11, 3) := by decide +kernel
theorem dX6_say_64 : decode cX6_say 64 = .ok (.iload_n 1, 1) := by decide +kernel
theorem dX6_say_65 : decode cX6_say 65 = .ok (.aaload, 1) := by decide +kernel
theorem dX6_say_66 : decode cX6_say 66 = .ok (.getfield 62, 3) := by decide +kernel
theorem dX6_say_69 : decode cX6_say 69 = .ok (.ireturn, 1) := by decide +kernel
theorem dX6_wipe_0 : decode cX6_wipe 0 = .ok (.iload_n 1, 1) := by decide +kernel
theorem dX6_wipe_1 : decode cX6_wipe 1 = .ok (.bipush 6, 2) := by decide +kernel
theorem dX6_wipe_3 : decode cX6_wipe 3 = .ok (.invokestatic 58, 3) := by decide +kernel
theorem dX6_wipe_6 : decode cX6_wipe 6 = .ok (.ifCond .ne 5, 3) := by decide +kernel
theorem dX6_wipe_9 : decode cX6_wipe 9 = .ok (.iconst (-1), 1) := by decide +kernel
theorem dX6_wipe_10 : decode cX6_wipe 10 = .ok (.ireturn, 1) := by decide +kernel
theorem dX6_wipe_11 : decode cX6_wipe 11 = .ok (.aload_n 0, 1) := by decide +kernel
theorem dX6_wipe_12 : decode cX6_wipe 12 = .ok (.getfield 11, 3) := by decide +kernel
theorem dX6_wipe_15 : decode cX6_wipe 15 = .ok (.iload_n 1, 1) := by decide +kernel
theorem dX6_wipe_16 : decode cX6_wipe 16 = .ok (.aaload, 1) := by decide +kernel
theorem dX6_wipe_17 : decode cX6_wipe 17 = .ok (.getfield 62, 3) := by decide +kernel
theorem dX6_wipe_20 : decode cX6_wipe 20 = .ok (.istore_n 2, 1) := by decide +kernel
theorem dX6_wipe_21 : decode cX6_wipe 21 = .ok (.aload_n 0, 1) := by decide +kernel
theorem dX6_wipe_22 : decode cX6_wipe 22 = .ok (.getfield 11, 3) := by decide +kernel
theorem dX6_wipe_25 : decode cX6_wipe 25 = .ok (.iload_n 1, 1) := by decide +kernel
theorem dX6_wipe_26 : decode cX6_wipe 26 = .ok (.aaload, 1) := by decide +kernel
theorem dX6_wipe_27 : decode cX6_wipe 27 = .ok (.invokevirtual 73, 3) := by decide +kernel
theorem dX6_wipe_30 : decode cX6_wipe 30 = .ok (.aload_n 0, 1) := by decide +kernel
theorem dX6_wipe_31 : decode cX6_wipe 31 = .ok (.getfield 18, 3) := by decide +kernel
theorem dX6_wipe_34 : decode cX6_wipe 34 = .ok (.invokevirtual 70, 3) := by decide +kernel
theorem dX6_wipe_37 : decode cX6_wipe 37 = .ok (.iload_n 2, 1) := by decide +kernel
theorem dX6_wipe_38 : decode cX6_wipe 38 = .ok (.ireturn, 1) := by decide +kernel
theorem dX6_fault_0 : decode cX6_fault 0 = .ok (.iload_n 1, 1) := by decide +kernel
theorem dX6_fault_1 : decode cX6_fault 1 = .ok (.bipush 6, 2) := by decide +kernel
theorem dX6_fault_3 : decode cX6_fault 3 = .ok (.invokestatic 58, 3) := by decide +kernel
theorem dX6_fault_6 : decode cX6_fault 6 = .ok (.ifCond .eq 15, 3) := by decide +kernel
theorem dX6_fault_9 : decode cX6_fault 9 = .ok (.aload_n 0, 1) := by decide +kernel
theorem dX6_fault_10 : decode cX6_fault 10 = .ok (.getfield 11, 3) := by decide +kernel
theorem dX6_fault_13 : decode cX6_fault 13 = .ok (.iload_n 1, 1) := by decide +kernel
theorem dX6_fault_14 : decode cX6_fault 14 = .ok (.aaload, 1) := by decide +kernel
theorem dX6_fault_15 : decode cX6_fault 15 = .ok (.getfield 76, 3) := by decide +kernel
theorem dX6_fault_18 : decode cX6_fault 18 = .ok (.goto 4, 3) := by decide +kernel
theorem dX6_fault_21 : decode cX6_fault 21 = .ok (.iconst (-1), 1) := by decide +kernel
theorem dX6_fault_22 : decode cX6_fault 22 = .ok (.ireturn, 1) := by decide +kernel
theorem dX6_set_0 : decode cX6_set 0 = .ok (.iload_n 1, 1) := by decide +kernel
theorem dX6_set_1 : decode cX6_set 1 = .ok (.bipush 18, 2) := by decide +kernel
theorem dX6_set_3 : decode cX6_set 3 = .ok (.invokestatic 58, 3) := by decide +kernel
theorem dX6_set_6 : decode cX6_set 6 = .ok (.ifCond .ne 5, 3) := by decide +kernel
theorem dX6_set_9 : decode cX6_set 9 = .ok (.iconst (-1), 1) := by decide +kernel
theorem dX6_set_10 : decode cX6_set 10 = .ok (.ireturn, 1) := by decide +kernel
theorem dX6_set_11 : decode cX6_set 11 = .ok (.iload_n 2, 1) := by decide +kernel
theorem dX6_set_12 : decode cX6_set 12 = .ok (.bipush 100, 2) := by decide +kernel
theorem dX6_set_14 : decode cX6_set 14 = .ok (.invokestatic 58, 3) := by decide +kernel
theorem dX6_set_17 : decode cX6_set 17 = .ok (.ifCond .ne 6, 3) := by decide +kernel
theorem dX6_set_20 : decode cX6_set 20 = .ok (.bipush (-2), 2) := by decide +kernel
theorem dX6_set_22 : decode cX6_set 22 = .ok (.ireturn, 1) := by decide +kernel
theorem dX6_set_23 : decode cX6_set 23 = .ok (.aload_n 0, 1) := by decide +kernel
theorem dX6_set_24 : decode cX6_set 24 = .ok (.getfield 22, 3) := by decide +kernel
theorem dX6_set_27 : decode cX6_set 27 = .ok (.iload_n 1, 1) := by decide +kernel
theorem dX6_set_28 : decode cX6_set 28 = .ok (.iaload, 1) := by decide +kernel
theorem dX6_set_29 : decode cX6_set 29 = .ok (.istore_n 3, 1) := by decide +kernel
theorem dX6_set_30 : decode cX6_set 30 = .ok (.aload_n 0, 1) := by decide +kernel
theorem dX6_set_31 : decode cX6_set 31 = .ok (.getfield 22, 3) := by decide +kernel
theorem dX6_set_34 : decode cX6_set 34 = .ok (.iload_n 1, 1) := by decide +kernel
theorem dX6_set_35 : decode cX6_set 35 = .ok (.iload_n 2, 1) := by decide +kernel
theorem dX6_set_36 : decode cX6_set 36 = .ok (.iastore, 1) := by decide +kernel
theorem dX6_set_37 : decode cX6_set 37 = .ok (.iload_n 3, 1) := by decide +kernel
theorem dX6_set_38 : decode cX6_set 38 = .ok (.ireturn, 1) := by decide +kernel
theorem dX6_get_0 : decode cX6_get 0 = .ok (.iload_n 1, 1) := by decide +kernel
theorem dX6_get_1 : decode cX6_get 1 = .ok (.bipush 18, 2) := by decide +kernel
theorem dX6_get_3 : decode cX6_get 3 = .ok (.invokestatic 58, 3) := by decide +kernel
theorem dX6_get_6 : decode cX6_get 6 = .ok (.ifCond .eq 12, 3) := by decide +kernel
theorem dX6_get_9 : decode cX6_get 9 = .ok (.aload_n 0, 1) := by decide +kernel
theorem dX6_get_10 : decode cX6_get 10 = .ok (.getfield 22, 3) := by decide +kernel
theorem dX6_get_13 : decode cX6_get 13 = .ok (.iload_n 1, 1) := by decide +kernel
theorem dX6_get_14 : decode cX6_get 14 = .ok (.iaload, 1) := by decide +kernel
theorem dX6_get_15 : decode cX6_get 15 = .ok (.goto 4, 3) := by decide +kernel
theorem dX6_get_18 : decode cX6_get 18 = .ok (.iconst (-1), 1) := by decide +kernel
theorem dX6_get_19 : decode cX6_get 19 = .ok (.ireturn, 1) := by decide +kernel
theorem dX6_effect_0 : decode cX6_effect 0 = .ok (.iload_n 1, 1) := by decide +kernel
theorem dX6_effect_1 : decode cX6_effect 1 = .ok (.bipush 6, 2) := by decide +kernel
theorem dX6_effect_3 : decode cX6_effect 3 = .ok (.invokestatic 58, 3) := by decide +kernel
theorem dX6_effect_6 : decode cX6_effect 6 = .ok (.ifCond .ne 5, 3) := by decide +kernel
theorem dX6_effect_9 : decode cX6_effect 9 = .ok (.iconst (-1), 1) := by decide +kernel
theorem dX6_effect_10 : decode cX6_effect 10 = .ok (.ireturn, 1) := by decide +kernel
theorem dX6_effect_11 : decode cX6_effect 11 = .ok (.iload_n 2, 1) := by decide +kernel
theorem dX6_effect_12 : decode cX6_effect 12 = .ok (.bipush 12, 2) := by decide +kernel
theorem dX6_effect_14 : decode cX6_effect 14 = .ok (.invokestatic 58, 3) := by decide +kernel
theorem dX6_effect_17 : decode cX6_effect 17 = .ok (.ifCond .eq 11, 3) := by decide +kernel
theorem dX6_effect_20 : decode cX6_effect 20 = .ok (.iload_n 3, 1) := by decide +kernel
theorem dX6_effect_21 : decode cX6_effect 21 = .ok (.iconst 4, 1) := by decide +kernel
theorem dX6_effect_22 : decode cX6_effect 22 = .ok (.invokestatic 58, 3) := by decide +kernel
theorem dX6_effect_25 : decode cX6_effect 25 = .ok (.ifCond .ne 6, 3) := by decide +kernel
theorem dX6_effect_28 : decode cX6_effect 28 = .ok (.bipush (-2), 2) := by decide +kernel
theorem dX6_effect_30 : decode cX6_effect 30 = .ok (.ireturn, 1) := by decide +kernel
theorem dX6_effect_31 : decode cX6_effect 31 = .ok (.aload_n 0, 1) := by decide +kernel
theorem dX6_effect_32 : decode cX6_effect 32 = .ok (.getfield 18, 3) := by decide +kernel
theorem dX6_effect_35 : decode cX6_effect 35 = .ok (.aload_n 0, 1) := by decide +kernel
theorem dX6_effect_36 : decode cX6_effect 36 = .ok (.getfield 11, 3) := by decide +kernel
theorem dX6_effect_39 : decode cX6_effect 39 = .ok (.invokevirtual 79, 3) := by decide +kernel
theorem dX6_effect_42 : decode cX6_effect 42 = .ok (.aload_n 0, 1) := by decide +kernel
theorem dX6_effect_43 : decode cX6_effect 43 = .ok (.getfield 18, 3) := by decide +kernel
theorem dX6_effect_46 : decode cX6_effect 46 = .ok (.getfield 83, 3) := by decide +kernel
theorem dX6_effect_49 : decode cX6_effect 49 = .ok (.iload_n 1, 1) := by decide +kernel
theorem dX6_effect_50 : decode cX6_effect 50 = .ok (.baload, 1) := by decide +kernel
theorem dX6_effect_51 : decode cX6_effect 51 = .ok (.ifCond .eq 16, 3) := by decide +kernel
theorem dX6_effect_54 : decode cX6_effect 54 = .ok (.aload_n 0, 1) := by decide +kernel
theorem dX6_effect_55 : decode cX6_effect 55 = .ok (.getfield 18, 3) := by decide +kernel
theorem dX6_effect_58 : decode cX6_effect 58 = .ok (.iload_n 1, 1) := by decide +kernel
theorem dX6_effect_59 : decode cX6_effect 59 = .ok (.iload_n 2, 1) := by decide +kernel
theorem dX6_effect_60 : decode cX6_effect 60 = .ok (.iload_n 3, 1) := by decide +kernel
theorem dX6_effect_61 : decode cX6_effect 61 = .ok (.invokevirtual 87, 3) := by decide +kernel
theorem dX6_effect_64 : decode cX6_effect 64 = .ok (.goto 5, 3) := by decide +kernel
theorem dX6_effect_67 : decode cX6_effect 67 = .ok (.bipush (-5), 2) := by decide +kernel
theorem dX6_effect_69 : decode cX6_effect 69 = .ok (.ireturn, 1) := by decide +kernel
theorem dX6_causes_0 : decode cX6_causes 0 = .ok (.iload_n 1, 1) := by decide +kernel
theorem dX6_causes_1 : decode cX6_causes 1 = .ok (.bipush 6, 2) := by decide +kernel
theorem dX6_causes_3 : decode cX6_causes 3 = .ok (.invokestatic 58, 3) := by decide +kernel
theorem dX6_causes_6 : decode cX6_causes 6 = .ok (.ifCond .eq 12, 3) := by decide +kernel
theorem dX6_causes_9 : decode cX6_causes 9 = .ok (.iload_n 3, 1) := by decide +kernel
theorem dX6_causes_10 : decode cX6_causes 10 = .ok (.bipush 6, 2) := by decide +kernel
theorem dX6_causes_12 : decode cX6_causes 12 = .ok (.invokestatic 58, 3) := by decide +kernel
theorem dX6_causes_15 : decode cX6_causes 15 = .ok (.ifCond .ne 5, 3) := by decide +kernel
theorem dX6_causes_18 : decode cX6_causes 18 = .ok (.iconst (-1), 1) := by decide +kernel
theorem dX6_causes_19 : decode cX6_causes 19 = .ok (.ireturn, 1) := by decide +kernel
theorem dX6_causes_20 : decode cX6_causes 20 = .ok (.iload_n 2, 1) := by decide +kernel
theorem dX6_causes_21 : decode cX6_causes 21 = .ok (.bipush 12, 2) := by decide +kernel
theorem dX6_causes_23 : decode cX6_causes 23 = .ok (.invokestatic 58, 3) := by decide +kernel
theorem dX6_causes_26 : decode cX6_causes 26 = .ok (.ifCond .eq 13, 3) := by decide +kernel
theorem dX6_causes_29 : decode cX6_causes 29 = .ok (.iload 4, 2) := by decide +kernel
theorem dX6_causes_31 : decode cX6_causes 31 = .ok (.bipush 12, 2) := by decide +kernel
theorem dX6_causes_33 : decode cX6_causes 33 = .ok (.invokestatic 58, 3) := by decide +kernel
theorem dX6_causes_36 : decode cX6_causes 36 = .ok (.ifCond .ne 6, 3) := by decide +kernel
theorem dX6_causes_39 : decode cX6_causes 39 = .ok (.bipush (-2), 2) := by decide +kernel
theorem dX6_causes_41 : decode cX6_causes 41 = .ok (.ireturn, 1) := by decide +kernel
theorem dX6_causes_42 : decode cX6_causes 42 = .ok (.aload_n 0, 1) := by decide +kernel
theorem dX6_causes_43 : decode cX6_causes 43 = .ok (.getfield 18, 3) := by decide +kernel
theorem dX6_causes_46 : decode cX6_causes 46 = .ok (.aload_n 0, 1) := by decide +kernel
theorem dX6_causes_47 : decode cX6_causes 47 = .ok (.getfield 11, 3) := by decide +kernel
theorem dX6_causes_50 : decode cX6_causes 50 = .ok (.invokevirtual 79, 3) := by decide +kernel
theorem dX6_causes_53 : decode cX6_causes 53 = .ok (.aload_n 0, 1) := by decide +kernel
theorem dX6_causes_54 : decode cX6_causes 54 = .ok (.getfield 18, 3) := by decide +kernel
theorem dX6_causes_57 : decode cX6_causes 57 = .ok (.getfield 83, 3) := by decide +kernel
theorem dX6_causes_60 : decode cX6_causes 60 = .ok (.iload_n 1, 1) := by decide +kernel
theorem dX6_causes_61 : decode cX6_causes 61 = .ok (.baload, 1) := by decide +kernel
theorem dX6_causes_62 : decode cX6_causes 62 = .ok (.ifCond .eq 15, 3) := by decide +kernel
theorem dX6_causes_65 : decode cX6_causes 65 = .ok (.aload_n 0, 1) := by decide +kernel
theorem dX6_causes_66 : decode cX6_causes 66 = .ok (.getfield 18, 3) := by decide +kernel
theorem dX6_causes_69 : decode cX6_causes 69 = .ok (.getfield 83, 3) := by decide +kernel
theorem dX6_causes_72 : decode cX6_causes 72 = .ok (.iload_n 3, 1) := by decide +kernel
theorem dX6_causes_73 : decode cX6_causes 73 = .ok (.baload, 1) := by decide +kernel
theorem dX6_causes_74 : decode cX6_causes 74 = .ok (.ifCond .ne 6, 3) := by decide +kernel
theorem dX6_causes_77 : decode cX6_causes 77 = .ok (.bipush (-5), 2) := by decide +kernel
theorem dX6_causes_79 : decode cX6_causes 79 = .ok (.ireturn, 1) := by decide +kernel
theorem dX6_causes_80 : decode cX6_causes 80 = .ok (.aload_n 0, 1) := by decide +kernel
theorem dX6_causes_81 : decode cX6_causes 81 = .ok (.getfield 18, 3) := by decide +kernel
theorem dX6_causes_84 : decode cX6_causes 84 = .ok (.iload_n 1, 1) := by decide +kernel
theorem dX6_causes_85 : decode cX6_causes 85 = .ok (.iload_n 2, 1) := by decide +kernel
theorem dX6_causes_86 : decode cX6_causes 86 = .ok (.iload_n 3, 1) := by decide +kernel
theorem dX6_causes_87 : decode cX6_causes 87 = .ok (.iload 4, 2) := by decide +kernel
theorem dX6_causes_89 : decode cX6_causes 89 = .ok (.invokevirtual 91, 3) := by decide +kernel
theorem dX6_causes_92 : decode cX6_causes 92 = .ok (.ireturn, 1) := by decide +kernel
theorem dX6_call_0 : decode cX6_call 0 = .ok (.iload_n 1, 1) := by decide +kernel
theorem dX6_call_1 : decode cX6_call 1 = .ok (.bipush 6, 2) := by decide +kernel
theorem dX6_call_3 : decode cX6_call 3 = .ok (.invokestatic 58, 3) := by decide +kernel
theorem dX6_call_6 : decode cX6_call 6 = .ok (.ifCond .ne 5, 3) := by decide +kernel
theorem dX6_call_9 : decode cX6_call 9 = .ok (.iconst (-1), 1) := by decide +kernel
theorem dX6_call_10 : decode cX6_call 10 = .ok (.ireturn, 1) := by decide +kernel
theorem dX6_call_11 : decode cX6_call 11 = .ok (.iload_n 2, 1) := by decide +kernel
theorem dX6_call_12 : decode cX6_call 12 = .ok (.bipush 12, 2) := by decide +kernel
theorem dX6_call_14 : decode cX6_call 14 = .ok (.invokestatic 58, 3) := by decide +kernel
theorem dX6_call_17 : decode cX6_call 17 = .ok (.ifCond .ne 6, 3) := by decide +kernel
theorem dX6_call_20 : decode cX6_call 20 = .ok (.bipush (-2), 2) := by decide +kernel
theorem dX6_call_22 : decode cX6_call 22 = .ok (.ireturn, 1) := by decide +kernel
theorem dX6_call_23 : decode cX6_call 23 = .ok (.aload_n 0, 1) := by decide +kernel
theorem dX6_call_24 : decode cX6_call 24 = .ok (.getfield 29, 3) := by decide +kernel
theorem dX6_call_27 : decode cX6_call 27 = .ok (.getfield 95, 3) := by decide +kernel
theorem dX6_call_30 : decode cX6_call 30 = .ok (.bipush 16, 2) := by decide +kernel
theorem dX6_call_32 : decode cX6_call 32 = .ok (.if_icmp .lt 6, 3) := by decide +kernel
theorem dX6_call_35 : decode cX6_call 35 = .ok (.bipush (-4), 2) := by decide +kernel
theorem dX6_call_37 : decode cX6_call 37 = .ok (.ireturn, 1) := by decide +kernel
theorem dX6_call_38 : decode cX6_call 38 = .ok (.aload_n 0, 1) := by decide +kernel
theorem dX6_call_39 : decode cX6_call 39 = .ok (.getfield 29, 3) := by decide +kernel
theorem dX6_call_42 : decode cX6_call 42 = .ok (.iload_n 1, 1) := by decide +kernel
theorem dX6_call_43 : decode cX6_call 43 = .ok (.iload_n 2, 1) := by decide +kernel
theorem dX6_call_44 : decode cX6_call 44 = .ok (.invokevirtual 98, 3) := by decide +kernel
theorem dX6_call_47 : decode cX6_call 47 = .ok (.aload_n 0, 1) := by decide +kernel
theorem dX6_call_48 : decode cX6_call 48 = .ok (.getfield 29, 3) := by decide +kernel
theorem dX6_call_51 : decode cX6_call 51 = .ok (.getfield 95, 3) := by decide +kernel
theorem dX6_call_54 : decode cX6_call 54 = .ok (.ireturn, 1) := by decide +kernel
theorem dX6_drop_0 : decode cX6_drop 0 = .ok (.iload_n 1, 1) := by decide +kernel
theorem dX6_drop_1 : decode cX6_drop 1 = .ok (.aload_n 0, 1) := by decide +kernel
theorem dX6_drop_2 : decode cX6_drop 2 = .ok (.getfield 29, 3) := by decide +kernel
theorem dX6_drop_5 : decode cX6_drop 5 = .ok (.getfield 95, 3) := by decide +kernel
theorem dX6_drop_8 : decode cX6_drop 8 = .ok (.invokestatic 58, 3) := by decide +kernel
theorem dX6_drop_11 : decode cX6_drop 11 = .ok (.ifCond .ne 5, 3) := by decide +kernel
theorem dX6_drop_14 : decode cX6_drop 14 = .ok (.iconst (-1), 1) := by decide +kernel
theorem dX6_drop_15 : decode cX6_drop 15 = .ok (.ireturn, 1) := by decide +kernel
theorem dX6_drop_16 : decode cX6_drop 16 = .ok (.aload_n 0, 1) := by decide +kernel
theorem dX6_drop_17 : decode cX6_drop 17 = .ok (.getfield 29, 3) := by decide +kernel
theorem dX6_drop_20 : decode cX6_drop 20 = .ok (.iload_n 1, 1) := by decide +kernel
theorem dX6_drop_21 : decode cX6_drop 21 = .ok (.invokevirtual 101, 3) := by decide +kernel
theorem dX6_drop_24 : decode cX6_drop 24 = .ok (.aload_n 0, 1) := by decide +kernel
theorem dX6_drop_25 : decode cX6_drop 25 = .ok (.getfield 29, 3) := by decide +kernel
theorem dX6_drop_28 : decode cX6_drop 28 = .ok (.getfield 95, 3) := by decide +kernel
theorem dX6_drop_31 : decode cX6_drop 31 = .ok (.ireturn, 1) := by decide +kernel
theorem dX6_swap_0 : decode cX6_swap 0 = .ok (.iload_n 1, 1) := by decide +kernel
theorem dX6_swap_1 : decode cX6_swap 1 = .ok (.aload_n 0, 1) := by decide +kernel
theorem dX6_swap_2 : decode cX6_swap 2 = .ok (.getfield 29, 3) := by decide +kernel
theorem dX6_swap_5 : decode cX6_swap 5 = .ok (.getfield 95, 3) := by decide +kernel
theorem dX6_swap_8 : decode cX6_swap 8 = .ok (.iconst 1, 1) := by decide +kernel
theorem dX6_swap_9 : decode cX6_swap 9 = .ok (.isub, 1) := by decide +kernel
theorem dX6_swap_10 : decode cX6_swap 10 = .ok (.invokestatic 58, 3) := by decide +kernel
theorem dX6_swap_13 : decode cX6_swap 13 = .ok (.ifCond .ne 5, 3) := by decide +kernel
theorem dX6_swap_16 : decode cX6_swap 16 = .ok (.iconst (-1), 1) := by decide +kernel
theorem dX6_swap_17 : decode cX6_swap 17 = .ok (.ireturn, 1) := by decide +kernel
theorem dX6_swap_18 : decode cX6_swap 18 = .ok (.aload_n 0, 1) := by decide +kernel
theorem dX6_swap_19 : decode cX6_swap 19 = .ok (.getfield 18, 3) := by decide +kernel
theorem dX6_swap_22 : decode cX6_swap 22 = .ok (.aload_n 0, 1) := by decide +kernel
theorem dX6_swap_23 : decode cX6_swap 23 = .ok (.getfield 11, 3) := by decide +kernel
theorem dX6_swap_26 : decode cX6_swap 26 = .ok (.invokevirtual 79, 3) := by decide +kernel
theorem dX6_swap_29 : decode cX6_swap 29 = .ok (.aload_n 0, 1) := by decide +kernel
theorem dX6_swap_30 : decode cX6_swap 30 = .ok (.getfield 18, 3) := by decide +kernel
theorem dX6_swap_33 : decode cX6_swap 33 = .ok (.getfield 83, 3) := by decide +kernel
theorem dX6_swap_36 : decode cX6_swap 36 = .ok (.aload_n 0, 1) := by decide +kernel
theorem dX6_swap_37 : decode cX6_swap 37 = .ok (.getfield 29, 3) := by decide +kernel
theorem dX6_swap_40 : decode cX6_swap 40 = .ok (.getfield 104, 3) := by decide +kernel
theorem dX6_swap_43 : decode cX6_swap 43 = .ok (.iload_n 1, 1) := by decide +kernel
theorem dX6_swap_44 : decode cX6_swap 44 = .ok (.iaload, 1) := by decide +kernel
theorem dX6_swap_45 : decode cX6_swap 45 = .ok (.baload, 1) := by decide +kernel
theorem dX6_swap_46 : decode cX6_swap 46 = .ok (.ifCond .eq 25, 3) := by decide +kernel
theorem dX6_swap_49 : decode cX6_swap 49 = .ok (.aload_n 0, 1) := by decide +kernel
theorem dX6_swap_50 : decode cX6_swap 50 = .ok (.getfield 18, 3) := by decide +kernel
theorem dX6_swap_53 : decode cX6_swap 53 = .ok (.getfield 83, 3) := by decide +kernel
theorem dX6_swap_56 : decode cX6_swap 56 = .ok (.aload_n 0, 1) := by decide +kernel
theorem dX6_swap_57 : decode cX6_swap 57 = .ok (.getfield 29, 3) := by decide +kernel
theorem dX6_swap_60 : decode cX6_swap 60 = .ok (.getfield 104, 3) := by decide +kernel
theorem dX6_swap_63 : decode cX6_swap 63 = .ok (.iload_n 1, 1) := by decide +kernel
theorem dX6_swap_64 : decode cX6_swap 64 = .ok (.iconst 1, 1) := by decide +kernel
theorem dX6_swap_65 : decode cX6_swap 65 = .ok (.iadd, 1) := by decide +kernel
theorem dX6_swap_66 : decode cX6_swap 66 = .ok (.iaload, 1) := by decide +kernel
theorem dX6_swap_67 : decode cX6_swap 67 = .ok (.baload, 1) := by decide +kernel
theorem dX6_swap_68 : decode cX6_swap 68 = .ok (.ifCond .ne 6, 3) := by decide +kernel
theorem dX6_swap_71 : decode cX6_swap 71 = .ok (.bipush (-5), 2) := by decide +kernel
theorem dX6_swap_73 : decode cX6_swap 73 = .ok (.ireturn, 1) := by decide +kernel
theorem dX6_swap_74 : decode cX6_swap 74 = .ok (.aload_n 0, 1) := by decide +kernel
theorem dX6_swap_75 : decode cX6_swap 75 = .ok (.getfield 18, 3) := by decide +kernel
theorem dX6_swap_78 : decode cX6_swap 78 = .ok (.aload_n 0, 1) := by decide +kernel
theorem dX6_swap_79 : decode cX6_swap 79 = .ok (.getfield 29, 3) := by decide +kernel
theorem dX6_swap_82 : decode cX6_swap 82 = .ok (.iload_n 1, 1) := by decide +kernel
theorem dX6_swap_83 : decode cX6_swap 83 = .ok (.iload_n 1, 1) := by decide +kernel
theorem dX6_swap_84 : decode cX6_swap 84 = .ok (.iconst 1, 1) := by decide +kernel
theorem dX6_swap_85 : decode cX6_swap 85 = .ok (.iadd, 1) := by decide +kernel
theorem dX6_swap_86 : decode cX6_swap 86 = .ok (.invokevirtual 107, 3) := by decide +kernel
theorem dX6_swap_89 : decode cX6_swap 89 = .ok (.ifCond .ne 6, 3) := by decide +kernel
theorem dX6_swap_92 : decode cX6_swap 92 = .ok (.bipush (-3), 2) := by decide +kernel
theorem dX6_swap_94 : decode cX6_swap 94 = .ok (.ireturn, 1) := by decide +kernel
theorem dX6_swap_95 : decode cX6_swap 95 = .ok (.aload_n 0, 1) := by decide +kernel
theorem dX6_swap_96 : decode cX6_swap 96 = .ok (.getfield 29, 3) := by decide +kernel
theorem dX6_swap_99 : decode cX6_swap 99 = .ok (.iload_n 1, 1) := by decide +kernel
theorem dX6_swap_100 : decode cX6_swap 100 = .ok (.invokevirtual 111, 3) := by decide +kernel
theorem dX6_swap_103 : decode cX6_swap 103 = .ok (.iconst 1, 1) := by decide +kernel
theorem dX6_swap_104 : decode cX6_swap 104 = .ok (.ireturn, 1) := by decide +kernel
theorem dX6_told_0 : decode cX6_told 0 = .ok (.iload_n 1, 1) := by decide +kernel
theorem dX6_told_1 : decode cX6_told 1 = .ok (.aload_n 0, 1) := by decide +kernel
theorem dX6_told_2 : decode cX6_told 2 = .ok (.getfield 29, 3) := by decide +kernel
theorem dX6_told_5 : decode cX6_told 5 = .ok (.getfield 95, 3) := by decide +kernel
theorem dX6_told_8 : decode cX6_told 8 = .ok (.invokestatic 58, 3) := by decide +kernel
theorem dX6_told_11 : decode cX6_told 11 = .ok (.ifCond .ne 5, 3) := by decide +kernel
theorem dX6_told_14 : decode cX6_told 14 = .ok (.iconst (-1), 1) := by decide +kernel
theorem dX6_told_15 : decode cX6_told 15 = .ok (.ireturn, 1) := by decide +kernel
theorem dX6_told_16 : decode cX6_told 16 = .ok (.iload_n 2, 1) := by decide +kernel
theorem dX6_told_17 : decode cX6_told 17 = .ok (.iconst 4, 1) := by decide +kernel
theorem dX6_told_18 : decode cX6_told 18 = .ok (.invokestatic 58, 3) := by decide +kernel
theorem dX6_told_21 : decode cX6_told 21 = .ok (.ifCond .ne 6, 3) := by decide +kernel
theorem dX6_told_24 : decode cX6_told 24 = .ok (.bipush (-2), 2) := by decide +kernel
theorem dX6_told_26 : decode cX6_told 26 = .ok (.ireturn, 1) := by decide +kernel
theorem dX6_told_27 : decode cX6_told 27 = .ok (.iload_n 2, 1) := by decide +kernel
theorem dX6_told_28 : decode cX6_told 28 = .ok (.ifCond .ne 13, 3) := by decide +kernel
theorem dX6_told_31 : decode cX6_told 31 = .ok (.aload_n 0, 1) := by decide +kernel
theorem dX6_told_32 : decode cX6_told 32 = .ok (.getfield 29, 3) := by decide +kernel
theorem dX6_told_35 : decode cX6_told 35 = .ok (.getfield 104, 3) := by decide +kernel
theorem dX6_told_38 : decode cX6_told 38 = .ok (.iload_n 1, 1) := by decide +kernel
theorem dX6_told_39 : decode cX6_told 39 = .ok (.iaload, 1) := by decide +kernel
theorem dX6_told_40 : decode cX6_told 40 = .ok (.ireturn, 1) := by decide +kernel
theorem dX6_told_41 : decode cX6_told 41 = .ok (.iload_n 2, 1) := by decide +kernel
theorem dX6_told_42 : decode cX6_told 42 = .ok (.iconst 1, 1) := by decide +kernel
theorem dX6_told_43 : decode cX6_told 43 = .ok (.if_icmp .ne 13, 3) := by decide +kernel
theorem dX6_told_46 : decode cX6_told 46 = .ok (.aload_n 0, 1) := by decide +kernel
theorem dX6_told_47 : decode cX6_told 47 = .ok (.getfield 29, 3) := by decide +kernel
theorem dX6_told_50 : decode cX6_told 50 = .ok (.getfield 114, 3) := by decide +kernel
theorem dX6_told_53 : decode cX6_told 53 = .ok (.iload_n 1, 1) := by decide +kernel
theorem dX6_told_54 : decode cX6_told 54 = .ok (.iaload, 1) := by decide +kernel
theorem dX6_told_55 : decode cX6_told 55 = .ok (.ireturn, 1) := by decide +kernel
theorem dX6_told_56 : decode cX6_told 56 = .ok (.aload_n 0, 1) := by decide +kernel
theorem dX6_told_57 : decode cX6_told 57 = .ok (.invokevirtual 117, 3) := by decide +kernel
theorem dX6_told_60 : decode cX6_told 60 = .ok (.ifCond .ne 6, 3) := by decide +kernel
theorem dX6_told_63 : decode cX6_told 63 = .ok (.bipush (-5), 2) := by decide +kernel
theorem dX6_told_65 : decode cX6_told 65 = .ok (.ireturn, 1) := by decide +kernel
theorem dX6_told_66 : decode cX6_told 66 = .ok (.iload_n 2, 1) := by decide +kernel
theorem dX6_told_67 : decode cX6_told 67 = .ok (.iconst 2, 1) := by decide +kernel
theorem dX6_told_68 : decode cX6_told 68 = .ok (.if_icmp .ne 15, 3) := by decide +kernel
theorem dX6_told_71 : decode cX6_told 71 = .ok (.aload_n 0, 1) := by decide +kernel
theorem dX6_told_72 : decode cX6_told 72 = .ok (.getfield 42, 3) := by decide +kernel
theorem dX6_told_75 : decode cX6_told 75 = .ok (.getfield 121, 3) := by decide +kernel
theorem dX6_told_78 : decode cX6_told 78 = .ok (.iload_n 1, 1) := by decide +kernel
theorem dX6_told_79 : decode cX6_told 79 = .ok (.iaload, 1) := by decide +kernel
theorem dX6_told_80 : decode cX6_told 80 = .ok (.goto 12, 3) := by decide +kernel
theorem dX6_told_83 : decode cX6_told 83 = .ok (.aload_n 0, 1) := by decide +kernel
theorem dX6_told_84 : decode cX6_told 84 = .ok (.getfield 42, 3) := by decide +kernel
theorem dX6_told_87 : decode cX6_told 87 = .ok (.getfield 124, 3) := by decide +kernel
theorem dX6_told_90 : decode cX6_told 90 = .ok (.iload_n 1, 1) := by decide +kernel
theorem dX6_told_91 : decode cX6_told 91 = .ok (.iaload, 1) := by decide +kernel
theorem dX6_told_92 : decode cX6_told 92 = .ok (.ireturn, 1) := by decide +kernel
theorem dX6_stages_0 : decode cX6_stages 0 = .ok (.iload_n 1, 1) := by decide +kernel
theorem dX6_stages_1 : decode cX6_stages 1 = .ok (.ifCond .lt 9, 3) := by decide +kernel
theorem dX6_stages_4 : decode cX6_stages 4 = .ok (.iload_n 1, 1) := by decide +kernel
theorem dX6_stages_5 : decode cX6_stages 5 = .ok (.bipush 6, 2) := by decide +kernel
theorem dX6_stages_7 : decode cX6_stages 7 = .ok (.if_icmp .le 6, 3) := by decide +kernel
theorem dX6_stages_10 : decode cX6_stages 10 = .ok (.bipush (-2), 2) := by decide +kernel
theorem dX6_stages_12 : decode cX6_stages 12 = .ok (.ireturn, 1) := by decide +kernel
theorem dX6_stages_13 : decode cX6_stages 13 = .ok (.iload_n 1, 1) := by decide +kernel
theorem dX6_stages_14 : decode cX6_stages 14 = .ok (.bipush 6, 2) := by decide +kernel
theorem dX6_stages_16 : decode cX6_stages 16 = .ok (.if_icmp .ne 18, 3) := by decide +kernel
theorem dX6_stages_19 : decode cX6_stages 19 = .ok (.aload_n 0, 1) := by decide +kernel
theorem dX6_stages_20 : decode cX6_stages 20 = .ok (.getfield 35, 3) := by decide +kernel
theorem dX6_stages_23 : decode cX6_stages 23 = .ok (.iconst 0, 1) := by decide +kernel
theorem dX6_stages_24 : decode cX6_stages 24 = .ok (.aaload, 1) := by decide +kernel
theorem dX6_stages_25 : decode cX6_stages 25 = .ok (.getfield 127, 3) := by decide +kernel
theorem dX6_stages_28 : decode cX6_stages 28 = .ok (.ifCond .ne 6, 3) := by decide +kernel
theorem dX6_stages_31 : decode cX6_stages 31 = .ok (.bipush (-3), 2) := by decide +kernel
theorem dX6_stages_33 : decode cX6_stages 33 = .ok (.ireturn, 1) := by decide +kernel
theorem dX6_stages_34 : decode cX6_stages 34 = .ok (.aload_n 0, 1) := by decide +kernel
theorem dX6_stages_35 : decode cX6_stages 35 = .ok (.invokevirtual 117, 3) := by decide +kernel
theorem dX6_stages_38 : decode cX6_stages 38 = .ok (.ifCond .ne 6, 3) := by decide +kernel
theorem dX6_stages_41 : decode cX6_stages 41 = .ok (.bipush (-5), 2) := by decide +kernel
theorem dX6_stages_43 : decode cX6_stages 43 = .ok (.ireturn, 1) := by decide +kernel
theorem dX6_stages_44 : decode cX6_stages 44 = .ok (.iload_n 1, 1) := by decide +kernel
theorem dX6_stages_45 : decode cX6_stages 45 = .ok (.tableswitch 105 0 5 #[39, 47, 55, 63, 81, 89], 39) := by decide +kernel
theorem dX6_stages_84 : decode cX6_stages 84 = .ok (.aload_n 0, 1) := by decide +kernel
theorem dX6_stages_85 : decode cX6_stages 85 = .ok (.getfield 42, 3) := by decide +kernel
theorem dX6_stages_88 : decode cX6_stages 88 = .ok (.getfield 131, 3) := by decide +kernel
theorem dX6_stages_91 : decode cX6_stages 91 = .ok (.ireturn, 1) := by decide +kernel
theorem dX6_stages_92 : decode cX6_stages 92 = .ok (.aload_n 0, 1) := by decide +kernel
theorem dX6_stages_93 : decode cX6_stages 93 = .ok (.getfield 42, 3) := by decide +kernel
theorem dX6_stages_96 : decode cX6_stages 96 = .ok (.invokevirtual 134, 3) := by decide +kernel
theorem dX6_stages_99 : decode cX6_stages 99 = .ok (.ireturn, 1) := by decide +kernel
theorem dX6_stages_100 : decode cX6_stages 100 = .ok (.aload_n 0, 1) := by decide +kernel
theorem dX6_stages_101 : decode cX6_stages 101 = .ok (.getfield 42, 3) := by decide +kernel
theorem dX6_stages_104 : decode cX6_stages 104 = .ok (.invokevirtual 138, 3) := by decide +kernel
theorem dX6_stages_107 : decode cX6_stages 107 = .ok (.ireturn, 1) := by decide +kernel
theorem dX6_stages_108 : decode cX6_stages 108 = .ok (.aload_n 0, 1) := by decide +kernel
theorem dX6_stages_109 : decode cX6_stages 109 = .ok (.getfield 29, 3) := by decide +kernel
theorem dX6_stages_112 : decode cX6_stages 112 = .ok (.getfield 95, 3) := by decide +kernel
theorem dX6_stages_115 : decode cX6_stages 115 = .ok (.aload_n 0, 1) := by decide +kernel
theorem dX6_stages_116 : decode cX6_stages 116 = .ok (.getfield 42, 3) := by decide +kernel
theorem dX6_stages_119 : decode cX6_stages 119 = .ok (.getfield 131, 3) := by decide +kernel
theorem dX6_stages_122 : decode cX6_stages 122 = .ok (.invokestatic 141, 3) := by decide +kernel
theorem dX6_stages_125 : decode cX6_stages 125 = .ok (.ireturn, 1) := by decide +kernel
theorem dX6_stages_126 : decode cX6_stages 126 = .ok (.aload_n 0, 1) := by decide +kernel
theorem dX6_stages_127 : decode cX6_stages 127 = .ok (.getfield 42, 3) := by decide +kernel
theorem dX6_stages_130 : decode cX6_stages 130 = .ok (.getfield 145, 3) := by decide +kernel
theorem dX6_stages_133 : decode cX6_stages 133 = .ok (.ireturn, 1) := by decide +kernel
theorem dX6_stages_134 : decode cX6_stages 134 = .ok (.aload_n 0, 1) := by decide +kernel
theorem dX6_stages_135 : decode cX6_stages 135 = .ok (.getfield 42, 3) := by decide +kernel
theorem dX6_stages_138 : decode cX6_stages 138 = .ok (.invokevirtual 148, 3) := by decide +kernel
theorem dX6_stages_141 : decode cX6_stages 141 = .ok (.ifCond .eq 7, 3) := by decide +kernel
theorem dX6_stages_144 : decode cX6_stages 144 = .ok (.iconst 1, 1) := by decide +kernel
theorem dX6_stages_145 : decode cX6_stages 145 = .ok (.goto 4, 3) := by decide +kernel
theorem dX6_stages_148 : decode cX6_stages 148 = .ok (.iconst 0, 1) := by decide +kernel
theorem dX6_stages_149 : decode cX6_stages 149 = .ok (.ireturn, 1) := by decide +kernel
theorem dX6_stages_150 : decode cX6_stages 150 = .ok (.aload_n 0, 1) := by decide +kernel
theorem dX6_stages_151 : decode cX6_stages 151 = .ok (.aload_n 0, 1) := by decide +kernel
theorem dX6_stages_152 : decode cX6_stages 152 = .ok (.getfield 35, 3) := by decide +kernel
theorem dX6_stages_155 : decode cX6_stages 155 = .ok (.iconst 0, 1) := by decide +kernel
theorem dX6_stages_156 : decode cX6_stages 156 = .ok (.aaload, 1) := by decide +kernel
theorem dX6_stages_157 : decode cX6_stages 157 = .ok (.getfield 151, 3) := by decide +kernel
theorem dX6_stages_160 : decode cX6_stages 160 = .ok (.invokevirtual 152, 3) := by decide +kernel
theorem dX6_stages_163 : decode cX6_stages 163 = .ok (.ireturn, 1) := by decide +kernel
theorem dX6_run_0 : decode cX6_run 0 = .ok (.iload_n 1, 1) := by decide +kernel
theorem dX6_run_1 : decode cX6_run 1 = .ok (.ifCond .lt 18, 3) := by decide +kernel
theorem dX6_run_4 : decode cX6_run 4 = .ok (.iload_n 1, 1) := by decide +kernel
theorem dX6_run_5 : decode cX6_run 5 = .ok (.iconst 2, 1) := by decide +kernel
theorem dX6_run_6 : decode cX6_run 6 = .ok (.if_icmp .gt 13, 3) := by decide +kernel
theorem dX6_run_9 : decode cX6_run 9 = .ok (.iload_n 2, 1) := by decide +kernel
theorem dX6_run_10 : decode cX6_run 10 = .ok (.ifCond .lt 9, 3) := by decide +kernel
theorem dX6_run_13 : decode cX6_run 13 = .ok (.iload_n 2, 1) := by decide +kernel
theorem dX6_run_14 : decode cX6_run 14 = .ok (.bipush 19, 2) := by decide +kernel
theorem dX6_run_16 : decode cX6_run 16 = .ok (.if_icmp .le 6, 3) := by decide +kernel
theorem dX6_run_19 : decode cX6_run 19 = .ok (.bipush (-2), 2) := by decide +kernel
theorem dX6_run_21 : decode cX6_run 21 = .ok (.ireturn, 1) := by decide +kernel
theorem dX6_run_22 : decode cX6_run 22 = .ok (.aload_n 0, 1) := by decide +kernel
theorem dX6_run_23 : decode cX6_run 23 = .ok (.iload_n 1, 1) := by decide +kernel
theorem dX6_run_24 : decode cX6_run 24 = .ok (.invokevirtual 156, 3) := by decide +kernel
theorem dX6_run_27 : decode cX6_run 27 = .ok (.ifCond .ne 6, 3) := by decide +kernel
theorem dX6_run_30 : decode cX6_run 30 = .ok (.bipush (-3), 2) := by decide +kernel
theorem dX6_run_32 : decode cX6_run 32 = .ok (.ireturn, 1) := by decide +kernel
theorem dX6_run_33 : decode cX6_run 33 = .ok (.iload_n 2, 1) := by decide +kernel
theorem dX6_run_34 : decode cX6_run 34 = .ok (.bipush 18, 2) := by decide +kernel
theorem dX6_run_36 : decode cX6_run 36 = .ok (.if_icmp .ne 11, 3) := by decide +kernel
theorem dX6_run_39 : decode cX6_run 39 = .ok (.aload_n 0, 1) := by decide +kernel
theorem dX6_run_40 : decode cX6_run 40 = .ok (.getfield 52, 3) := by decide +kernel
theorem dX6_run_43 : decode cX6_run 43 = .ok (.getfield 160, 3) := by decide +kernel
theorem dX6_run_46 : decode cX6_run 46 = .ok (.ireturn, 1) := by decide +kernel
theorem dX6_run_47 : decode cX6_run 47 = .ok (.iload_n 2, 1) := by decide +kernel
theorem dX6_run_48 : decode cX6_run 48 = .ok (.bipush 19, 2) := by decide +kernel
theorem dX6_run_50 : decode cX6_run 50 = .ok (.if_icmp .ne 13, 3) := by decide +kernel
theorem dX6_run_53 : decode cX6_run 53 = .ok (.aload_n 0, 1) := by decide +kernel
theorem dX6_run_54 : decode cX6_run 54 = .ok (.getfield 52, 3) := by decide +kernel
theorem dX6_run_57 : decode cX6_run 57 = .ok (.getfield 163, 3) := by decide +kernel
theorem dX6_run_60 : decode cX6_run 60 = .ok (.goto 12, 3) := by decide +kernel
theorem dX6_run_63 : decode cX6_run 63 = .ok (.aload_n 0, 1) := by decide +kernel
theorem dX6_run_64 : decode cX6_run 64 = .ok (.getfield 52, 3) := by decide +kernel
theorem dX6_run_67 : decode cX6_run 67 = .ok (.getfield 166, 3) := by decide +kernel
theorem dX6_run_70 : decode cX6_run 70 = .ok (.iload_n 2, 1) := by decide +kernel
theorem dX6_run_71 : decode cX6_run 71 = .ok (.iaload, 1) := by decide +kernel
theorem dX6_run_72 : decode cX6_run 72 = .ok (.ireturn, 1) := by decide +kernel
theorem dX6_thrower_0 : decode cX6_thrower 0 = .ok (.iload_n 1, 1) := by decide +kernel
theorem dX6_thrower_1 : decode cX6_thrower 1 = .ok (.ifCond .lt 8, 3) := by decide +kernel
theorem dX6_thrower_4 : decode cX6_thrower 4 = .ok (.iload_n 1, 1) := by decide +kernel
theorem dX6_thrower_5 : decode cX6_thrower 5 = .ok (.iconst 2, 1) := by decide +kernel
theorem dX6_thrower_6 : decode cX6_thrower 6 = .ok (.if_icmp .le 6, 3) := by decide +kernel
theorem dX6_thrower_9 : decode cX6_thrower 9 = .ok (.bipush (-2), 2) := by decide +kernel
theorem dX6_thrower_11 : decode cX6_thrower 11 = .ok (.ireturn, 1) := by decide +kernel
theorem dX6_thrower_12 : decode cX6_thrower 12 = .ok (.aload_n 0, 1) := by decide +kernel
theorem dX6_thrower_13 : decode cX6_thrower 13 = .ok (.iload_n 1, 1) := by decide +kernel
theorem dX6_thrower_14 : decode cX6_thrower 14 = .ok (.invokevirtual 156, 3) := by decide +kernel
theorem dX6_thrower_17 : decode cX6_thrower 17 = .ok (.ifCond .ne 6, 3) := by decide +kernel
theorem dX6_thrower_20 : decode cX6_thrower 20 = .ok (.bipush (-3), 2) := by decide +kernel
theorem dX6_thrower_22 : decode cX6_thrower 22 = .ok (.ireturn, 1) := by decide +kernel
theorem dX6_thrower_23 : decode cX6_thrower 23 = .ok (.iload_n 2, 1) := by decide +kernel
theorem dX6_thrower_24 : decode cX6_thrower 24 = .ok (.aload_n 0, 1) := by decide +kernel
theorem dX6_thrower_25 : decode cX6_thrower 25 = .ok (.getfield 52, 3) := by decide +kernel
theorem dX6_thrower_28 : decode cX6_thrower 28 = .ok (.getfield 160, 3) := by decide +kernel
theorem dX6_thrower_31 : decode cX6_thrower 31 = .ok (.invokestatic 58, 3) := by decide +kernel
theorem dX6_thrower_34 : decode cX6_thrower 34 = .ok (.ifCond .eq 15, 3) := by decide +kernel
theorem dX6_thrower_37 : decode cX6_thrower 37 = .ok (.aload_n 0, 1) := by decide +kernel
theorem dX6_thrower_38 : decode cX6_thrower 38 = .ok (.getfield 52, 3) := by decide +kernel
theorem dX6_thrower_41 : decode cX6_thrower 41 = .ok (.getfield 169, 3) := by decide +kernel
theorem dX6_thrower_44 : decode cX6_thrower 44 = .ok (.iload_n 2, 1) := by decide +kernel
theorem dX6_thrower_45 : decode cX6_thrower 45 = .ok (.iaload, 1) := by decide +kernel
theorem dX6_thrower_46 : decode cX6_thrower 46 = .ok (.goto 5, 3) := by decide +kernel
theorem dX6_thrower_49 : decode cX6_thrower 49 = .ok (.bipush (-6), 2) := by decide +kernel
theorem dX6_thrower_51 : decode cX6_thrower 51 = .ok (.ireturn, 1) := by decide +kernel
theorem dX6_commit_0 : decode cX6_commit 0 = .ok (.aload_n 0, 1) := by decide +kernel
theorem dX6_commit_1 : decode cX6_commit 1 = .ok (.iconst 0, 1) := by decide +kernel
theorem dX6_commit_2 : decode cX6_commit 2 = .ok (.invokevirtual 156, 3) := by decide +kernel
theorem dX6_commit_5 : decode cX6_commit 5 = .ok (.ifCond .ne 6, 3) := by decide +kernel
theorem dX6_commit_8 : decode cX6_commit 8 = .ok (.bipush (-3), 2) := by decide +kernel
theorem dX6_commit_10 : decode cX6_commit 10 = .ok (.ireturn, 1) := by decide +kernel
theorem dX6_commit_11 : decode cX6_commit 11 = .ok (.aload_n 0, 1) := by decide +kernel
theorem dX6_commit_12 : decode cX6_commit 12 = .ok (.getfield 52, 3) := by decide +kernel
theorem dX6_commit_15 : decode cX6_commit 15 = .ok (.getfield 166, 3) := by decide +kernel
theorem dX6_commit_18 : decode cX6_commit 18 = .ok (.iconst 0, 1) := by decide +kernel
theorem dX6_commit_19 : decode cX6_commit 19 = .ok (.aload_n 0, 1) := by decide +kernel
theorem dX6_commit_20 : decode cX6_commit 20 = .ok (.getfield 22, 3) := by decide +kernel
theorem dX6_commit_23 : decode cX6_commit 23 = .ok (.iconst 0, 1) := by decide +kernel
theorem dX6_commit_24 : decode cX6_commit 24 = .ok (.bipush 18, 2) := by decide +kernel
theorem dX6_commit_26 : decode cX6_commit 26 = .ok (.invokestatic 172, 3) := by decide +kernel
theorem dX6_commit_29 : decode cX6_commit 29 = .ok (.aload_n 0, 1) := by decide +kernel
theorem dX6_commit_30 : decode cX6_commit 30 = .ok (.getfield 29, 3) := by decide +kernel
theorem dX6_commit_33 : decode cX6_commit 33 = .ok (.iconst 0, 1) := by decide +kernel
theorem dX6_commit_34 : decode cX6_commit 34 = .ok (.putfield 95, 3) := by decide +kernel
theorem dX6_commit_37 : decode cX6_commit 37 = .ok (.aload_n 0, 1) := by decide +kernel
theorem dX6_commit_38 : decode cX6_commit 38 = .ok (.getfield 52, 3) := by decide +kernel
theorem dX6_commit_41 : decode cX6_commit 41 = .ok (.getfield 160, 3) := by decide +kernel
theorem dX6_commit_44 : decode cX6_commit 44 = .ok (.ireturn, 1) := by decide +kernel
theorem dX6_image_0 : decode cX6_image 0 = .ok (.iload_n 1, 1) := by decide +kernel
theorem dX6_image_1 : decode cX6_image 1 = .ok (.iconst 2, 1) := by decide +kernel
theorem dX6_image_2 : decode cX6_image 2 = .ok (.invokestatic 58, 3) := by decide +kernel
theorem dX6_image_5 : decode cX6_image 5 = .ok (.ifCond .ne 6, 3) := by decide +kernel
theorem dX6_image_8 : decode cX6_image 8 = .ok (.bipush (-2), 2) := by decide +kernel
theorem dX6_image_10 : decode cX6_image 10 = .ok (.ireturn, 1) := by decide +kernel
theorem dX6_image_11 : decode cX6_image 11 = .ok (.aload_n 0, 1) := by decide +kernel
theorem dX6_image_12 : decode cX6_image 12 = .ok (.getfield 35, 3) := by decide +kernel
theorem dX6_image_15 : decode cX6_image 15 = .ok (.iload_n 1, 1) := by decide +kernel
theorem dX6_image_16 : decode cX6_image 16 = .ok (.aaload, 1) := by decide +kernel
theorem dX6_image_17 : decode cX6_image 17 = .ok (.aload_n 0, 1) := by decide +kernel
theorem dX6_image_18 : decode cX6_image 18 = .ok (.getfield 22, 3) := by decide +kernel
theorem dX6_image_21 : decode cX6_image 21 = .ok (.aload_n 0, 1) := by decide +kernel
theorem dX6_image_22 : decode cX6_image 22 = .ok (.getfield 29, 3) := by decide +kernel
theorem dX6_image_25 : decode cX6_image 25 = .ok (.invokevirtual 178, 3) := by decide +kernel
theorem dX6_image_28 : decode cX6_image 28 = .ok (.iconst 1, 1) := by decide +kernel
theorem dX6_image_29 : decode cX6_image 29 = .ok (.ireturn, 1) := by decide +kernel
theorem dX6_restore_0 : decode cX6_restore 0 = .ok (.iload_n 1, 1) := by decide +kernel
theorem dX6_restore_1 : decode cX6_restore 1 = .ok (.iconst 2, 1) := by decide +kernel
theorem dX6_restore_2 : decode cX6_restore 2 = .ok (.invokestatic 58, 3) := by decide +kernel
theorem dX6_restore_5 : decode cX6_restore 5 = .ok (.ifCond .ne 6, 3) := by decide +kernel
theorem dX6_restore_8 : decode cX6_restore 8 = .ok (.bipush (-2), 2) := by decide +kernel
theorem dX6_restore_10 : decode cX6_restore 10 = .ok (.ireturn, 1) := by decide +kernel
theorem dX6_restore_11 : decode cX6_restore 11 = .ok (.aload_n 0, 1) := by decide +kernel
theorem dX6_restore_12 : decode cX6_restore 12 = .ok (.getfield 35, 3) := by decide +kernel
theorem dX6_restore_15 : decode cX6_restore 15 = .ok (.iload_n 1, 1) := by decide +kernel
theorem dX6_restore_16 : decode cX6_restore 16 = .ok (.aaload, 1) := by decide +kernel
theorem dX6_restore_17 : decode cX6_restore 17 = .ok (.getfield 127, 3) := by decide +kernel
theorem dX6_restore_20 : decode cX6_restore 20 = .ok (.ifCond .ne 6, 3) := by decide +kernel
theorem dX6_restore_23 : decode cX6_restore 23 = .ok (.bipush (-3), 2) := by decide +kernel
theorem dX6_restore_25 : decode cX6_restore 25 = .ok (.ireturn, 1) := by decide +kernel
theorem dX6_restore_26 : decode cX6_restore 26 = .ok (.aload_n 0, 1) := by decide +kernel
theorem dX6_restore_27 : decode cX6_restore 27 = .ok (.getfield 35, 3) := by decide +kernel
theorem dX6_restore_30 : decode cX6_restore 30 = .ok (.iload_n 1, 1) := by decide +kernel
theorem dX6_restore_31 : decode cX6_restore 31 = .ok (.aaload, 1) := by decide +kernel
theorem dX6_restore_32 : decode cX6_restore 32 = .ok (.getfield 182, 3) := by decide +kernel
theorem dX6_restore_35 : decode cX6_restore 35 = .ok (.iconst 0, 1) := by decide +kernel
theorem dX6_restore_36 : decode cX6_restore 36 = .ok (.aload_n 0, 1) := by decide +kernel
theorem dX6_restore_37 : decode cX6_restore 37 = .ok (.getfield 22, 3) := by decide +kernel
theorem dX6_restore_40 : decode cX6_restore 40 = .ok (.iconst 0, 1) := by decide +kernel
theorem dX6_restore_41 : decode cX6_restore 41 = .ok (.bipush 18, 2) := by decide +kernel
theorem dX6_restore_43 : decode cX6_restore 43 = .ok (.invokestatic 172, 3) := by decide +kernel
theorem dX6_restore_46 : decode cX6_restore 46 = .ok (.aload_n 0, 1) := by decide +kernel
theorem dX6_restore_47 : decode cX6_restore 47 = .ok (.getfield 29, 3) := by decide +kernel
theorem dX6_restore_50 : decode cX6_restore 50 = .ok (.aload_n 0, 1) := by decide +kernel
theorem dX6_restore_51 : decode cX6_restore 51 = .ok (.getfield 35, 3) := by decide +kernel
theorem dX6_restore_54 : decode cX6_restore 54 = .ok (.iload_n 1, 1) := by decide +kernel
theorem dX6_restore_55 : decode cX6_restore 55 = .ok (.aaload, 1) := by decide +kernel
theorem dX6_restore_56 : decode cX6_restore 56 = .ok (.getfield 151, 3) := by decide +kernel
theorem dX6_restore_59 : decode cX6_restore 59 = .ok (.invokevirtual 183, 3) := by decide +kernel
theorem dX6_restore_62 : decode cX6_restore 62 = .ok (.iconst 1, 1) := by decide +kernel
theorem dX6_restore_63 : decode cX6_restore 63 = .ok (.ireturn, 1) := by decide +kernel
theorem dX6_count_0 : decode cX6_count 0 = .ok (.iload_n 1, 1) := by decide +kernel
theorem dX6_count_1 : decode cX6_count 1 = .ok (.ifCond .ne 11, 3) := by decide +kernel
theorem dX6_count_4 : decode cX6_count 4 = .ok (.aload_n 0, 1) := by decide +kernel
theorem dX6_count_5 : decode cX6_count 5 = .ok (.getfield 29, 3) := by decide +kernel
theorem dX6_count_8 : decode cX6_count 8 = .ok (.getfield 95, 3) := by decide +kernel
theorem dX6_count_11 : decode cX6_count 11 = .ok (.ireturn, 1) := by decide +kernel
theorem dX6_count_12 : decode cX6_count 12 = .ok (.iload_n 1, 1) := by decide +kernel
theorem dX6_count_13 : decode cX6_count 13 = .ok (.bipush 10, 2) := by decide +kernel
theorem dX6_count_15 : decode cX6_count 15 = .ok (.invokestatic 187, 3) := by decide +kernel
theorem dX6_count_18 : decode cX6_count 18 = .ok (.istore_n 2, 1) := by decide +kernel
theorem dX6_count_19 : decode cX6_count 19 = .ok (.iload_n 1, 1) := by decide +kernel
theorem dX6_count_20 : decode cX6_count 20 = .ok (.bipush 10, 2) := by decide +kernel
theorem dX6_count_22 : decode cX6_count 22 = .ok (.if_icmp .lt 15, 3) := by decide +kernel
theorem dX6_count_25 : decode cX6_count 25 = .ok (.iload_n 1, 1) := by decide +kernel
theorem dX6_count_26 : decode cX6_count 26 = .ok (.bipush 40, 2) := by decide +kernel
theorem dX6_count_28 : decode cX6_count 28 = .ok (.if_icmp .ge 9, 3) := by decide +kernel
theorem dX6_count_31 : decode cX6_count 31 = .ok (.iload_n 2, 1) := by decide +kernel
theorem dX6_count_32 : decode cX6_count 32 = .ok (.bipush 6, 2) := by decide +kernel
theorem dX6_count_34 : decode cX6_count 34 = .ok (.if_icmp .lt 6, 3) := by decide +kernel
theorem dX6_count_37 : decode cX6_count 37 = .ok (.bipush (-2), 2) := by decide +kernel
theorem dX6_count_39 : decode cX6_count 39 = .ok (.ireturn, 1) := by decide +kernel
theorem dX6_count_40 : decode cX6_count 40 = .ok (.aload_n 0, 1) := by decide +kernel
theorem dX6_count_41 : decode cX6_count 41 = .ok (.getfield 11, 3) := by decide +kernel
theorem dX6_count_44 : decode cX6_count 44 = .ok (.iload_n 2, 1) := by decide +kernel
theorem dX6_count_45 : decode cX6_count 45 = .ok (.aaload, 1) := by decide +kernel
theorem dX6_count_46 : decode cX6_count 46 = .ok (.astore_n 3, 1) := by decide +kernel
theorem dX6_count_47 : decode cX6_count 47 = .ok (.iload_n 1, 1) := by decide +kernel
theorem dX6_count_48 : decode cX6_count 48 = .ok (.bipush 20, 2) := by decide +kernel
theorem dX6_count_50 : decode cX6_count 50 = .ok (.if_icmp .ge 8, 3) := by decide +kernel
theorem dX6_count_53 : decode cX6_count 53 = .ok (.aload_n 3, 1) := by decide +kernel
theorem dX6_count_54 : decode cX6_count 54 = .ok (.getfield 62, 3) := by decide +kernel
theorem dX6_count_57 : decode cX6_count 57 = .ok (.ireturn, 1) := by decide +kernel
theorem dX6_count_58 : decode cX6_count 58 = .ok (.aload_n 3, 1) := by decide +kernel
theorem dX6_count_59 : decode cX6_count 59 = .ok (.getfield 76, 3) := by decide +kernel
theorem dX6_count_62 : decode cX6_count 62 = .ok (.bipush (-6), 2) := by decide +kernel
theorem dX6_count_64 : decode cX6_count 64 = .ok (.if_icmp .eq 6, 3) := by decide +kernel
theorem dX6_count_67 : decode cX6_count 67 = .ok (.bipush (-6), 2) := by decide +kernel
theorem dX6_count_69 : decode cX6_count 69 = .ok (.ireturn, 1) := by decide +kernel
theorem dX6_count_70 : decode cX6_count 70 = .ok (.iload_n 1, 1) := by decide +kernel
theorem dX6_count_71 : decode cX6_count 71 = .ok (.bipush 30, 2) := by decide +kernel
theorem dX6_count_73 : decode cX6_count 73 = .ok (.if_icmp .ge 10, 3) := by decide +kernel
theorem dX6_count_76 : decode cX6_count 76 = .ok (.aload_n 3, 1) := by decide +kernel
theorem dX6_count_77 : decode cX6_count 77 = .ok (.getfield 192, 3) := by decide +kernel
theorem dX6_count_80 : decode cX6_count 80 = .ok (.goto 7, 3) := by decide +kernel
theorem dX6_count_83 : decode cX6_count 83 = .ok (.aload_n 3, 1) := by decide +kernel
theorem dX6_count_84 : decode cX6_count 84 = .ok (.invokevirtual 195, 3) := by decide +kernel
theorem dX6_count_87 : decode cX6_count 87 = .ok (.ireturn, 1) := by decide +kernel
theorem dX6_within_0 : decode cX6_within 0 = .ok (.iload_n 0, 1) := by decide +kernel
theorem dX6_within_1 : decode cX6_within 1 = .ok (.ifCond .lt 12, 3) := by decide +kernel
theorem dX6_within_4 : decode cX6_within 4 = .ok (.iload_n 0, 1) := by decide +kernel
theorem dX6_within_5 : decode cX6_within 5 = .ok (.iload_n 1, 1) := by decide +kernel
theorem dX6_within_6 : decode cX6_within 6 = .ok (.if_icmp .ge 7, 3) := by decide +kernel
theorem dX6_within_9 : decode cX6_within 9 = .ok (.iconst 1, 1) := by decide +kernel
theorem dX6_within_10 : decode cX6_within 10 = .ok (.goto 4, 3) := by decide +kernel
theorem dX6_within_13 : decode cX6_within 13 = .ok (.iconst 0, 1) := by decide +kernel
theorem dX6_within_14 : decode cX6_within 14 = .ok (.ireturn, 1) := by decide +kernel
theorem dX6_placeOf_0 : decode cX6_placeOf 0 = .ok (.iload_n 0, 1) := by decide +kernel
theorem dX6_placeOf_1 : decode cX6_placeOf 1 = .ok (.bipush 18, 2) := by decide +kernel
theorem dX6_placeOf_3 : decode cX6_placeOf 3 = .ok (.if_icmp .ge 7, 3) := by decide +kernel
theorem dX6_placeOf_6 : decode cX6_placeOf 6 = .ok (.iload_n 0, 1) := by decide +kernel
theorem dX6_placeOf_7 : decode cX6_placeOf 7 = .ok (.goto 15, 3) := by decide +kernel
theorem dX6_placeOf_10 : decode cX6_placeOf 10 = .ok (.bipush 6, 2) := by decide +kernel
theorem dX6_placeOf_12 : decode cX6_placeOf 12 = .ok (.iload_n 0, 1) := by decide +kernel
theorem dX6_placeOf_13 : decode cX6_placeOf 13 = .ok (.bipush 18, 2) := by decide +kernel
theorem dX6_placeOf_15 : decode cX6_placeOf 15 = .ok (.isub, 1) := by decide +kernel
theorem dX6_placeOf_16 : decode cX6_placeOf 16 = .ok (.iload_n 1, 1) := by decide +kernel
theorem dX6_placeOf_17 : decode cX6_placeOf 17 = .ok (.iadd, 1) := by decide +kernel
theorem dX6_placeOf_18 : decode cX6_placeOf 18 = .ok (.bipush 12, 2) := by decide +kernel
theorem dX6_placeOf_20 : decode cX6_placeOf 20 = .ok (.irem, 1) := by decide +kernel
theorem dX6_placeOf_21 : decode cX6_placeOf 21 = .ok (.iadd, 1) := by decide +kernel
theorem dX6_placeOf_22 : decode cX6_placeOf 22 = .ok (.ireturn, 1) := by decide +kernel
theorem dX6_layProgram_0 : decode cX6_layProgram 0 = .ok (.aload_n 0, 1) := by decide +kernel
theorem dX6_layProgram_1 : decode cX6_layProgram 1 = .ok (.getfield 18, 3) := by decide +kernel
theorem dX6_layProgram_4 : decode cX6_layProgram 4 = .ok (.aload_n 0, 1) := by decide +kernel
theorem dX6_layProgram_5 : decode cX6_layProgram 5 = .ok (.getfield 11, 3) := by decide +kernel
theorem dX6_layProgram_8 : decode cX6_layProgram 8 = .ok (.invokevirtual 79, 3) := by decide +kernel
theorem dX6_layProgram_11 : decode cX6_layProgram 11 = .ok (.aload_n 0, 1) := by decide +kernel
theorem dX6_layProgram_12 : decode cX6_layProgram 12 = .ok (.getfield 18, 3) := by decide +kernel
theorem dX6_layProgram_15 : decode cX6_layProgram 15 = .ok (.aload_n 0, 1) := by decide +kernel
theorem dX6_layProgram_16 : decode cX6_layProgram 16 = .ok (.getfield 29, 3) := by decide +kernel
theorem dX6_layProgram_19 : decode cX6_layProgram 19 = .ok (.invokevirtual 198, 3) := by decide +kernel
theorem dX6_layProgram_22 : decode cX6_layProgram 22 = .ok (.ifCond .ne 5, 3) := by decide +kernel
theorem dX6_layProgram_25 : decode cX6_layProgram 25 = .ok (.iconst 0, 1) := by decide +kernel
theorem dX6_layProgram_26 : decode cX6_layProgram 26 = .ok (.ireturn, 1) := by decide +kernel
theorem dX6_layProgram_27 : decode cX6_layProgram 27 = .ok (.aload_n 0, 1) := by decide +kernel
theorem dX6_layProgram_28 : decode cX6_layProgram 28 = .ok (.getfield 42, 3) := by decide +kernel
theorem dX6_layProgram_31 : decode cX6_layProgram 31 = .ok (.aload_n 0, 1) := by decide +kernel
theorem dX6_layProgram_32 : decode cX6_layProgram 32 = .ok (.getfield 29, 3) := by decide +kernel
theorem dX6_layProgram_35 : decode cX6_layProgram 35 = .ok (.aload_n 0, 1) := by decide +kernel
theorem dX6_layProgram_36 : decode cX6_layProgram 36 = .ok (.getfield 18, 3) := by decide +kernel
theorem dX6_layProgram_39 : decode cX6_layProgram 39 = .ok (.invokevirtual 202, 3) := by decide +kernel
theorem dX6_layProgram_42 : decode cX6_layProgram 42 = .ok (.iconst 1, 1) := by decide +kernel
theorem dX6_layProgram_43 : decode cX6_layProgram 43 = .ok (.ireturn, 1) := by decide +kernel
theorem dX6_perform_0 : decode cX6_perform 0 = .ok (.aload_n 0, 1) := by decide +kernel
theorem dX6_perform_1 : decode cX6_perform 1 = .ok (.invokevirtual 117, 3) := by decide +kernel
theorem dX6_perform_4 : decode cX6_perform 4 = .ok (.ifCond .ne 5, 3) := by decide +kernel
theorem dX6_perform_7 : decode cX6_perform 7 = .ok (.iconst 0, 1) := by decide +kernel
theorem dX6_perform_8 : decode cX6_perform 8 = .ok (.ireturn, 1) := by decide +kernel
theorem dX6_perform_9 : decode cX6_perform 9 = .ok (.aload_n 0, 1) := by decide +kernel
theorem dX6_perform_10 : decode cX6_perform 10 = .ok (.getfield 42, 3) := by decide +kernel
theorem dX6_perform_13 : decode cX6_perform 13 = .ok (.iload_n 1, 1) := by decide +kernel
theorem dX6_perform_14 : decode cX6_perform 14 = .ok (.invokevirtual 206, 3) := by decide +kernel
theorem dX6_perform_17 : decode cX6_perform 17 = .ok (.aload_n 0, 1) := by decide +kernel
theorem dX6_perform_18 : decode cX6_perform 18 = .ok (.getfield 52, 3) := by decide +kernel
theorem dX6_perform_21 : decode cX6_perform 21 = .ok (.aload_n 0, 1) := by decide +kernel
theorem dX6_perform_22 : decode cX6_perform 22 = .ok (.getfield 11, 3) := by decide +kernel
theorem dX6_perform_25 : decode cX6_perform 25 = .ok (.aload_n 0, 1) := by decide +kernel
theorem dX6_perform_26 : decode cX6_perform 26 = .ok (.getfield 29, 3) := by decide +kernel
theorem dX6_perform_29 : decode cX6_perform 29 = .ok (.aload_n 0, 1) := by decide +kernel
theorem dX6_perform_30 : decode cX6_perform 30 = .ok (.getfield 42, 3) := by decide +kernel
theorem dX6_perform_33 : decode cX6_perform 33 = .ok (.getfield 209, 3) := by decide +kernel
theorem dX6_perform_36 : decode cX6_perform 36 = .ok (.aload_n 0, 1) := by decide +kernel
theorem dX6_perform_37 : decode cX6_perform 37 = .ok (.getfield 22, 3) := by decide +kernel
theorem dX6_perform_40 : decode cX6_perform 40 = .ok (.invokevirtual 212, 3) := by decide +kernel
theorem dX6_perform_43 : decode cX6_perform 43 = .ok (.ireturn, 1) := by decide +kernel
theorem dX6_compareWithImage_0 : decode cX6_compareWithImage 0 = .ok (.aload_n 0, 1) := by decide +kernel
theorem dX6_compareWithImage_1 : decode cX6_compareWithImage 1 = .ok (.getfield 18, 3) := by decide +kernel
theorem dX6_compareWithImage_4 : decode cX6_compareWithImage 4 = .ok (.aload_n 1, 1) := by decide +kernel
theorem dX6_compareWithImage_5 : decode cX6_compareWithImage 5 = .ok (.invokevirtual 198, 3) := by decide +kernel
theorem dX6_compareWithImage_8 : decode cX6_compareWithImage 8 = .ok (.ifCond .ne 6, 3) := by decide +kernel
theorem dX6_compareWithImage_11 : decode cX6_compareWithImage 11 = .ok (.bipush (-5), 2) := by decide +kernel
theorem dX6_compareWithImage_13 : decode cX6_compareWithImage 13 = .ok (.ireturn, 1) := by decide +kernel
theorem dX6_compareWithImage_14 : decode cX6_compareWithImage 14 = .ok (.aload_n 0, 1) := by decide +kernel
theorem dX6_compareWithImage_15 : decode cX6_compareWithImage 15 = .ok (.getfield 46, 3) := by decide +kernel
theorem dX6_compareWithImage_18 : decode cX6_compareWithImage 18 = .ok (.aload_n 1, 1) := by decide +kernel
theorem dX6_compareWithImage_19 : decode cX6_compareWithImage 19 = .ok (.aload_n 0, 1) := by decide +kernel
theorem dX6_compareWithImage_20 : decode cX6_compareWithImage 20 = .ok (.getfield 18, 3) := by decide +kernel
theorem dX6_compareWithImage_23 : decode cX6_compareWithImage 23 = .ok (.invokevirtual 202, 3) := by decide +kernel
theorem dX6_compareWithImage_26 : decode cX6_compareWithImage 26 = .ok (.aload_n 0, 1) := by decide +kernel
theorem dX6_compareWithImage_27 : decode cX6_compareWithImage 27 = .ok (.getfield 42, 3) := by decide +kernel
theorem dX6_compareWithImage_30 : decode cX6_compareWithImage 30 = .ok (.aload_n 0, 1) := by decide +kernel
theorem dX6_compareWithImage_31 : decode cX6_compareWithImage 31 = .ok (.getfield 46, 3) := by decide +kernel
theorem dX6_compareWithImage_34 : decode cX6_compareWithImage 34 = .ok (.invokevirtual 215, 3) := by decide +kernel
theorem dX6_compareWithImage_37 : decode cX6_compareWithImage 37 = .ok (.ifCond .eq 7, 3) := by decide +kernel
theorem dX6_compareWithImage_40 : decode cX6_compareWithImage 40 = .ok (.iconst 1, 1) := by decide +kernel
theorem dX6_compareWithImage_41 : decode cX6_compareWithImage 41 = .ok (.goto 4, 3) := by decide +kernel
theorem dX6_compareWithImage_44 : decode cX6_compareWithImage 44 = .ok (.iconst 0, 1) := by decide +kernel
theorem dX6_compareWithImage_45 : decode cX6_compareWithImage 45 = .ok (.ireturn, 1) := by decide +kernel
theorem dX6_nearestSingle_0 : decode cX6_nearestSingle 0 = .ok (.iload_n 1, 1) := by decide +kernel
theorem dX6_nearestSingle_1 : decode cX6_nearestSingle 1 = .ok (.iconst 1, 1) := by decide +kernel
theorem dX6_nearestSingle_2 : decode cX6_nearestSingle 2 = .ok (.if_icmp .lt 8, 3) := by decide +kernel
theorem dX6_nearestSingle_5 : decode cX6_nearestSingle 5 = .ok (.iload_n 0, 1) := by decide +kernel
theorem dX6_nearestSingle_6 : decode cX6_nearestSingle 6 = .ok (.iload_n 1, 1) := by decide +kernel
theorem dX6_nearestSingle_7 : decode cX6_nearestSingle 7 = .ok (.if_icmp .ge 5, 3) := by decide +kernel
theorem dX6_nearestSingle_10 : decode cX6_nearestSingle 10 = .ok (.iconst 0, 1) := by decide +kernel
theorem dX6_nearestSingle_11 : decode cX6_nearestSingle 11 = .ok (.ireturn, 1) := by decide +kernel
theorem dX6_nearestSingle_12 : decode cX6_nearestSingle 12 = .ok (.iconst 0, 1) := by decide +kernel
theorem dX6_nearestSingle_13 : decode cX6_nearestSingle 13 = .ok (.istore_n 2, 1) := by decide +kernel
theorem dX6_nearestSingle_14 : decode cX6_nearestSingle 14 = .ok (.iload_n 2, 1) := by decide +kernel
theorem dX6_nearestSingle_15 : decode cX6_nearestSingle 15 = .ok (.iconst 4, 1) := by decide +kernel
theorem dX6_nearestSingle_16 : decode cX6_nearestSingle 16 = .ok (.if_icmp .ge 18, 3) := by decide +kernel
