theorem dX9_programChanged_0 : decode cX9_programChanged 0 = .ok (.aload_n 0, 1) := by decide +kernel
theorem dX9_programChanged_1 : decode cX9_programChanged 1 = .ok (.iconst 0, 1) := by decide +kernel
theorem dX9_programChanged_2 : decode cX9_programChanged 2 = .ok (.putfield 225, 3) := by decide +kernel
theorem dX9_programChanged_5 : decode cX9_programChanged 5 = .ok (.aload_n 0, 1) := by decide +kernel
theorem dX9_programChanged_6 : decode cX9_programChanged 6 = .ok (.iconst 0, 1) := by decide +kernel
theorem dX9_programChanged_7 : decode cX9_programChanged 7 = .ok (.putfield 322, 3) := by decide +kernel
theorem dX9_programChanged_10 : decode cX9_programChanged 10 = .ok (.return_, 1) := by decide +kernel
theorem dX9_isVariable_0 : decode cX9_isVariable 0 = .ok (.iload_n 0, 1) := by decide +kernel
theorem dX9_isVariable_1 : decode cX9_isVariable 1 = .ok (.ifCond .lt 13, 3) := by decide +kernel
theorem dX9_isVariable_4 : decode cX9_isVariable 4 = .ok (.iload_n 0, 1) := by decide +kernel
theorem dX9_isVariable_5 : decode cX9_isVariable 5 = .ok (.bipush 12, 2) := by decide +kernel
theorem dX9_isVariable_7 : decode cX9_isVariable 7 = .ok (.if_icmp .ge 7, 3) := by decide +kernel
theorem dX9_isVariable_10 : decode cX9_isVariable 10 = .ok (.iconst 1, 1) := by decide +kernel
theorem dX9_isVariable_11 : decode cX9_isVariable 11 = .ok (.goto 4, 3) := by decide +kernel
theorem dX9_isVariable_14 : decode cX9_isVariable 14 = .ok (.iconst 0, 1) := by decide +kernel
theorem dX9_isVariable_15 : decode cX9_isVariable 15 = .ok (.ireturn, 1) := by decide +kernel
theorem dX9_isInstruction_0 : decode cX9_isInstruction 0 = .ok (.iload_n 0, 1) := by decide +kernel
theorem dX9_isInstruction_1 : decode cX9_isInstruction 1 = .ok (.ifCond .lt 15, 3) := by decide +kernel
theorem dX9_isInstruction_4 : decode cX9_isInstruction 4 = .ok (.iload_n 0, 1) := by decide +kernel
theorem dX9_isInstruction_5 : decode cX9_isInstruction 5 = .ok (.iconst 4, 1) := by decide +kernel
theorem dX9_isInstruction_6 : decode cX9_isInstruction 6 = .ok (.if_icmp .gt 10, 3) := by decide +kernel
theorem dX9_isInstruction_9 : decode cX9_isInstruction 9 = .ok (.iload_n 1, 1) := by decide +kernel
theorem dX9_isInstruction_10 : decode cX9_isInstruction 10 = .ok (.invokestatic 365, 3) := by decide +kernel
theorem dX9_isInstruction_13 : decode cX9_isInstruction 13 = .ok (.ifCond .ne 5, 3) := by decide +kernel
theorem dX9_isInstruction_16 : decode cX9_isInstruction 16 = .ok (.iconst 0, 1) := by decide +kernel
theorem dX9_isInstruction_17 : decode cX9_isInstruction 17 = .ok (.ireturn, 1) := by decide +kernel
theorem dX9_isInstruction_18 : decode cX9_isInstruction 18 = .ok (.iload_n 0, 1) := by decide +kernel
theorem dX9_isInstruction_19 : decode cX9_isInstruction 19 = .ok (.ifCond .ne 23, 3) := by decide +kernel
theorem dX9_isInstruction_22 : decode cX9_isInstruction 22 = .ok (.iload_n 2, 1) := by decide +kernel
theorem dX9_isInstruction_23 : decode cX9_isInstruction 23 = .ok (.sipush (-999), 3) := by decide +kernel
theorem dX9_isInstruction_26 : decode cX9_isInstruction 26 = .ok (.if_icmp .lt 14, 3) := by decide +kernel
theorem dX9_isInstruction_29 : decode cX9_isInstruction 29 = .ok (.iload_n 2, 1) := by decide +kernel
theorem dX9_isInstruction_30 : decode cX9_isInstruction 30 = .ok (.sipush 999, 3) := by decide +kernel
theorem dX9_isInstruction_33 : decode cX9_isInstruction 33 = .ok (.if_icmp .gt 7, 3) := by decide +kernel
theorem dX9_isInstruction_36 : decode cX9_isInstruction 36 = .ok (.iconst 1, 1) := by decide +kernel
theorem dX9_isInstruction_37 : decode cX9_isInstruction 37 = .ok (.goto 4, 3) := by decide +kernel
theorem dX9_isInstruction_40 : decode cX9_isInstruction 40 = .ok (.iconst 0, 1) := by decide +kernel
theorem dX9_isInstruction_41 : decode cX9_isInstruction 41 = .ok (.ireturn, 1) := by decide +kernel
theorem dX9_isInstruction_42 : decode cX9_isInstruction 42 = .ok (.iload_n 2, 1) := by decide +kernel
theorem dX9_isInstruction_43 : decode cX9_isInstruction 43 = .ok (.invokestatic 365, 3) := by decide +kernel
theorem dX9_isInstruction_46 : decode cX9_isInstruction 46 = .ok (.ifCond .eq 19, 3) := by decide +kernel
theorem dX9_isInstruction_49 : decode cX9_isInstruction 49 = .ok (.iload_n 0, 1) := by decide +kernel
theorem dX9_isInstruction_50 : decode cX9_isInstruction 50 = .ok (.iconst 1, 1) := by decide +kernel
theorem dX9_isInstruction_51 : decode cX9_isInstruction 51 = .ok (.if_icmp .eq 10, 3) := by decide +kernel
theorem dX9_isInstruction_54 : decode cX9_isInstruction 54 = .ok (.iload_n 3, 1) := by decide +kernel
theorem dX9_isInstruction_55 : decode cX9_isInstruction 55 = .ok (.invokestatic 365, 3) := by decide +kernel
theorem dX9_isInstruction_58 : decode cX9_isInstruction 58 = .ok (.ifCond .eq 7, 3) := by decide +kernel
theorem dX9_isInstruction_61 : decode cX9_isInstruction 61 = .ok (.iconst 1, 1) := by decide +kernel
theorem dX9_isInstruction_62 : decode cX9_isInstruction 62 = .ok (.goto 4, 3) := by decide +kernel
theorem dX9_isInstruction_65 : decode cX9_isInstruction 65 = .ok (.iconst 0, 1) := by decide +kernel
theorem dX9_isInstruction_66 : decode cX9_isInstruction 66 = .ok (.ireturn, 1) := by decide +kernel
theorem dX0_add_0 : decode cX0_add 0 = .ok (.aload_n 0, 1) := by decide +kernel
theorem dX0_add_1 : decode cX0_add 1 = .ok (.getfield 27, 3) := by decide +kernel
theorem dX0_add_4 : decode cX0_add 4 = .ok (.bipush 8, 2) := by decide +kernel
theorem dX0_add_6 : decode cX0_add 6 = .ok (.if_icmp .ge 63, 3) := by decide +kernel
theorem dX0_add_9 : decode cX0_add 9 = .ok (.aload_n 0, 1) := by decide +kernel
theorem dX0_add_10 : decode cX0_add 10 = .ok (.getfield 9, 3) := by decide +kernel
theorem dX0_add_13 : decode cX0_add 13 = .ok (.aload_n 0, 1) := by decide +kernel
theorem dX0_add_14 : decode cX0_add 14 = .ok (.getfield 27, 3) := by decide +kernel
theorem dX0_add_17 : decode cX0_add 17 = .ok (.iload_n 1, 1) := by decide +kernel
theorem dX0_add_18 : decode cX0_add 18 = .ok (.iastore, 1) := by decide +kernel
theorem dX0_add_19 : decode cX0_add 19 = .ok (.aload_n 0, 1) := by decide +kernel
theorem dX0_add_20 : decode cX0_add 20 = .ok (.getfield 15, 3) := by decide +kernel
theorem dX0_add_23 : decode cX0_add 23 = .ok (.aload_n 0, 1) := by decide +kernel
theorem dX0_add_24 : decode cX0_add 24 = .ok (.getfield 27, 3) := by decide +kernel
theorem dX0_add_27 : decode cX0_add 27 = .ok (.iload_n 2, 1) := by decide +kernel
theorem dX0_add_28 : decode cX0_add 28 = .ok (.iastore, 1) := by decide +kernel
theorem dX0_add_29 : decode cX0_add 29 = .ok (.aload_n 0, 1) := by decide +kernel
theorem dX0_add_30 : decode cX0_add 30 = .ok (.getfield 18, 3) := by decide +kernel
theorem dX0_add_33 : decode cX0_add 33 = .ok (.aload_n 0, 1) := by decide +kernel
theorem dX0_add_34 : decode cX0_add 34 = .ok (.getfield 27, 3) := by decide +kernel
theorem dX0_add_37 : decode cX0_add 37 = .ok (.iload_n 3, 1) := by decide +kernel
theorem dX0_add_38 : decode cX0_add 38 = .ok (.iastore, 1) := by decide +kernel
theorem dX0_add_39 : decode cX0_add 39 = .ok (.aload_n 0, 1) := by decide +kernel
theorem dX0_add_40 : decode cX0_add 40 = .ok (.getfield 21, 3) := by decide +kernel
theorem dX0_add_43 : decode cX0_add 43 = .ok (.aload_n 0, 1) := by decide +kernel
theorem dX0_add_44 : decode cX0_add 44 = .ok (.getfield 27, 3) := by decide +kernel
theorem dX0_add_47 : decode cX0_add 47 = .ok (.iload_n 1, 1) := by decide +kernel
theorem dX0_add_48 : decode cX0_add 48 = .ok (.iconst 2, 1) := by decide +kernel
theorem dX0_add_49 : decode cX0_add 49 = .ok (.if_icmp .lt 8, 3) := by decide +kernel
theorem dX0_add_52 : decode cX0_add 52 = .ok (.iload 4, 2) := by decide +kernel
theorem dX0_add_54 : decode cX0_add 54 = .ok (.goto 4, 3) := by decide +kernel
theorem dX0_add_57 : decode cX0_add 57 = .ok (.iconst (-1), 1) := by decide +kernel
theorem dX0_add_58 : decode cX0_add 58 = .ok (.iastore, 1) := by decide +kernel
theorem dX0_add_59 : decode cX0_add 59 = .ok (.aload_n 0, 1) := by decide +kernel
theorem dX0_add_60 : decode cX0_add 60 = .ok (.dup, 1) := by decide +kernel
theorem dX0_add_61 : decode cX0_add 61 = .ok (.getfield 27, 3) := by decide +kernel
theorem dX0_add_64 : decode cX0_add 64 = .ok (.iconst 1, 1) := by decide +kernel
theorem dX0_add_65 : decode cX0_add 65 = .ok (.iadd, 1) := by decide +kernel
theorem dX0_add_66 : decode cX0_add 66 = .ok (.putfield 27, 3) := by decide +kernel
theorem dX0_add_69 : decode cX0_add 69 = .ok (.return_, 1) := by decide +kernel
theorem dX0_successors_0 : decode cX0_successors 0 = .ok (.aload_n 0, 1) := by decide +kernel
theorem dX0_successors_1 : decode cX0_successors 1 = .ok (.getfield 38, 3) := by decide +kernel
theorem dX0_successors_4 : decode cX0_successors 4 = .ok (.iconst 2, 1) := by decide +kernel
theorem dX0_successors_5 : decode cX0_successors 5 = .ok (.if_icmp .ne 5, 3) := by decide +kernel
theorem dX0_successors_8 : decode cX0_successors 8 = .ok (.iconst 0, 1) := by decide +kernel
theorem dX0_successors_9 : decode cX0_successors 9 = .ok (.ireturn, 1) := by decide +kernel
theorem dX0_successors_10 : decode cX0_successors 10 = .ok (.aload_n 0, 1) := by decide +kernel
theorem dX0_successors_11 : decode cX0_successors 11 = .ok (.getfield 38, 3) := by decide +kernel
theorem dX0_successors_14 : decode cX0_successors 14 = .ok (.ifCond .ne 12, 3) := by decide +kernel
theorem dX0_successors_17 : decode cX0_successors 17 = .ok (.iconst 1, 1) := by decide +kernel
theorem dX0_successors_18 : decode cX0_successors 18 = .ok (.aload_n 0, 1) := by decide +kernel
theorem dX0_successors_19 : decode cX0_successors 19 = .ok (.getfield 44, 3) := by decide +kernel
theorem dX0_successors_22 : decode cX0_successors 22 = .ok (.ishl, 1) := by decide +kernel
theorem dX0_successors_23 : decode cX0_successors 23 = .ok (.goto 16, 3) := by decide +kernel
theorem dX0_successors_26 : decode cX0_successors 26 = .ok (.iconst 1, 1) := by decide +kernel
theorem dX0_successors_27 : decode cX0_successors 27 = .ok (.aload_n 0, 1) := by decide +kernel
theorem dX0_successors_28 : decode cX0_successors 28 = .ok (.getfield 44, 3) := by decide +kernel
theorem dX0_successors_31 : decode cX0_successors 31 = .ok (.ishl, 1) := by decide +kernel
theorem dX0_successors_32 : decode cX0_successors 32 = .ok (.iconst 1, 1) := by decide +kernel
theorem dX0_successors_33 : decode cX0_successors 33 = .ok (.aload_n 0, 1) := by decide +kernel
theorem dX0_successors_34 : decode cX0_successors 34 = .ok (.getfield 47, 3) := by decide +kernel
theorem dX0_successors_37 : decode cX0_successors 37 = .ok (.ishl, 1) := by decide +kernel
theorem dX0_successors_38 : decode cX0_successors 38 = .ok (.ior, 1) := by decide +kernel
theorem dX0_successors_39 : decode cX0_successors 39 = .ok (.ireturn, 1) := by decide +kernel
theorem dX0_usedByEnd_0 : decode cX0_usedByEnd 0 = .ok (.aload_n 0, 1) := by decide +kernel
theorem dX0_usedByEnd_1 : decode cX0_usedByEnd 1 = .ok (.getfield 38, 3) := by decide +kernel
theorem dX0_usedByEnd_4 : decode cX0_usedByEnd 4 = .ok (.ifCond .ne 7, 3) := by decide +kernel
theorem dX0_usedByEnd_7 : decode cX0_usedByEnd 7 = .ok (.iconst 0, 1) := by decide +kernel
theorem dX0_usedByEnd_8 : decode cX0_usedByEnd 8 = .ok (.goto 9, 3) := by decide +kernel
theorem dX0_usedByEnd_11 : decode cX0_usedByEnd 11 = .ok (.iconst 1, 1) := by decide +kernel
theorem dX0_usedByEnd_12 : decode cX0_usedByEnd 12 = .ok (.aload_n 0, 1) := by decide +kernel
theorem dX0_usedByEnd_13 : decode cX0_usedByEnd 13 = .ok (.getfield 41, 3) := by decide +kernel
theorem dX0_usedByEnd_16 : decode cX0_usedByEnd 16 = .ok (.ishl, 1) := by decide +kernel
theorem dX0_usedByEnd_17 : decode cX0_usedByEnd 17 = .ok (.ireturn, 1) := by decide +kernel
theorem dX0_usedBy_0 : decode cX0_usedBy 0 = .ok (.aload_n 0, 1) := by decide +kernel
theorem dX0_usedBy_1 : decode cX0_usedBy 1 = .ok (.getfield 9, 3) := by decide +kernel
theorem dX0_usedBy_4 : decode cX0_usedBy 4 = .ok (.iload_n 1, 1) := by decide +kernel
theorem dX0_usedBy_5 : decode cX0_usedBy 5 = .ok (.iaload, 1) := by decide +kernel
theorem dX0_usedBy_6 : decode cX0_usedBy 6 = .ok (.ifCond .ne 5, 3) := by decide +kernel
theorem dX0_usedBy_9 : decode cX0_usedBy 9 = .ok (.iconst 0, 1) := by decide +kernel
theorem dX0_usedBy_10 : decode cX0_usedBy 10 = .ok (.ireturn, 1) := by decide +kernel
theorem dX0_usedBy_11 : decode cX0_usedBy 11 = .ok (.iconst 1, 1) := by decide +kernel
theorem dX0_usedBy_12 : decode cX0_usedBy 12 = .ok (.aload_n 0, 1) := by decide +kernel
theorem dX0_usedBy_13 : decode cX0_usedBy 13 = .ok (.getfield 18, 3) := by decide +kernel
theorem dX0_usedBy_16 : decode cX0_usedBy 16 = .ok (.iload_n 1, 1) := by decide +kernel
theorem dX0_usedBy_17 : decode cX0_usedBy 17 = .ok (.iaload, 1) := by decide +kernel
theorem dX0_usedBy_18 : decode cX0_usedBy 18 = .ok (.ishl, 1) := by decide +kernel
theorem dX0_usedBy_19 : decode cX0_usedBy 19 = .ok (.istore_n 2, 1) := by decide +kernel
theorem dX0_usedBy_20 : decode cX0_usedBy 20 = .ok (.aload_n 0, 1) := by decide +kernel
theorem dX0_usedBy_21 : decode cX0_usedBy 21 = .ok (.getfield 9, 3) := by decide +kernel
theorem dX0_usedBy_24 : decode cX0_usedBy 24 = .ok (.iload_n 1, 1) := by decide +kernel
theorem dX0_usedBy_25 : decode cX0_usedBy 25 = .ok (.iaload, 1) := by decide +kernel
theorem dX0_usedBy_26 : decode cX0_usedBy 26 = .ok (.iconst 1, 1) := by decide +kernel
theorem dX0_usedBy_27 : decode cX0_usedBy 27 = .ok (.if_icmp .ne 7, 3) := by decide +kernel
theorem dX0_usedBy_30 : decode cX0_usedBy 30 = .ok (.iload_n 2, 1) := by decide +kernel
theorem dX0_usedBy_31 : decode cX0_usedBy 31 = .ok (.goto 13, 3) := by decide +kernel
theorem dX0_usedBy_34 : decode cX0_usedBy 34 = .ok (.iload_n 2, 1) := by decide +kernel
theorem dX0_usedBy_35 : decode cX0_usedBy 35 = .ok (.iconst 1, 1) := by decide +kernel
theorem dX0_usedBy_36 : decode cX0_usedBy 36 = .ok (.aload_n 0, 1) := by decide +kernel
theorem dX0_usedBy_37 : decode cX0_usedBy 37 = .ok (.getfield 21, 3) := by decide +kernel
theorem dX0_usedBy_40 : decode cX0_usedBy 40 = .ok (.iload_n 1, 1) := by decide +kernel
theorem dX0_usedBy_41 : decode cX0_usedBy 41 = .ok (.iaload, 1) := by decide +kernel
theorem dX0_usedBy_42 : decode cX0_usedBy 42 = .ok (.ishl, 1) := by decide +kernel
theorem dX0_usedBy_43 : decode cX0_usedBy 43 = .ok (.ior, 1) := by decide +kernel
theorem dX0_usedBy_44 : decode cX0_usedBy 44 = .ok (.ireturn, 1) := by decide +kernel
theorem dX9_has_0 : decode cX9_has 0 = .ok (.iload_n 0, 1) := by decide +kernel
theorem dX9_has_1 : decode cX9_has 1 = .ok (.iload_n 1, 1) := by decide +kernel
theorem dX9_has_2 : decode cX9_has 2 = .ok (.ishr, 1) := by decide +kernel
theorem dX9_has_3 : decode cX9_has 3 = .ok (.iconst 1, 1) := by decide +kernel
theorem dX9_has_4 : decode cX9_has 4 = .ok (.iand, 1) := by decide +kernel
theorem dX9_has_5 : decode cX9_has 5 = .ok (.ifCond .eq 7, 3) := by decide +kernel
theorem dX9_has_8 : decode cX9_has 8 = .ok (.iconst 1, 1) := by decide +kernel
theorem dX9_has_9 : decode cX9_has 9 = .ok (.goto 4, 3) := by decide +kernel
theorem dX9_has_12 : decode cX9_has 12 = .ok (.iconst 0, 1) := by decide +kernel
theorem dX9_has_13 : decode cX9_has 13 = .ok (.ireturn, 1) := by decide +kernel
theorem dX1_liveAtBeginning_0 : decode cX1_liveAtBeginning 0 = .ok (.aload_n 0, 1) := by decide +kernel
theorem dX1_liveAtBeginning_1 : decode cX1_liveAtBeginning 1 = .ok (.getfield 9, 3) := by decide +kernel
theorem dX1_liveAtBeginning_4 : decode cX1_liveAtBeginning 4 = .ok (.iload_n 1, 1) := by decide +kernel
theorem dX1_liveAtBeginning_5 : decode cX1_liveAtBeginning 5 = .ok (.bipush 9, 2) := by decide +kernel
theorem dX1_liveAtBeginning_7 : decode cX1_liveAtBeginning 7 = .ok (.imul, 1) := by decide +kernel
theorem dX1_liveAtBeginning_8 : decode cX1_liveAtBeginning 8 = .ok (.iaload, 1) := by decide +kernel
theorem dX1_liveAtBeginning_9 : decode cX1_liveAtBeginning 9 = .ok (.ireturn, 1) := by decide +kernel
theorem dX1_findLiveIn_0 : decode cX1_findLiveIn 0 = .ok (.aload_n 0, 1) := by decide +kernel
theorem dX1_findLiveIn_1 : decode cX1_findLiveIn 1 = .ok (.getfield 30, 3) := by decide +kernel
theorem dX1_findLiveIn_4 : decode cX1_findLiveIn 4 = .ok (.getfield 59, 3) := by decide +kernel
theorem dX1_findLiveIn_7 : decode cX1_findLiveIn 7 = .ok (.iload_n 1, 1) := by decide +kernel
theorem dX1_findLiveIn_8 : decode cX1_findLiveIn 8 = .ok (.aaload, 1) := by decide +kernel
theorem dX1_findLiveIn_9 : decode cX1_findLiveIn 9 = .ok (.astore_n 2, 1) := by decide +kernel
theorem dX1_findLiveIn_10 : decode cX1_findLiveIn 10 = .ok (.aload_n 2, 1) := by decide +kernel
theorem dX1_findLiveIn_11 : decode cX1_findLiveIn 11 = .ok (.invokevirtual 63, 3) := by decide +kernel
theorem dX1_findLiveIn_14 : decode cX1_findLiveIn 14 = .ok (.istore_n 3, 1) := by decide +kernel
theorem dX1_findLiveIn_15 : decode cX1_findLiveIn 15 = .ok (.aload_n 2, 1) := by decide +kernel
theorem dX1_findLiveIn_16 : decode cX1_findLiveIn 16 = .ok (.invokevirtual 69, 3) := by decide +kernel
theorem dX1_findLiveIn_19 : decode cX1_findLiveIn 19 = .ok (.istore 4, 2) := by decide +kernel
theorem dX1_findLiveIn_21 : decode cX1_findLiveIn 21 = .ok (.iconst 0, 1) := by decide +kernel
theorem dX1_findLiveIn_22 : decode cX1_findLiveIn 22 = .ok (.istore 5, 2) := by decide +kernel
theorem dX1_findLiveIn_24 : decode cX1_findLiveIn 24 = .ok (.iload 5, 2) := by decide +kernel
theorem dX1_findLiveIn_26 : decode cX1_findLiveIn 26 = .ok (.aload_n 0, 1) := by decide +kernel
theorem dX1_findLiveIn_27 : decode cX1_findLiveIn 27 = .ok (.getfield 30, 3) := by decide +kernel
theorem dX1_findLiveIn_30 : decode cX1_findLiveIn 30 = .ok (.getfield 49, 3) := by decide +kernel
theorem dX1_findLiveIn_33 : decode cX1_findLiveIn 33 = .ok (.if_icmp .ge 29, 3) := by decide +kernel
theorem dX1_findLiveIn_36 : decode cX1_findLiveIn 36 = .ok (.iload_n 3, 1) := by decide +kernel
theorem dX1_findLiveIn_37 : decode cX1_findLiveIn 37 = .ok (.iload 5, 2) := by decide +kernel
theorem dX1_findLiveIn_39 : decode cX1_findLiveIn 39 = .ok (.invokestatic 72, 3) := by decide +kernel
theorem dX1_findLiveIn_42 : decode cX1_findLiveIn 42 = .ok (.ifCond .eq 14, 3) := by decide +kernel
theorem dX1_findLiveIn_45 : decode cX1_findLiveIn 45 = .ok (.iload 4, 2) := by decide +kernel
theorem dX1_findLiveIn_47 : decode cX1_findLiveIn 47 = .ok (.aload_n 0, 1) := by decide +kernel
theorem dX1_findLiveIn_48 : decode cX1_findLiveIn 48 = .ok (.iload 5, 2) := by decide +kernel
theorem dX1_findLiveIn_50 : decode cX1_findLiveIn 50 = .ok (.invokevirtual 76, 3) := by decide +kernel
theorem dX1_findLiveIn_53 : decode cX1_findLiveIn 53 = .ok (.ior, 1) := by decide +kernel
theorem dX1_findLiveIn_54 : decode cX1_findLiveIn 54 = .ok (.istore 4, 2) := by decide +kernel
theorem dX1_findLiveIn_56 : decode cX1_findLiveIn 56 = .ok (.iinc 5 1, 3) := by decide +kernel
theorem dX1_findLiveIn_59 : decode cX1_findLiveIn 59 = .ok (.goto (-35), 3) := by decide +kernel
theorem dX1_findLiveIn_62 : decode cX1_findLiveIn 62 = .ok (.aload_n 0, 1) := by decide +kernel
theorem dX1_findLiveIn_63 : decode cX1_findLiveIn 63 = .ok (.getfield 9, 3) := by decide +kernel
theorem dX1_findLiveIn_66 : decode cX1_findLiveIn 66 = .ok (.iload_n 1, 1) := by decide +kernel
theorem dX1_findLiveIn_67 : decode cX1_findLiveIn 67 = .ok (.bipush 9, 2) := by decide +kernel
theorem dX1_findLiveIn_69 : decode cX1_findLiveIn 69 = .ok (.imul, 1) := by decide +kernel
theorem dX1_findLiveIn_70 : decode cX1_findLiveIn 70 = .ok (.aload_n 2, 1) := by decide +kernel
theorem dX1_findLiveIn_71 : decode cX1_findLiveIn 71 = .ok (.getfield 80, 3) := by decide +kernel
theorem dX1_findLiveIn_74 : decode cX1_findLiveIn 74 = .ok (.iadd, 1) := by decide +kernel
theorem dX1_findLiveIn_75 : decode cX1_findLiveIn 75 = .ok (.iload 4, 2) := by decide +kernel
theorem dX1_findLiveIn_77 : decode cX1_findLiveIn 77 = .ok (.iastore, 1) := by decide +kernel
theorem dX1_findLiveIn_78 : decode cX1_findLiveIn 78 = .ok (.aload_n 2, 1) := by decide +kernel
theorem dX1_findLiveIn_79 : decode cX1_findLiveIn 79 = .ok (.getfield 80, 3) := by decide +kernel
theorem dX1_findLiveIn_82 : decode cX1_findLiveIn 82 = .ok (.iconst 1, 1) := by decide +kernel
theorem dX1_findLiveIn_83 : decode cX1_findLiveIn 83 = .ok (.isub, 1) := by decide +kernel
theorem dX1_findLiveIn_84 : decode cX1_findLiveIn 84 = .ok (.istore 5, 2) := by decide +kernel
theorem dX1_findLiveIn_86 : decode cX1_findLiveIn 86 = .ok (.iload 5, 2) := by decide +kernel
theorem dX1_findLiveIn_88 : decode cX1_findLiveIn 88 = .ok (.ifCond .lt 46, 3) := by decide +kernel
theorem dX1_findLiveIn_91 : decode cX1_findLiveIn 91 = .ok (.iload 4, 2) := by decide +kernel
theorem dX1_findLiveIn_93 : decode cX1_findLiveIn 93 = .ok (.iconst 1, 1) := by decide +kernel
theorem dX1_findLiveIn_94 : decode cX1_findLiveIn 94 = .ok (.aload_n 2, 1) := by decide +kernel
theorem dX1_findLiveIn_95 : decode cX1_findLiveIn 95 = .ok (.getfield 81, 3) := by decide +kernel
theorem dX1_findLiveIn_98 : decode cX1_findLiveIn 98 = .ok (.iload 5, 2) := by decide +kernel
theorem dX1_findLiveIn_100 : decode cX1_findLiveIn 100 = .ok (.iaload, 1) := by decide +kernel
theorem dX1_findLiveIn_101 : decode cX1_findLiveIn 101 = .ok (.ishl, 1) := by decide +kernel
theorem dX1_findLiveIn_102 : decode cX1_findLiveIn 102 = .ok (.iconst (-1), 1) := by decide +kernel
theorem dX1_findLiveIn_103 : decode cX1_findLiveIn 103 = .ok (.ixor, 1) := by decide +kernel
theorem dX1_findLiveIn_104 : decode cX1_findLiveIn 104 = .ok (.iand, 1) := by decide +kernel
theorem dX1_findLiveIn_105 : decode cX1_findLiveIn 105 = .ok (.aload_n 2, 1) := by decide +kernel
theorem dX1_findLiveIn_106 : decode cX1_findLiveIn 106 = .ok (.iload 5, 2) := by decide +kernel
theorem dX1_findLiveIn_108 : decode cX1_findLiveIn 108 = .ok (.invokevirtual 84, 3) := by decide +kernel
theorem dX1_findLiveIn_111 : decode cX1_findLiveIn 111 = .ok (.ior, 1) := by decide +kernel
theorem dX1_findLiveIn_112 : decode cX1_findLiveIn 112 = .ok (.istore 4, 2) := by decide +kernel
theorem dX1_findLiveIn_114 : decode cX1_findLiveIn 114 = .ok (.aload_n 0, 1) := by decide +kernel
theorem dX1_findLiveIn_115 : decode cX1_findLiveIn 115 = .ok (.getfield 9, 3) := by decide +kernel
theorem dX1_findLiveIn_118 : decode cX1_findLiveIn 118 = .ok (.iload_n 1, 1) := by decide +kernel
theorem dX1_findLiveIn_119 : decode cX1_findLiveIn 119 = .ok (.bipush 9, 2) := by decide +kernel
theorem dX1_findLiveIn_121 : decode cX1_findLiveIn 121 = .ok (.imul, 1) := by decide +kernel
theorem dX1_findLiveIn_122 : decode cX1_findLiveIn 122 = .ok (.iload 5, 2) := by decide +kernel
theorem dX1_findLiveIn_124 : decode cX1_findLiveIn 124 = .ok (.iadd, 1) := by decide +kernel
theorem dX1_findLiveIn_125 : decode cX1_findLiveIn 125 = .ok (.iload 4, 2) := by decide +kernel
theorem dX1_findLiveIn_127 : decode cX1_findLiveIn 127 = .ok (.iastore, 1) := by decide +kernel
theorem dX1_findLiveIn_128 : decode cX1_findLiveIn 128 = .ok (.iinc 5 (-1), 3) := by decide +kernel
theorem dX1_findLiveIn_131 : decode cX1_findLiveIn 131 = .ok (.goto (-45), 3) := by decide +kernel
theorem dX1_findLiveIn_134 : decode cX1_findLiveIn 134 = .ok (.return_, 1) := by decide +kernel
theorem dX1_findLive_0 : decode cX1_findLive 0 = .ok (.aload_n 0, 1) := by decide +kernel
theorem dX1_findLive_1 : decode cX1_findLive 1 = .ok (.getfield 9, 3) := by decide +kernel
theorem dX1_findLive_4 : decode cX1_findLive 4 = .ok (.iconst 0, 1) := by decide +kernel
theorem dX1_findLive_5 : decode cX1_findLive 5 = .ok (.invokestatic 43, 3) := by decide +kernel
theorem dX1_findLive_8 : decode cX1_findLive 8 = .ok (.iconst 0, 1) := by decide +kernel
theorem dX1_findLive_9 : decode cX1_findLive 9 = .ok (.istore_n 1, 1) := by decide +kernel
theorem dX1_findLive_10 : decode cX1_findLive 10 = .ok (.iload_n 1, 1) := by decide +kernel
theorem dX1_findLive_11 : decode cX1_findLive 11 = .ok (.aload_n 0, 1) := by decide +kernel
theorem dX1_findLive_12 : decode cX1_findLive 12 = .ok (.getfield 30, 3) := by decide +kernel
theorem dX1_findLive_15 : decode cX1_findLive 15 = .ok (.getfield 49, 3) := by decide +kernel
theorem dX1_findLive_18 : decode cX1_findLive 18 = .ok (.if_icmp .gt 34, 3) := by decide +kernel
theorem dX1_findLive_21 : decode cX1_findLive 21 = .ok (.aload_n 0, 1) := by decide +kernel
theorem dX1_findLive_22 : decode cX1_findLive 22 = .ok (.getfield 30, 3) := by decide +kernel
theorem dX1_findLive_25 : decode cX1_findLive 25 = .ok (.getfield 49, 3) := by decide +kernel
theorem dX1_findLive_28 : decode cX1_findLive 28 = .ok (.iconst 1, 1) := by decide +kernel
theorem dX1_findLive_29 : decode cX1_findLive 29 = .ok (.isub, 1) := by decide +kernel
theorem dX1_findLive_30 : decode cX1_findLive 30 = .ok (.istore_n 2, 1) := by decide +kernel
theorem dX1_findLive_31 : decode cX1_findLive 31 = .ok (.iload_n 2, 1) := by decide +kernel
theorem dX1_findLive_32 : decode cX1_findLive 32 = .ok (.ifCond .lt 14, 3) := by decide +kernel
theorem dX1_findLive_35 : decode cX1_findLive 35 = .ok (.aload_n 0, 1) := by decide +kernel
theorem dX1_findLive_36 : decode cX1_findLive 36 = .ok (.iload_n 2, 1) := by decide +kernel
theorem dX1_findLive_37 : decode cX1_findLive 37 = .ok (.invokevirtual 55, 3) := by decide +kernel
theorem dX1_findLive_40 : decode cX1_findLive 40 = .ok (.iinc 2 (-1), 3) := by decide +kernel
theorem dX1_findLive_43 : decode cX1_findLive 43 = .ok (.goto (-12), 3) := by decide +kernel
theorem dX1_findLive_46 : decode cX1_findLive 46 = .ok (.iinc 1 1, 3) := by decide +kernel
theorem dX1_findLive_49 : decode cX1_findLive 49 = .ok (.goto (-39), 3) := by decide +kernel
theorem dX1_findLive_52 : decode cX1_findLive 52 = .ok (.return_, 1) := by decide +kernel
theorem dX1_countSet_0 : decode cX1_countSet 0 = .ok (.iconst 0, 1) := by decide +kernel
theorem dX1_countSet_1 : decode cX1_countSet 1 = .ok (.istore_n 3, 1) := by decide +kernel
theorem dX1_countSet_2 : decode cX1_countSet 2 = .ok (.iload_n 3, 1) := by decide +kernel
theorem dX1_countSet_3 : decode cX1_countSet 3 = .ok (.bipush 12, 2) := by decide +kernel
theorem dX1_countSet_5 : decode cX1_countSet 5 = .ok (.if_icmp .ge 32, 3) := by decide +kernel
theorem dX1_countSet_8 : decode cX1_countSet 8 = .ok (.iload_n 2, 1) := by decide +kernel
theorem dX1_countSet_9 : decode cX1_countSet 9 = .ok (.iload_n 3, 1) := by decide +kernel
theorem dX1_countSet_10 : decode cX1_countSet 10 = .ok (.invokestatic 72, 3) := by decide +kernel
theorem dX1_countSet_13 : decode cX1_countSet 13 = .ok (.ifCond .eq 18, 3) := by decide +kernel
theorem dX1_countSet_16 : decode cX1_countSet 16 = .ok (.aload_n 0, 1) := by decide +kernel
theorem dX1_countSet_17 : decode cX1_countSet 17 = .ok (.getfield 15, 3) := by decide +kernel
theorem dX1_countSet_20 : decode cX1_countSet 20 = .ok (.iload_n 1, 1) := by decide +kernel
theorem dX1_countSet_21 : decode cX1_countSet 21 = .ok (.bipush 12, 2) := by decide +kernel
theorem dX1_countSet_23 : decode cX1_countSet 23 = .ok (.imul, 1) := by decide +kernel
theorem dX1_countSet_24 : decode cX1_countSet 24 = .ok (.iload_n 3, 1) := by decide +kernel
theorem dX1_countSet_25 : decode cX1_countSet 25 = .ok (.iadd, 1) := by decide +kernel
theorem dX1_countSet_26 : decode cX1_countSet 26 = .ok (.dup2, 1) := by decide +kernel
theorem dX1_countSet_27 : decode cX1_countSet 27 = .ok (.iaload, 1) := by decide +kernel
theorem dX1_countSet_28 : decode cX1_countSet 28 = .ok (.iconst 1, 1) := by decide +kernel
theorem dX1_countSet_29 : decode cX1_countSet 29 = .ok (.iadd, 1) := by decide +kernel
theorem dX1_countSet_30 : decode cX1_countSet 30 = .ok (.iastore, 1) := by decide +kernel
theorem dX1_countSet_31 : decode cX1_countSet 31 = .ok (.iinc 3 1, 3) := by decide +kernel
theorem dX1_countSet_34 : decode cX1_countSet 34 = .ok (.goto (-32), 3) := by decide +kernel
theorem dX1_countSet_37 : decode cX1_countSet 37 = .ok (.return_, 1) := by decide +kernel
theorem dX1_countUses_0 : decode cX1_countUses 0 = .ok (.aload_n 0, 1) := by decide +kernel
theorem dX1_countUses_1 : decode cX1_countUses 1 = .ok (.getfield 15, 3) := by decide +kernel
theorem dX1_countUses_4 : decode cX1_countUses 4 = .ok (.iconst 0, 1) := by decide +kernel
theorem dX1_countUses_5 : decode cX1_countUses 5 = .ok (.invokestatic 43, 3) := by decide +kernel
theorem dX1_countUses_8 : decode cX1_countUses 8 = .ok (.aload_n 0, 1) := by decide +kernel
theorem dX1_countUses_9 : decode cX1_countUses 9 = .ok (.getfield 18, 3) := by decide +kernel
theorem dX1_countUses_12 : decode cX1_countUses 12 = .ok (.iconst 0, 1) := by decide +kernel
theorem dX1_countUses_13 : decode cX1_countUses 13 = .ok (.invokestatic 43, 3) := by decide +kernel
theorem dX1_countUses_16 : decode cX1_countUses 16 = .ok (.aload_n 0, 1) := by decide +kernel
theorem dX1_countUses_17 : decode cX1_countUses 17 = .ok (.getfield 24, 3) := by decide +kernel
theorem dX1_countUses_20 : decode cX1_countUses 20 = .ok (.iconst 0, 1) := by decide +kernel
theorem dX1_countUses_21 : decode cX1_countUses 21 = .ok (.invokestatic 43, 3) := by decide +kernel
theorem dX1_countUses_24 : decode cX1_countUses 24 = .ok (.iconst 0, 1) := by decide +kernel
theorem dX1_countUses_25 : decode cX1_countUses 25 = .ok (.istore_n 1, 1) := by decide +kernel
theorem dX1_countUses_26 : decode cX1_countUses 26 = .ok (.iload_n 1, 1) := by decide +kernel
theorem dX1_countUses_27 : decode cX1_countUses 27 = .ok (.aload_n 0, 1) := by decide +kernel
theorem dX1_countUses_28 : decode cX1_countUses 28 = .ok (.getfield 30, 3) := by decide +kernel
theorem dX1_countUses_31 : decode cX1_countUses 31 = .ok (.getfield 49, 3) := by decide +kernel
theorem dX1_countUses_34 : decode cX1_countUses 34 = .ok (.if_icmp .ge 111, 3) := by decide +kernel
theorem dX1_countUses_37 : decode cX1_countUses 37 = .ok (.aload_n 0, 1) := by decide +kernel
theorem dX1_countUses_38 : decode cX1_countUses 38 = .ok (.getfield 30, 3) := by decide +kernel
theorem dX1_countUses_41 : decode cX1_countUses 41 = .ok (.getfield 59, 3) := by decide +kernel
theorem dX1_countUses_44 : decode cX1_countUses 44 = .ok (.iload_n 1, 1) := by decide +kernel
theorem dX1_countUses_45 : decode cX1_countUses 45 = .ok (.aaload, 1) := by decide +kernel
theorem dX1_countUses_46 : decode cX1_countUses 46 = .ok (.astore_n 2, 1) := by decide +kernel
theorem dX1_countUses_47 : decode cX1_countUses 47 = .ok (.iconst 0, 1) := by decide +kernel
theorem dX1_countUses_48 : decode cX1_countUses 48 = .ok (.istore_n 3, 1) := by decide +kernel
theorem dX1_countUses_49 : decode cX1_countUses 49 = .ok (.iload_n 3, 1) := by decide +kernel
theorem dX1_countUses_50 : decode cX1_countUses 50 = .ok (.aload_n 2, 1) := by decide +kernel
theorem dX1_countUses_51 : decode cX1_countUses 51 = .ok (.getfield 80, 3) := by decide +kernel
theorem dX1_countUses_54 : decode cX1_countUses 54 = .ok (.if_icmp .ge 76, 3) := by decide +kernel
theorem dX1_countUses_57 : decode cX1_countUses 57 = .ok (.aload_n 2, 1) := by decide +kernel
theorem dX1_countUses_58 : decode cX1_countUses 58 = .ok (.getfield 81, 3) := by decide +kernel
theorem dX1_countUses_61 : decode cX1_countUses 61 = .ok (.iload_n 3, 1) := by decide +kernel
theorem dX1_countUses_62 : decode cX1_countUses 62 = .ok (.iaload, 1) := by decide +kernel
theorem dX1_countUses_63 : decode cX1_countUses 63 = .ok (.istore 4, 2) := by decide +kernel
theorem dX1_countUses_65 : decode cX1_countUses 65 = .ok (.aload_n 0, 1) := by decide +kernel
theorem dX1_countUses_66 : decode cX1_countUses 66 = .ok (.iload_n 1, 1) := by decide +kernel
theorem dX1_countUses_67 : decode cX1_countUses 67 = .ok (.aload_n 2, 1) := by decide +kernel
theorem dX1_countUses_68 : decode cX1_countUses 68 = .ok (.iload_n 3, 1) := by decide +kernel
theorem dX1_countUses_69 : decode cX1_countUses 69 = .ok (.invokevirtual 84, 3) := by decide +kernel
theorem dX1_countUses_72 : decode cX1_countUses 72 = .ok (.invokevirtual 87, 3) := by decide +kernel
theorem dX1_countUses_75 : decode cX1_countUses 75 = .ok (.aload_n 0, 1) := by decide +kernel
theorem dX1_countUses_76 : decode cX1_countUses 76 = .ok (.getfield 18, 3) := by decide +kernel
theorem dX1_countUses_79 : decode cX1_countUses 79 = .ok (.iload_n 1, 1) := by decide +kernel
theorem dX1_countUses_80 : decode cX1_countUses 80 = .ok (.bipush 12, 2) := by decide +kernel
theorem dX1_countUses_82 : decode cX1_countUses 82 = .ok (.imul, 1) := by decide +kernel
theorem dX1_countUses_83 : decode cX1_countUses 83 = .ok (.iload 4, 2) := by decide +kernel
theorem dX1_countUses_85 : decode cX1_countUses 85 = .ok (.iadd, 1) := by decide +kernel
theorem dX1_countUses_86 : decode cX1_countUses 86 = .ok (.dup2, 1) := by decide +kernel
theorem dX1_countUses_87 : decode cX1_countUses 87 = .ok (.iaload, 1) := by decide +kernel
theorem dX1_countUses_88 : decode cX1_countUses 88 = .ok (.iconst 1, 1) := by decide +kernel
theorem dX1_countUses_89 : decode cX1_countUses 89 = .ok (.iadd, 1) := by decide +kernel
theorem dX1_countUses_90 : decode cX1_countUses 90 = .ok (.iastore, 1) := by decide +kernel
theorem dX1_countUses_91 : decode cX1_countUses 91 = .ok (.aload_n 2, 1) := by decide +kernel
theorem dX1_countUses_92 : decode cX1_countUses 92 = .ok (.getfield 91, 3) := by decide +kernel
theorem dX1_countUses_95 : decode cX1_countUses 95 = .ok (.iload_n 3, 1) := by decide +kernel
theorem dX1_countUses_96 : decode cX1_countUses 96 = .ok (.iaload, 1) := by decide +kernel
theorem dX1_countUses_97 : decode cX1_countUses 97 = .ok (.ifCond .ne 27, 3) := by decide +kernel
theorem dX1_countUses_100 : decode cX1_countUses 100 = .ok (.aload_n 0, 1) := by decide +kernel
theorem dX1_countUses_101 : decode cX1_countUses 101 = .ok (.getfield 24, 3) := by decide +kernel
theorem dX1_countUses_104 : decode cX1_countUses 104 = .ok (.iload 4, 2) := by decide +kernel
theorem dX1_countUses_106 : decode cX1_countUses 106 = .ok (.dup2, 1) := by decide +kernel
theorem dX1_countUses_107 : decode cX1_countUses 107 = .ok (.iaload, 1) := by decide +kernel
theorem dX1_countUses_108 : decode cX1_countUses 108 = .ok (.iconst 1, 1) := by decide +kernel
theorem dX1_countUses_109 : decode cX1_countUses 109 = .ok (.iadd, 1) := by decide +kernel
theorem dX1_countUses_110 : decode cX1_countUses 110 = .ok (.iastore, 1) := by decide +kernel
theorem dX1_countUses_111 : decode cX1_countUses 111 = .ok (.aload_n 0, 1) := by decide +kernel
theorem dX1_countUses_112 : decode cX1_countUses 112 = .ok (.getfield 27, 3) := by decide +kernel
theorem dX1_countUses_115 : decode cX1_countUses 115 = .ok (.iload 4, 2) := by decide +kernel
theorem dX1_countUses_117 : decode cX1_countUses 117 = .ok (.aload_n 2, 1) := by decide +kernel
theorem dX1_countUses_118 : decode cX1_countUses 118 = .ok (.getfield 94, 3) := by decide +kernel
theorem dX1_countUses_121 : decode cX1_countUses 121 = .ok (.iload_n 3, 1) := by decide +kernel
theorem dX1_countUses_122 : decode cX1_countUses 122 = .ok (.iaload, 1) := by decide +kernel
theorem dX1_countUses_123 : decode cX1_countUses 123 = .ok (.iastore, 1) := by decide +kernel
theorem dX1_countUses_124 : decode cX1_countUses 124 = .ok (.iinc 3 1, 3) := by decide +kernel
theorem dX1_countUses_127 : decode cX1_countUses 127 = .ok (.goto (-78), 3) := by decide +kernel
theorem dX1_countUses_130 : decode cX1_countUses 130 = .ok (.aload_n 0, 1) := by decide +kernel
theorem dX1_countUses_131 : decode cX1_countUses 131 = .ok (.iload_n 1, 1) := by decide +kernel
theorem dX1_countUses_132 : decode cX1_countUses 132 = .ok (.aload_n 2, 1) := by decide +kernel
theorem dX1_countUses_133 : decode cX1_countUses 133 = .ok (.invokevirtual 69, 3) := by decide +kernel
theorem dX1_countUses_136 : decode cX1_countUses 136 = .ok (.invokevirtual 87, 3) := by decide +kernel
theorem dX1_countUses_139 : decode cX1_countUses 139 = .ok (.iinc 1 1, 3) := by decide +kernel
theorem dX1_countUses_142 : decode cX1_countUses 142 = .ok (.goto (-116), 3) := by decide +kernel
theorem dX1_countUses_145 : decode cX1_countUses 145 = .ok (.return_, 1) := by decide +kernel
theorem dX1_addRivals_0 : decode cX1_addRivals 0 = .ok (.iload_n 2, 1) := by decide +kernel
theorem dX1_addRivals_1 : decode cX1_addRivals 1 = .ok (.iconst 1, 1) := by decide +kernel
theorem dX1_addRivals_2 : decode cX1_addRivals 2 = .ok (.iload_n 1, 1) := by decide +kernel
theorem dX1_addRivals_3 : decode cX1_addRivals 3 = .ok (.ishl, 1) := by decide +kernel
theorem dX1_addRivals_4 : decode cX1_addRivals 4 = .ok (.iconst (-1), 1) := by decide +kernel
theorem dX1_addRivals_5 : decode cX1_addRivals 5 = .ok (.ixor, 1) := by decide +kernel
theorem dX1_addRivals_6 : decode cX1_addRivals 6 = .ok (.iand, 1) := by decide +kernel
theorem dX1_addRivals_7 : decode cX1_addRivals 7 = .ok (.istore_n 3, 1) := by decide +kernel
theorem dX1_addRivals_8 : decode cX1_addRivals 8 = .ok (.aload_n 0, 1) := by decide +kernel
theorem dX1_addRivals_9 : decode cX1_addRivals 9 = .ok (.getfield 21, 3) := by decide +kernel
theorem dX1_addRivals_12 : decode cX1_addRivals 12 = .ok (.iload_n 1, 1) := by decide +kernel
theorem dX1_addRivals_13 : decode cX1_addRivals 13 = .ok (.dup2, 1) := by decide +kernel
theorem dX1_addRivals_14 : decode cX1_addRivals 14 = .ok (.iaload, 1) := by decide +kernel
theorem dX1_addRivals_15 : decode cX1_addRivals 15 = .ok (.iload_n 3, 1) := by decide +kernel
theorem dX1_addRivals_16 : decode cX1_addRivals 16 = .ok (.ior, 1) := by decide +kernel
theorem dX1_addRivals_17 : decode cX1_addRivals 17 = .ok (.iastore, 1) := by decide +kernel
theorem dX1_addRivals_18 : decode cX1_addRivals 18 = .ok (.iconst 0, 1) := by decide +kernel
theorem dX1_addRivals_19 : decode cX1_addRivals 19 = .ok (.istore 4, 2) := by decide +kernel
theorem dX1_addRivals_21 : decode cX1_addRivals 21 = .ok (.iload 4, 2) := by decide +kernel
theorem dX1_addRivals_23 : decode cX1_addRivals 23 = .ok (.bipush 12, 2) := by decide +kernel
theorem dX1_addRivals_25 : decode cX1_addRivals 25 = .ok (.if_icmp .ge 31, 3) := by decide +kernel
theorem dX1_addRivals_28 : decode cX1_addRivals 28 = .ok (.iload_n 3, 1) := by decide +kernel
theorem dX1_addRivals_29 : decode cX1_addRivals 29 = .ok (.iload 4, 2) := by decide +kernel
theorem dX1_addRivals_31 : decode cX1_addRivals 31 = .ok (.invokestatic 72, 3) := by decide +kernel
theorem dX1_addRivals_34 : decode cX1_addRivals 34 = .ok (.ifCond .eq 16, 3) := by decide +kernel
theorem dX1_addRivals_37 : decode cX1_addRivals 37 = .ok (.aload_n 0, 1) := by decide +kernel
theorem dX1_addRivals_38 : decode cX1_addRivals 38 = .ok (.getfield 21, 3) := by decide +kernel
theorem dX1_addRivals_41 : decode cX1_addRivals 41 = .ok (.iload 4, 2) := by decide +kernel
theorem dX1_addRivals_43 : decode cX1_addRivals 43 = .ok (.dup2, 1) := by decide +kernel
theorem dX1_addRivals_44 : decode cX1_addRivals 44 = .ok (.iaload, 1) := by decide +kernel
theorem dX1_addRivals_45 : decode cX1_addRivals 45 = .ok (.iconst 1, 1) := by decide +kernel
theorem dX1_addRivals_46 : decode cX1_addRivals 46 = .ok (.iload_n 1, 1) := by decide +kernel
theorem dX1_addRivals_47 : decode cX1_addRivals 47 = .ok (.ishl, 1) := by decide +kernel
theorem dX1_addRivals_48 : decode cX1_addRivals 48 = .ok (.ior, 1) := by decide +kernel
theorem dX1_addRivals_49 : decode cX1_addRivals 49 = .ok (.iastore, 1) := by decide +kernel
theorem dX1_addRivals_50 : decode cX1_addRivals 50 = .ok (.iinc 4 1, 3) := by decide +kernel
theorem dX1_addRivals_53 : decode cX1_addRivals 53 = .ok (.goto (-32), 3) := by decide +kernel
theorem dX1_addRivals_56 : decode cX1_addRivals 56 = .ok (.return_, 1) := by decide +kernel
theorem dX1_findRivals_0 : decode cX1_findRivals 0 = .ok (.aload_n 0, 1) := by decide +kernel
theorem dX1_findRivals_1 : decode cX1_findRivals 1 = .ok (.getfield 21, 3) := by decide +kernel
theorem dX1_findRivals_4 : decode cX1_findRivals 4 = .ok (.iconst 0, 1) := by decide +kernel
theorem dX1_findRivals_5 : decode cX1_findRivals 5 = .ok (.invokestatic 43, 3) := by decide +kernel
theorem dX1_findRivals_8 : decode cX1_findRivals 8 = .ok (.iconst 0, 1) := by decide +kernel
theorem dX1_findRivals_9 : decode cX1_findRivals 9 = .ok (.istore_n 1, 1) := by decide +kernel
theorem dX1_findRivals_10 : decode cX1_findRivals 10 = .ok (.iload_n 1, 1) := by decide +kernel
theorem dX1_findRivals_11 : decode cX1_findRivals 11 = .ok (.aload_n 0, 1) := by decide +kernel
theorem dX1_findRivals_12 : decode cX1_findRivals 12 = .ok (.getfield 30, 3) := by decide +kernel
theorem dX1_findRivals_15 : decode cX1_findRivals 15 = .ok (.getfield 49, 3) := by decide +kernel
theorem dX1_findRivals_18 : decode cX1_findRivals 18 = .ok (.if_icmp .ge 58, 3) := by decide +kernel
theorem dX1_findRivals_21 : decode cX1_findRivals 21 = .ok (.aload_n 0, 1) := by decide +kernel
theorem dX1_findRivals_22 : decode cX1_findRivals 22 = .ok (.getfield 30, 3) := by decide +kernel
theorem dX1_findRivals_25 : decode cX1_findRivals 25 = .ok (.getfield 59, 3) := by decide +kernel
theorem dX1_findRivals_28 : decode cX1_findRivals 28 = .ok (.iload_n 1, 1) := by decide +kernel
theorem dX1_findRivals_29 : decode cX1_findRivals 29 = .ok (.aaload, 1) := by decide +kernel
theorem dX1_findRivals_30 : decode cX1_findRivals 30 = .ok (.astore_n 2, 1) := by decide +kernel
theorem dX1_findRivals_31 : decode cX1_findRivals 31 = .ok (.iconst 0, 1) := by decide +kernel
theorem dX1_findRivals_32 : decode cX1_findRivals 32 = .ok (.istore_n 3, 1) := by decide +kernel
theorem dX1_findRivals_33 : decode cX1_findRivals 33 = .ok (.iload_n 3, 1) := by decide +kernel
theorem dX1_findRivals_34 : decode cX1_findRivals 34 = .ok (.aload_n 2, 1) := by decide +kernel
theorem dX1_findRivals_35 : decode cX1_findRivals 35 = .ok (.getfield 80, 3) := by decide +kernel
theorem dX1_findRivals_38 : decode cX1_findRivals 38 = .ok (.if_icmp .ge 32, 3) := by decide +kernel
theorem dX1_findRivals_41 : decode cX1_findRivals 41 = .ok (.aload_n 0, 1) := by decide +kernel
theorem dX1_findRivals_42 : decode cX1_findRivals 42 = .ok (.aload_n 2, 1) := by decide +kernel
theorem dX1_findRivals_43 : decode cX1_findRivals 43 = .ok (.getfield 81, 3) := by decide +kernel
theorem dX1_findRivals_46 : decode cX1_findRivals 46 = .ok (.iload_n 3, 1) := by decide +kernel
theorem dX1_findRivals_47 : decode cX1_findRivals 47 = .ok (.iaload, 1) := by decide +kernel
theorem dX1_findRivals_48 : decode cX1_findRivals 48 = .ok (.aload_n 0, 1) := by decide +kernel
theorem dX1_findRivals_49 : decode cX1_findRivals 49 = .ok (.getfield 9, 3) := by decide +kernel
theorem dX1_findRivals_52 : decode cX1_findRivals 52 = .ok (.iload_n 1, 1) := by decide +kernel
theorem dX1_findRivals_53 : decode cX1_findRivals 53 = .ok (.bipush 9, 2) := by decide +kernel
theorem dX1_findRivals_55 : decode cX1_findRivals 55 = .ok (.imul, 1) := by decide +kernel
theorem dX1_findRivals_56 : decode cX1_findRivals 56 = .ok (.iload_n 3, 1) := by decide +kernel
theorem dX1_findRivals_57 : decode cX1_findRivals 57 = .ok (.iadd, 1) := by decide +kernel
theorem dX1_findRivals_58 : decode cX1_findRivals 58 = .ok (.iconst 1, 1) := by decide +kernel
theorem dX1_findRivals_59 : decode cX1_findRivals 59 = .ok (.iadd, 1) := by decide +kernel
theorem dX1_findRivals_60 : decode cX1_findRivals 60 = .ok (.iaload, 1) := by decide +kernel
theorem dX1_findRivals_61 : decode cX1_findRivals 61 = .ok (.invokevirtual 97, 3) := by decide +kernel
theorem dX1_findRivals_64 : decode cX1_findRivals 64 = .ok (.iinc 3 1, 3) := by decide +kernel
theorem dX1_findRivals_67 : decode cX1_findRivals 67 = .ok (.goto (-34), 3) := by decide +kernel
theorem dX1_findRivals_70 : decode cX1_findRivals 70 = .ok (.iinc 1 1, 3) := by decide +kernel
theorem dX1_findRivals_73 : decode cX1_findRivals 73 = .ok (.goto (-63), 3) := by decide +kernel
theorem dX1_findRivals_76 : decode cX1_findRivals 76 = .ok (.aload_n 0, 1) := by decide +kernel
theorem dX1_findRivals_77 : decode cX1_findRivals 77 = .ok (.iconst 0, 1) := by decide +kernel
theorem dX1_findRivals_78 : decode cX1_findRivals 78 = .ok (.invokevirtual 76, 3) := by decide +kernel
theorem dX1_findRivals_81 : decode cX1_findRivals 81 = .ok (.istore_n 1, 1) := by decide +kernel
theorem dX1_findRivals_82 : decode cX1_findRivals 82 = .ok (.iconst 0, 1) := by decide +kernel
theorem dX1_findRivals_83 : decode cX1_findRivals 83 = .ok (.istore_n 2, 1) := by decide +kernel
theorem dX1_findRivals_84 : decode cX1_findRivals 84 = .ok (.iload_n 2, 1) := by decide +kernel
theorem dX1_findRivals_85 : decode cX1_findRivals 85 = .ok (.bipush 12, 2) := by decide +kernel
theorem dX1_findRivals_87 : decode cX1_findRivals 87 = .ok (.if_icmp .ge 23, 3) := by decide +kernel
theorem dX1_findRivals_90 : decode cX1_findRivals 90 = .ok (.iload_n 1, 1) := by decide +kernel
theorem dX1_findRivals_91 : decode cX1_findRivals 91 = .ok (.iload_n 2, 1) := by decide +kernel
theorem dX1_findRivals_92 : decode cX1_findRivals 92 = .ok (.invokestatic 72, 3) := by decide +kernel
theorem dX1_findRivals_95 : decode cX1_findRivals 95 = .ok (.ifCond .eq 9, 3) := by decide +kernel
theorem dX1_findRivals_98 : decode cX1_findRivals 98 = .ok (.aload_n 0, 1) := by decide +kernel
theorem dX1_findRivals_99 : decode cX1_findRivals 99 = .ok (.iload_n 2, 1) := by decide +kernel
theorem dX1_findRivals_100 : decode cX1_findRivals 100 = .ok (.iload_n 1, 1) := by decide +kernel
theorem dX1_findRivals_101 : decode cX1_findRivals 101 = .ok (.invokevirtual 97, 3) := by decide +kernel
theorem dX1_findRivals_104 : decode cX1_findRivals 104 = .ok (.iinc 2 1, 3) := by decide +kernel
theorem dX1_findRivals_107 : decode cX1_findRivals 107 = .ok (.goto (-23), 3) := by decide +kernel
theorem dX1_findRivals_110 : decode cX1_findRivals 110 = .ok (.return_, 1) := by decide +kernel
theorem dX1_find_0 : decode cX1_find 0 = .ok (.aload_n 0, 1) := by decide +kernel
theorem dX1_find_1 : decode cX1_find 1 = .ok (.invokevirtual 34, 3) := by decide +kernel
theorem dX1_find_4 : decode cX1_find 4 = .ok (.aload_n 0, 1) := by decide +kernel
theorem dX1_find_5 : decode cX1_find 5 = .ok (.invokevirtual 37, 3) := by decide +kernel
theorem dX1_find_8 : decode cX1_find 8 = .ok (.aload_n 0, 1) := by decide +kernel
theorem dX1_find_9 : decode cX1_find 9 = .ok (.invokevirtual 40, 3) := by decide +kernel
theorem dX1_find_12 : decode cX1_find 12 = .ok (.return_, 1) := by decide +kernel
theorem dX2_reachableWithout_0 : decode cX2_reachableWithout 0 = .ok (.iload_n 1, 1) := by decide +kernel
theorem dX2_reachableWithout_1 : decode cX2_reachableWithout 1 = .ok (.iconst (-1), 1) := by decide +kernel
theorem dX2_reachableWithout_2 : decode cX2_reachableWithout 2 = .ok (.if_icmp .ne 7, 3) := by decide +kernel
theorem dX2_reachableWithout_5 : decode cX2_reachableWithout 5 = .ok (.iconst (-1), 1) := by decide +kernel
theorem dX2_reachableWithout_6 : decode cX2_reachableWithout 6 = .ok (.goto 8, 3) := by decide +kernel
theorem dX2_reachableWithout_9 : decode cX2_reachableWithout 9 = .ok (.iconst 1, 1) := by decide +kernel
theorem dX2_reachableWithout_10 : decode cX2_reachableWithout 10 = .ok (.iload_n 1, 1) := by decide +kernel
theorem dX2_reachableWithout_11 : decode cX2_reachableWithout 11 = .ok (.ishl, 1) := by decide +kernel
theorem dX2_reachableWithout_12 : decode cX2_reachableWithout 12 = .ok (.iconst (-1), 1) := by decide +kernel
theorem dX2_reachableWithout_13 : decode cX2_reachableWithout 13 = .ok (.ixor, 1) := by decide +kernel
theorem dX2_reachableWithout_14 : decode cX2_reachableWithout 14 = .ok (.istore_n 2, 1) := by decide +kernel
theorem dX2_reachableWithout_15 : decode cX2_reachableWithout 15 = .ok (.iconst 1, 1) := by decide +kernel
theorem dX2_reachableWithout_16 : decode cX2_reachableWithout 16 = .ok (.iload_n 2, 1) := by decide +kernel
theorem dX2_reachableWithout_17 : decode cX2_reachableWithout 17 = .ok (.iand, 1) := by decide +kernel
theorem dX2_reachableWithout_18 : decode cX2_reachableWithout 18 = .ok (.istore_n 3, 1) := by decide +kernel
theorem dX2_reachableWithout_19 : decode cX2_reachableWithout 19 = .ok (.iconst 0, 1) := by decide +kernel
theorem dX2_reachableWithout_20 : decode cX2_reachableWithout 20 = .ok (.istore 4, 2) := by decide +kernel
theorem dX2_reachableWithout_22 : decode cX2_reachableWithout 22 = .ok (.iload 4, 2) := by decide +kernel
theorem dX2_reachableWithout_24 : decode cX2_reachableWithout 24 = .ok (.aload_n 0, 1) := by decide +kernel
theorem dX2_reachableWithout_25 : decode cX2_reachableWithout 25 = .ok (.getfield 18, 3) := by decide +kernel
theorem dX2_reachableWithout_28 : decode cX2_reachableWithout 28 = .ok (.getfield 30, 3) := by decide +kernel
theorem dX2_reachableWithout_31 : decode cX2_reachableWithout 31 = .ok (.if_icmp .ge 57, 3) := by decide +kernel
theorem dX2_reachableWithout_34 : decode cX2_reachableWithout 34 = .ok (.iconst 0, 1) := by decide +kernel
theorem dX2_reachableWithout_35 : decode cX2_reachableWithout 35 = .ok (.istore 5, 2) := by decide +kernel
theorem dX2_reachableWithout_37 : decode cX2_reachableWithout 37 = .ok (.iload 5, 2) := by decide +kernel
theorem dX2_reachableWithout_39 : decode cX2_reachableWithout 39 = .ok (.aload_n 0, 1) := by decide +kernel
theorem dX2_reachableWithout_40 : decode cX2_reachableWithout 40 = .ok (.getfield 18, 3) := by decide +kernel
theorem dX2_reachableWithout_43 : decode cX2_reachableWithout 43 = .ok (.getfield 30, 3) := by decide +kernel
theorem dX2_reachableWithout_46 : decode cX2_reachableWithout 46 = .ok (.if_icmp .ge 36, 3) := by decide +kernel
theorem dX2_reachableWithout_49 : decode cX2_reachableWithout 49 = .ok (.iload_n 3, 1) := by decide +kernel
theorem dX2_reachableWithout_50 : decode cX2_reachableWithout 50 = .ok (.iload 5, 2) := by decide +kernel
theorem dX2_reachableWithout_52 : decode cX2_reachableWithout 52 = .ok (.invokestatic 42, 3) := by decide +kernel
theorem dX2_reachableWithout_55 : decode cX2_reachableWithout 55 = .ok (.ifCond .eq 21, 3) := by decide +kernel
theorem dX2_reachableWithout_58 : decode cX2_reachableWithout 58 = .ok (.iload_n 3, 1) := by decide +kernel
theorem dX2_reachableWithout_59 : decode cX2_reachableWithout 59 = .ok (.aload_n 0, 1) := by decide +kernel
theorem dX2_reachableWithout_60 : decode cX2_reachableWithout 60 = .ok (.getfield 18, 3) := by decide +kernel
theorem dX2_reachableWithout_63 : decode cX2_reachableWithout 63 = .ok (.getfield 46, 3) := by decide +kernel
theorem dX2_reachableWithout_66 : decode cX2_reachableWithout 66 = .ok (.iload 5, 2) := by decide +kernel
theorem dX2_reachableWithout_68 : decode cX2_reachableWithout 68 = .ok (.aaload, 1) := by decide +kernel
theorem dX2_reachableWithout_69 : decode cX2_reachableWithout 69 = .ok (.invokevirtual 50, 3) := by decide +kernel
theorem dX2_reachableWithout_72 : decode cX2_reachableWithout 72 = .ok (.iload_n 2, 1) := by decide +kernel
theorem dX2_reachableWithout_73 : decode cX2_reachableWithout 73 = .ok (.iand, 1) := by decide +kernel
theorem dX2_reachableWithout_74 : decode cX2_reachableWithout 74 = .ok (.ior, 1) := by decide +kernel
theorem dX2_reachableWithout_75 : decode cX2_reachableWithout 75 = .ok (.istore_n 3, 1) := by decide +kernel
theorem dX2_reachableWithout_76 : decode cX2_reachableWithout 76 = .ok (.iinc 5 1, 3) := by decide +kernel
theorem dX2_reachableWithout_79 : decode cX2_reachableWithout 79 = .ok (.goto (-42), 3) := by decide +kernel
theorem dX2_reachableWithout_82 : decode cX2_reachableWithout 82 = .ok (.iinc 4 1, 3) := by decide +kernel
theorem dX2_reachableWithout_85 : decode cX2_reachableWithout 85 = .ok (.goto (-63), 3) := by decide +kernel
theorem dX2_reachableWithout_88 : decode cX2_reachableWithout 88 = .ok (.iload_n 3, 1) := by decide +kernel
theorem dX2_reachableWithout_89 : decode cX2_reachableWithout 89 = .ok (.ireturn, 1) := by decide +kernel
theorem dX2_predecessors_0 : decode cX2_predecessors 0 = .ok (.iconst 0, 1) := by decide +kernel
theorem dX2_predecessors_1 : decode cX2_predecessors 1 = .ok (.istore_n 2, 1) := by decide +kernel
theorem dX2_predecessors_2 : decode cX2_predecessors 2 = .ok (.iconst 0, 1) := by decide +kernel
theorem dX2_predecessors_3 : decode cX2_predecessors 3 = .ok (.istore_n 3, 1) := by decide +kernel
theorem dX2_predecessors_4 : decode cX2_predecessors 4 = .ok (.iload_n 3, 1) := by decide +kernel
theorem dX2_predecessors_5 : decode cX2_predecessors 5 = .ok (.aload_n 0, 1) := by decide +kernel
theorem dX2_predecessors_6 : decode cX2_predecessors 6 = .ok (.getfield 18, 3) := by decide +kernel
theorem dX2_predecessors_9 : decode cX2_predecessors 9 = .ok (.getfield 30, 3) := by decide +kernel
theorem dX2_predecessors_12 : decode cX2_predecessors 12 = .ok (.if_icmp .ge 32, 3) := by decide +kernel
theorem dX2_predecessors_15 : decode cX2_predecessors 15 = .ok (.aload_n 0, 1) := by decide +kernel
theorem dX2_predecessors_16 : decode cX2_predecessors 16 = .ok (.getfield 18, 3) := by decide +kernel
theorem dX2_predecessors_19 : decode cX2_predecessors 19 = .ok (.getfield 46, 3) := by decide +kernel
theorem dX2_predecessors_22 : decode cX2_predecessors 22 = .ok (.iload_n 3, 1) := by decide +kernel
theorem dX2_predecessors_23 : decode cX2_predecessors 23 = .ok (.aaload, 1) := by decide +kernel
theorem dX2_predecessors_24 : decode cX2_predecessors 24 = .ok (.invokevirtual 50, 3) := by decide +kernel
theorem dX2_predecessors_27 : decode cX2_predecessors 27 = .ok (.iload_n 1, 1) := by decide +kernel
theorem dX2_predecessors_28 : decode cX2_predecessors 28 = .ok (.iand, 1) := by decide +kernel
theorem dX2_predecessors_29 : decode cX2_predecessors 29 = .ok (.ifCond .eq 9, 3) := by decide +kernel
theorem dX2_predecessors_32 : decode cX2_predecessors 32 = .ok (.iload_n 2, 1) := by decide +kernel
theorem dX2_predecessors_33 : decode cX2_predecessors 33 = .ok (.iconst 1, 1) := by decide +kernel
theorem dX2_predecessors_34 : decode cX2_predecessors 34 = .ok (.iload_n 3, 1) := by decide +kernel
theorem dX2_predecessors_35 : decode cX2_predecessors 35 = .ok (.ishl, 1) := by decide +kernel
theorem dX2_predecessors_36 : decode cX2_predecessors 36 = .ok (.ior, 1) := by decide +kernel
theorem dX2_predecessors_37 : decode cX2_predecessors 37 = .ok (.istore_n 2, 1) := by decide +kernel
theorem dX2_predecessors_38 : decode cX2_predecessors 38 = .ok (.iinc 3 1, 3) := by decide +kernel
theorem dX2_predecessors_41 : decode cX2_predecessors 41 = .ok (.goto (-37), 3) := by decide +kernel
theorem dX2_predecessors_44 : decode cX2_predecessors 44 = .ok (.iload_n 2, 1) := by decide +kernel
theorem dX2_predecessors_45 : decode cX2_predecessors 45 = .ok (.ireturn, 1) := by decide +kernel
theorem dX2_loopBlocks_0 : decode cX2_loopBlocks 0 = .ok (.iload_n 2, 1) := by decide +kernel
theorem dX2_loopBlocks_1 : decode cX2_loopBlocks 1 = .ok (.iconst 1, 1) := by decide +kernel
theorem dX2_loopBlocks_2 : decode cX2_loopBlocks 2 = .ok (.iload_n 1, 1) := by decide +kernel
theorem dX2_loopBlocks_3 : decode cX2_loopBlocks 3 = .ok (.ishl, 1) := by decide +kernel
theorem dX2_loopBlocks_4 : decode cX2_loopBlocks 4 = .ok (.iconst (-1), 1) := by decide +kernel
theorem dX2_loopBlocks_5 : decode cX2_loopBlocks 5 = .ok (.ixor, 1) := by decide +kernel
theorem dX2_loopBlocks_6 : decode cX2_loopBlocks 6 = .ok (.iand, 1) := by decide +kernel
theorem dX2_loopBlocks_7 : decode cX2_loopBlocks 7 = .ok (.istore 4, 2) := by decide +kernel
theorem dX2_loopBlocks_9 : decode cX2_loopBlocks 9 = .ok (.iconst 0, 1) := by decide +kernel
theorem dX2_loopBlocks_10 : decode cX2_loopBlocks 10 = .ok (.istore 5, 2) := by decide +kernel
theorem dX2_loopBlocks_12 : decode cX2_loopBlocks 12 = .ok (.iload 5, 2) := by decide +kernel
theorem dX2_loopBlocks_14 : decode cX2_loopBlocks 14 = .ok (.aload_n 0, 1) := by decide +kernel
theorem dX2_loopBlocks_15 : decode cX2_loopBlocks 15 = .ok (.getfield 18, 3) := by decide +kernel
theorem dX2_loopBlocks_18 : decode cX2_loopBlocks 18 = .ok (.getfield 30, 3) := by decide +kernel
theorem dX2_loopBlocks_21 : decode cX2_loopBlocks 21 = .ok (.if_icmp .ge 28, 3) := by decide +kernel
theorem dX2_loopBlocks_24 : decode cX2_loopBlocks 24 = .ok (.iload 4, 2) := by decide +kernel
theorem dX2_loopBlocks_26 : decode cX2_loopBlocks 26 = .ok (.aload_n 0, 1) := by decide +kernel
theorem dX2_loopBlocks_27 : decode cX2_loopBlocks 27 = .ok (.iload 4, 2) := by decide +kernel
theorem dX2_loopBlocks_29 : decode cX2_loopBlocks 29 = .ok (.invokevirtual 35, 3) := by decide +kernel
theorem dX2_loopBlocks_32 : decode cX2_loopBlocks 32 = .ok (.iload_n 3, 1) := by decide +kernel
theorem dX2_loopBlocks_33 : decode cX2_loopBlocks 33 = .ok (.iand, 1) := by decide +kernel
theorem dX2_loopBlocks_34 : decode cX2_loopBlocks 34 = .ok (.iconst 1, 1) := by decide +kernel
theorem dX2_loopBlocks_35 : decode cX2_loopBlocks 35 = .ok (.iload_n 1, 1) := by decide +kernel
theorem dX2_loopBlocks_36 : decode cX2_loopBlocks 36 = .ok (.ishl, 1) := by decide +kernel
theorem dX2_loopBlocks_37 : decode cX2_loopBlocks 37 = .ok (.iconst (-1), 1) := by decide +kernel
theorem dX2_loopBlocks_38 : decode cX2_loopBlocks 38 = .ok (.ixor, 1) := by decide +kernel
theorem dX2_loopBlocks_39 : decode cX2_loopBlocks 39 = .ok (.iand, 1) := by decide +kernel
theorem dX2_loopBlocks_40 : decode cX2_loopBlocks 40 = .ok (.ior, 1) := by decide +kernel
theorem dX2_loopBlocks_41 : decode cX2_loopBlocks 41 = .ok (.istore 4, 2) := by decide +kernel
theorem dX2_loopBlocks_43 : decode cX2_loopBlocks 43 = .ok (.iinc 5 1, 3) := by decide +kernel
theorem dX2_loopBlocks_46 : decode cX2_loopBlocks 46 = .ok (.goto (-34), 3) := by decide +kernel
theorem dX2_loopBlocks_49 : decode cX2_loopBlocks 49 = .ok (.iload 4, 2) := by decide +kernel
theorem dX2_loopBlocks_51 : decode cX2_loopBlocks 51 = .ok (.iconst 1, 1) := by decide +kernel
theorem dX2_loopBlocks_52 : decode cX2_loopBlocks 52 = .ok (.iload_n 1, 1) := by decide +kernel
theorem dX2_loopBlocks_53 : decode cX2_loopBlocks 53 = .ok (.ishl, 1) := by decide +kernel
theorem dX2_loopBlocks_54 : decode cX2_loopBlocks 54 = .ok (.ior, 1) := by decide +kernel
theorem dX2_loopBlocks_55 : decode cX2_loopBlocks 55 = .ok (.ireturn, 1) := by decide +kernel
theorem dX2_find_0 : decode cX2_find 0 = .ok (.aload_n 0, 1) := by decide +kernel
theorem dX2_find_1 : decode cX2_find 1 = .ok (.iconst 0, 1) := by decide +kernel
theorem dX2_find_2 : decode cX2_find 2 = .ok (.putfield 22, 3) := by decide +kernel
theorem dX2_find_5 : decode cX2_find 5 = .ok (.aload_n 0, 1) := by decide +kernel
theorem dX2_find_6 : decode cX2_find 6 = .ok (.iconst (-1), 1) := by decide +kernel
theorem dX2_find_7 : decode cX2_find 7 = .ok (.invokevirtual 26, 3) := by decide +kernel
theorem dX2_find_10 : decode cX2_find 10 = .ok (.istore_n 1, 1) := by decide +kernel
theorem dX2_find_11 : decode cX2_find 11 = .ok (.iconst 0, 1) := by decide +kernel
theorem dX2_find_12 : decode cX2_find 12 = .ok (.istore_n 2, 1) := by decide +kernel
theorem dX2_find_13 : decode cX2_find 13 = .ok (.iload_n 2, 1) := by decide +kernel
theorem dX2_find_14 : decode cX2_find 14 = .ok (.aload_n 0, 1) := by decide +kernel
theorem dX2_find_15 : decode cX2_find 15 = .ok (.getfield 18, 3) := by decide +kernel
theorem dX2_find_18 : decode cX2_find 18 = .ok (.getfield 30, 3) := by decide +kernel
theorem dX2_find_21 : decode cX2_find 21 = .ok (.if_icmp .ge 72, 3) := by decide +kernel
theorem dX2_find_24 : decode cX2_find 24 = .ok (.iload_n 1, 1) := by decide +kernel
theorem dX2_find_25 : decode cX2_find 25 = .ok (.aload_n 0, 1) := by decide +kernel
theorem dX2_find_26 : decode cX2_find 26 = .ok (.iload_n 2, 1) := by decide +kernel
theorem dX2_find_27 : decode cX2_find 27 = .ok (.invokevirtual 26, 3) := by decide +kernel
theorem dX2_find_30 : decode cX2_find 30 = .ok (.iconst (-1), 1) := by decide +kernel
theorem dX2_find_31 : decode cX2_find 31 = .ok (.ixor, 1) := by decide +kernel
theorem dX2_find_32 : decode cX2_find 32 = .ok (.iand, 1) := by decide +kernel
theorem dX2_find_33 : decode cX2_find 33 = .ok (.istore_n 3, 1) := by decide +kernel
theorem dX2_find_34 : decode cX2_find 34 = .ok (.iload_n 3, 1) := by decide +kernel
theorem dX2_find_35 : decode cX2_find 35 = .ok (.aload_n 0, 1) := by decide +kernel
theorem dX2_find_36 : decode cX2_find 36 = .ok (.iconst 1, 1) := by decide +kernel
theorem dX2_find_37 : decode cX2_find 37 = .ok (.iload_n 2, 1) := by decide +kernel
theorem dX2_find_38 : decode cX2_find 38 = .ok (.ishl, 1) := by decide +kernel
theorem dX2_find_39 : decode cX2_find 39 = .ok (.invokevirtual 35, 3) := by decide +kernel
theorem dX2_find_42 : decode cX2_find 42 = .ok (.iand, 1) := by decide +kernel
theorem dX2_find_43 : decode cX2_find 43 = .ok (.istore 4, 2) := by decide +kernel
theorem dX2_find_45 : decode cX2_find 45 = .ok (.iload 4, 2) := by decide +kernel
theorem dX2_find_47 : decode cX2_find 47 = .ok (.ifCond .eq 40, 3) := by decide +kernel
theorem dX2_find_50 : decode cX2_find 50 = .ok (.aload_n 0, 1) := by decide +kernel
theorem dX2_find_51 : decode cX2_find 51 = .ok (.getfield 9, 3) := by decide +kernel
theorem dX2_find_54 : decode cX2_find 54 = .ok (.aload_n 0, 1) := by decide +kernel
theorem dX2_find_55 : decode cX2_find 55 = .ok (.getfield 22, 3) := by decide +kernel
theorem dX2_find_58 : decode cX2_find 58 = .ok (.iload_n 2, 1) := by decide +kernel
theorem dX2_find_59 : decode cX2_find 59 = .ok (.iastore, 1) := by decide +kernel
theorem dX2_find_60 : decode cX2_find 60 = .ok (.aload_n 0, 1) := by decide +kernel
theorem dX2_find_61 : decode cX2_find 61 = .ok (.getfield 15, 3) := by decide +kernel
theorem dX2_find_64 : decode cX2_find 64 = .ok (.aload_n 0, 1) := by decide +kernel
theorem dX2_find_65 : decode cX2_find 65 = .ok (.getfield 22, 3) := by decide +kernel
theorem dX2_find_68 : decode cX2_find 68 = .ok (.aload_n 0, 1) := by decide +kernel
theorem dX2_find_69 : decode cX2_find 69 = .ok (.iload_n 2, 1) := by decide +kernel
theorem dX2_find_70 : decode cX2_find 70 = .ok (.iload 4, 2) := by decide +kernel
theorem dX2_find_72 : decode cX2_find 72 = .ok (.iload_n 1, 1) := by decide +kernel
theorem dX2_find_73 : decode cX2_find 73 = .ok (.invokevirtual 38, 3) := by decide +kernel
theorem dX2_find_76 : decode cX2_find 76 = .ok (.iastore, 1) := by decide +kernel
theorem dX2_find_77 : decode cX2_find 77 = .ok (.aload_n 0, 1) := by decide +kernel
theorem dX2_find_78 : decode cX2_find 78 = .ok (.dup, 1) := by decide +kernel
theorem dX2_find_79 : decode cX2_find 79 = .ok (.getfield 22, 3) := by decide +kernel
theorem dX2_find_82 : decode cX2_find 82 = .ok (.iconst 1, 1) := by decide +kernel
theorem dX2_find_83 : decode cX2_find 83 = .ok (.iadd, 1) := by decide +kernel
theorem dX2_find_84 : decode cX2_find 84 = .ok (.putfield 22, 3) := by decide +kernel
theorem dX2_find_87 : decode cX2_find 87 = .ok (.iinc 2 1, 3) := by decide +kernel
theorem dX2_find_90 : decode cX2_find 90 = .ok (.goto (-77), 3) := by decide +kernel
theorem dX2_find_93 : decode cX2_find 93 = .ok (.return_, 1) := by decide +kernel
theorem dX9_analyse_0 : decode cX9_analyse 0 = .ok (.aload_n 0, 1) := by decide +kernel
theorem dX9_analyse_1 : decode cX9_analyse 1 = .ok (.getfield 322, 3) := by decide +kernel
theorem dX9_analyse_4 : decode cX9_analyse 4 = .ok (.ifCond .ne 22, 3) := by decide +kernel
theorem dX9_analyse_7 : decode cX9_analyse 7 = .ok (.aload_n 0, 1) := by decide +kernel
theorem dX9_analyse_8 : decode cX9_analyse 8 = .ok (.getfield 32, 3) := by decide +kernel
theorem dX9_analyse_11 : decode cX9_analyse 11 = .ok (.invokevirtual 325, 3) := by decide +kernel
theorem dX9_analyse_14 : decode cX9_analyse 14 = .ok (.aload_n 0, 1) := by decide +kernel
theorem dX9_analyse_15 : decode cX9_analyse 15 = .ok (.getfield 36, 3) := by decide +kernel
theorem dX9_analyse_18 : decode cX9_analyse 18 = .ok (.invokevirtual 328, 3) := by decide +kernel
theorem dX9_analyse_21 : decode cX9_analyse 21 = .ok (.aload_n 0, 1) := by decide +kernel
theorem dX9_analyse_22 : decode cX9_analyse 22 = .ok (.iconst 1, 1) := by decide +kernel
theorem dX9_analyse_23 : decode cX9_analyse 23 = .ok (.putfield 322, 3) := by decide +kernel
theorem dX9_analyse_26 : decode cX9_analyse 26 = .ok (.return_, 1) := by decide +kernel
theorem dJ6_bitCount_0f7a4_0 : decode cJ6_bitCount_0f7a4 0 = .ok (.iload_n 0, 1) := by decide +kernel
theorem dJ6_bitCount_0f7a4_1 : decode cJ6_bitCount_0f7a4 1 = .ok (.iload_n 0, 1) := by decide +kernel
theorem dJ6_bitCount_0f7a4_2 : decode cJ6_bitCount_0f7a4 2 = .ok (.iconst 1, 1) := by decide +kernel
theorem dJ6_bitCount_0f7a4_3 : decode cJ6_bitCount_0f7a4 3 = .ok (.iushr, 1) := by decide +kernel
theorem dJ6_bitCount_0f7a4_4 : decode cJ6_bitCount_0f7a4 4 = .ok (.ldc_w 265, 3) := by decide +kernel
theorem dJ6_bitCount_0f7a4_7 : decode cJ6_bitCount_0f7a4 7 = .ok (.iand, 1) := by decide +kernel
theorem dJ6_bitCount_0f7a4_8 : decode cJ6_bitCount_0f7a4 8 = .ok (.isub, 1) := by decide +kernel
theorem dJ6_bitCount_0f7a4_9 : decode cJ6_bitCount_0f7a4 9 = .ok (.istore_n 0, 1) := by decide +kernel
theorem dJ6_bitCount_0f7a4_10 : decode cJ6_bitCount_0f7a4 10 = .ok (.iload_n 0, 1) := by decide +kernel
theorem dJ6_bitCount_0f7a4_11 : decode cJ6_bitCount_0f7a4 11 = .ok (.ldc_w 266, 3) := by decide +kernel
theorem dJ6_bitCount_0f7a4_14 : decode cJ6_bitCount_0f7a4 14 = .ok (.iand, 1) := by decide +kernel
theorem dJ6_bitCount_0f7a4_15 : decode cJ6_bitCount_0f7a4 15 = .ok (.iload_n 0, 1) := by decide +kernel
theorem dJ6_bitCount_0f7a4_16 : decode cJ6_bitCount_0f7a4 16 = .ok (.iconst 2, 1) := by decide +kernel
theorem dJ6_bitCount_0f7a4_17 : decode cJ6_bitCount_0f7a4 17 = .ok (.iushr, 1) := by decide +kernel
theorem dJ6_bitCount_0f7a4_18 : decode cJ6_bitCount_0f7a4 18 = .ok (.ldc_w 266, 3) := by decide +kernel
theorem dJ6_bitCount_0f7a4_21 : decode cJ6_bitCount_0f7a4 21 = .ok (.iand, 1) := by decide +kernel
theorem dJ6_bitCount_0f7a4_22 : decode cJ6_bitCount_0f7a4 22 = .ok (.iadd, 1) := by decide +kernel
theorem dJ6_bitCount_0f7a4_23 : decode cJ6_bitCount_0f7a4 23 = .ok (.istore_n 0, 1) := by decide +kernel
theorem dJ6_bitCount_0f7a4_24 : decode cJ6_bitCount_0f7a4 24 = .ok (.iload_n 0, 1) := by decide +kernel
theorem dJ6_bitCount_0f7a4_25 : decode cJ6_bitCount_0f7a4 25 = .ok (.iload_n 0, 1) := by decide +kernel
theorem dJ6_bitCount_0f7a4_26 : decode cJ6_bitCount_0f7a4 26 = .ok (.iconst 4, 1) := by decide +kernel
theorem dJ6_bitCount_0f7a4_27 : decode cJ6_bitCount_0f7a4 27 = .ok (.iushr, 1) := by decide +kernel
theorem dJ6_bitCount_0f7a4_28 : decode cJ6_bitCount_0f7a4 28 = .ok (.iadd, 1) := by decide +kernel
theorem dJ6_bitCount_0f7a4_29 : decode cJ6_bitCount_0f7a4 29 = .ok (.ldc_w 267, 3) := by decide +kernel
theorem dJ6_bitCount_0f7a4_32 : decode cJ6_bitCount_0f7a4 32 = .ok (.iand, 1) := by decide +kernel
theorem dJ6_bitCount_0f7a4_33 : decode cJ6_bitCount_0f7a4 33 = .ok (.istore_n 0, 1) := by decide +kernel
theorem dJ6_bitCount_0f7a4_34 : decode cJ6_bitCount_0f7a4 34 = .ok (.iload_n 0, 1) := by decide +kernel
theorem dJ6_bitCount_0f7a4_35 : decode cJ6_bitCount_0f7a4 35 = .ok (.iload_n 0, 1) := by decide +kernel
theorem dJ6_bitCount_0f7a4_36 : decode cJ6_bitCount_0f7a4 36 = .ok (.bipush 8, 2) := by decide +kernel
theorem dJ6_bitCount_0f7a4_38 : decode cJ6_bitCount_0f7a4 38 = .ok (.iushr, 1) := by decide +kernel
theorem dJ6_bitCount_0f7a4_39 : decode cJ6_bitCount_0f7a4 39 = .ok (.iadd, 1) := by decide +kernel
theorem dJ6_bitCount_0f7a4_40 : decode cJ6_bitCount_0f7a4 40 = .ok (.istore_n 0, 1) := by decide +kernel
theorem dJ6_bitCount_0f7a4_41 : decode cJ6_bitCount_0f7a4 41 = .ok (.iload_n 0, 1) := by decide +kernel
theorem dJ6_bitCount_0f7a4_42 : decode cJ6_bitCount_0f7a4 42 = .ok (.iload_n 0, 1) := by decide +kernel
theorem dJ6_bitCount_0f7a4_43 : decode cJ6_bitCount_0f7a4 43 = .ok (.bipush 16, 2) := by decide +kernel
theorem dJ6_bitCount_0f7a4_45 : decode cJ6_bitCount_0f7a4 45 = .ok (.iushr, 1) := by decide +kernel
theorem dJ6_bitCount_0f7a4_46 : decode cJ6_bitCount_0f7a4 46 = .ok (.iadd, 1) := by decide +kernel
theorem dJ6_bitCount_0f7a4_47 : decode cJ6_bitCount_0f7a4 47 = .ok (.istore_n 0, 1) := by decide +kernel
theorem dJ6_bitCount_0f7a4_48 : decode cJ6_bitCount_0f7a4 48 = .ok (.iload_n 0, 1) := by decide +kernel
theorem dJ6_bitCount_0f7a4_49 : decode cJ6_bitCount_0f7a4 49 = .ok (.bipush 63, 2) := by decide +kernel
theorem dJ6_bitCount_0f7a4_51 : decode cJ6_bitCount_0f7a4 51 = .ok (.iand, 1) := by decide +kernel
theorem dJ6_bitCount_0f7a4_52 : decode cJ6_bitCount_0f7a4 52 = .ok (.ireturn, 1) := by decide +kernel
theorem dX1_greatestLive_0 : decode cX1_greatestLive 0 = .ok (.iconst 0, 1) := by decide +kernel
theorem dX1_greatestLive_1 : decode cX1_greatestLive 1 = .ok (.istore_n 1, 1) := by decide +kernel
theorem dX1_greatestLive_2 : decode cX1_greatestLive 2 = .ok (.iconst 0, 1) := by decide +kernel
theorem dX1_greatestLive_3 : decode cX1_greatestLive 3 = .ok (.istore_n 2, 1) := by decide +kernel
theorem dX1_greatestLive_4 : decode cX1_greatestLive 4 = .ok (.iload_n 2, 1) := by decide +kernel
theorem dX1_greatestLive_5 : decode cX1_greatestLive 5 = .ok (.aload_n 0, 1) := by decide +kernel
theorem dX1_greatestLive_6 : decode cX1_greatestLive 6 = .ok (.getfield 30, 3) := by decide +kernel
theorem dX1_greatestLive_9 : decode cX1_greatestLive 9 = .ok (.getfield 49, 3) := by decide +kernel
theorem dX1_greatestLive_12 : decode cX1_greatestLive 12 = .ok (.if_icmp .ge 52, 3) := by decide +kernel
theorem dX1_greatestLive_15 : decode cX1_greatestLive 15 = .ok (.iconst 0, 1) := by decide +kernel
theorem dX1_greatestLive_16 : decode cX1_greatestLive 16 = .ok (.istore_n 3, 1) := by decide +kernel
theorem dX1_greatestLive_17 : decode cX1_greatestLive 17 = .ok (.iload_n 3, 1) := by decide +kernel
theorem dX1_greatestLive_18 : decode cX1_greatestLive 18 = .ok (.aload_n 0, 1) := by decide +kernel
theorem dX1_greatestLive_19 : decode cX1_greatestLive 19 = .ok (.getfield 30, 3) := by decide +kernel
theorem dX1_greatestLive_22 : decode cX1_greatestLive 22 = .ok (.getfield 59, 3) := by decide +kernel
theorem dX1_greatestLive_25 : decode cX1_greatestLive 25 = .ok (.iload_n 2, 1) := by decide +kernel
theorem dX1_greatestLive_26 : decode cX1_greatestLive 26 = .ok (.aaload, 1) := by decide +kernel
theorem dX1_greatestLive_27 : decode cX1_greatestLive 27 = .ok (.getfield 80, 3) := by decide +kernel
theorem dX1_greatestLive_30 : decode cX1_greatestLive 30 = .ok (.if_icmp .gt 28, 3) := by decide +kernel
theorem dX1_greatestLive_33 : decode cX1_greatestLive 33 = .ok (.iload_n 1, 1) := by decide +kernel
theorem dX1_greatestLive_34 : decode cX1_greatestLive 34 = .ok (.aload_n 0, 1) := by decide +kernel
theorem dX1_greatestLive_35 : decode cX1_greatestLive 35 = .ok (.getfield 9, 3) := by decide +kernel
theorem dX1_greatestLive_38 : decode cX1_greatestLive 38 = .ok (.iload_n 2, 1) := by decide +kernel
theorem dX1_greatestLive_39 : decode cX1_greatestLive 39 = .ok (.bipush 9, 2) := by decide +kernel
theorem dX1_greatestLive_41 : decode cX1_greatestLive 41 = .ok (.imul, 1) := by decide +kernel
theorem dX1_greatestLive_42 : decode cX1_greatestLive 42 = .ok (.iload_n 3, 1) := by decide +kernel
theorem dX1_greatestLive_43 : decode cX1_greatestLive 43 = .ok (.iadd, 1) := by decide +kernel
theorem dX1_greatestLive_44 : decode cX1_greatestLive 44 = .ok (.iaload, 1) := by decide +kernel
theorem dX1_greatestLive_45 : decode cX1_greatestLive 45 = .ok (.invokestatic 100, 3) := by decide +kernel
theorem dX1_greatestLive_48 : decode cX1_greatestLive 48 = .ok (.invokestatic 105, 3) := by decide +kernel
theorem dX1_greatestLive_51 : decode cX1_greatestLive 51 = .ok (.istore_n 1, 1) := by decide +kernel
theorem dX1_greatestLive_52 : decode cX1_greatestLive 52 = .ok (.iinc 3 1, 3) := by decide +kernel
theorem dX1_greatestLive_55 : decode cX1_greatestLive 55 = .ok (.goto (-38), 3) := by decide +kernel
theorem dX1_greatestLive_58 : decode cX1_greatestLive 58 = .ok (.iinc 2 1, 3) := by decide +kernel
theorem dX1_greatestLive_61 : decode cX1_greatestLive 61 = .ok (.goto (-57), 3) := by decide +kernel
theorem dX1_greatestLive_64 : decode cX1_greatestLive 64 = .ok (.iload_n 1, 1) := by decide +kernel
theorem dX1_greatestLive_65 : decode cX1_greatestLive 65 = .ok (.ireturn, 1) := by decide +kernel
theorem dX9_pressure_0 : decode cX9_pressure 0 = .ok (.aload_n 0, 1) := by decide +kernel
theorem dX9_pressure_1 : decode cX9_pressure 1 = .ok (.invokevirtual 173, 3) := by decide +kernel
theorem dX9_pressure_4 : decode cX9_pressure 4 = .ok (.aload_n 0, 1) := by decide +kernel
theorem dX9_pressure_5 : decode cX9_pressure 5 = .ok (.getfield 32, 3) := by decide +kernel
theorem dX9_pressure_8 : decode cX9_pressure 8 = .ok (.invokevirtual 182, 3) := by decide +kernel
theorem dX9_pressure_11 : decode cX9_pressure 11 = .ok (.ireturn, 1) := by decide +kernel
theorem dX9_loops_0 : decode cX9_loops 0 = .ok (.aload_n 0, 1) := by decide +kernel
theorem dX9_loops_1 : decode cX9_loops 1 = .ok (.invokevirtual 173, 3) := by decide +kernel
theorem dX9_loops_4 : decode cX9_loops 4 = .ok (.aload_n 0, 1) := by decide +kernel
theorem dX9_loops_5 : decode cX9_loops 5 = .ok (.getfield 36, 3) := by decide +kernel
theorem dX9_loops_8 : decode cX9_loops 8 = .ok (.getfield 186, 3) := by decide +kernel
theorem dX9_loops_11 : decode cX9_loops 11 = .ok (.ireturn, 1) := by decide +kernel
theorem dX2_isWithin_0 : decode cX2_isWithin 0 = .ok (.aload_n 0, 1) := by decide +kernel
theorem dX2_isWithin_1 : decode cX2_isWithin 1 = .ok (.getfield 15, 3) := by decide +kernel
theorem dX2_isWithin_4 : decode cX2_isWithin 4 = .ok (.iload_n 1, 1) := by decide +kernel
theorem dX2_isWithin_5 : decode cX2_isWithin 5 = .ok (.iaload, 1) := by decide +kernel
theorem dX2_isWithin_6 : decode cX2_isWithin 6 = .ok (.aload_n 0, 1) := by decide +kernel
theorem dX2_isWithin_7 : decode cX2_isWithin 7 = .ok (.getfield 15, 3) := by decide +kernel
theorem dX2_isWithin_10 : decode cX2_isWithin 10 = .ok (.iload_n 2, 1) := by decide +kernel
theorem dX2_isWithin_11 : decode cX2_isWithin 11 = .ok (.iaload, 1) := by decide +kernel
theorem dX2_isWithin_12 : decode cX2_isWithin 12 = .ok (.iconst (-1), 1) := by decide +kernel
theorem dX2_isWithin_13 : decode cX2_isWithin 13 = .ok (.ixor, 1) := by decide +kernel
theorem dX2_isWithin_14 : decode cX2_isWithin 14 = .ok (.iand, 1) := by decide +kernel
theorem dX2_isWithin_15 : decode cX2_isWithin 15 = .ok (.ifCond .ne 7, 3) := by decide +kernel
theorem dX2_isWithin_18 : decode cX2_isWithin 18 = .ok (.iconst 1, 1) := by decide +kernel
theorem dX2_isWithin_19 : decode cX2_isWithin 19 = .ok (.goto 4, 3) := by decide +kernel
theorem dX2_isWithin_22 : decode cX2_isWithin 22 = .ok (.iconst 0, 1) := by decide +kernel
theorem dX2_isWithin_23 : decode cX2_isWithin 23 = .ok (.ireturn, 1) := by decide +kernel
theorem dX2_depth_0 : decode cX2_depth 0 = .ok (.iconst 0, 1) := by decide +kernel
theorem dX2_depth_1 : decode cX2_depth 1 = .ok (.istore_n 2, 1) := by decide +kernel
theorem dX2_depth_2 : decode cX2_depth 2 = .ok (.iconst 0, 1) := by decide +kernel
theorem dX2_depth_3 : decode cX2_depth 3 = .ok (.istore_n 3, 1) := by decide +kernel
theorem dX2_depth_4 : decode cX2_depth 4 = .ok (.iload_n 3, 1) := by decide +kernel
theorem dX2_depth_5 : decode cX2_depth 5 = .ok (.aload_n 0, 1) := by decide +kernel
theorem dX2_depth_6 : decode cX2_depth 6 = .ok (.getfield 22, 3) := by decide +kernel
theorem dX2_depth_9 : decode cX2_depth 9 = .ok (.if_icmp .ge 26, 3) := by decide +kernel
theorem dX2_depth_12 : decode cX2_depth 12 = .ok (.iload_n 3, 1) := by decide +kernel
theorem dX2_depth_13 : decode cX2_depth 13 = .ok (.iload_n 1, 1) := by decide +kernel
theorem dX2_depth_14 : decode cX2_depth 14 = .ok (.if_icmp .eq 15, 3) := by decide +kernel
theorem dX2_depth_17 : decode cX2_depth 17 = .ok (.aload_n 0, 1) := by decide +kernel
theorem dX2_depth_18 : decode cX2_depth 18 = .ok (.iload_n 1, 1) := by decide +kernel
theorem dX2_depth_19 : decode cX2_depth 19 = .ok (.iload_n 3, 1) := by decide +kernel
theorem dX2_depth_20 : decode cX2_depth 20 = .ok (.invokevirtual 56, 3) := by decide +kernel
theorem dX2_depth_23 : decode cX2_depth 23 = .ok (.ifCond .eq 6, 3) := by decide +kernel
theorem dX2_depth_26 : decode cX2_depth 26 = .ok (.iinc 2 1, 3) := by decide +kernel
theorem dX2_depth_29 : decode cX2_depth 29 = .ok (.iinc 3 1, 3) := by decide +kernel
theorem dX2_depth_32 : decode cX2_depth 32 = .ok (.goto (-28), 3) := by decide +kernel
theorem dX2_depth_35 : decode cX2_depth 35 = .ok (.iload_n 2, 1) := by decide +kernel
theorem dX2_depth_36 : decode cX2_depth 36 = .ok (.ireturn, 1) := by decide +kernel
theorem dX1_canRecompute_0 : decode cX1_canRecompute 0 = .ok (.aload_n 0, 1) := by decide +kernel
theorem dX1_canRecompute_1 : decode cX1_canRecompute 1 = .ok (.iconst 0, 1) := by decide +kernel
theorem dX1_canRecompute_2 : decode cX1_canRecompute 2 = .ok (.invokevirtual 76, 3) := by decide +kernel
theorem dX1_canRecompute_5 : decode cX1_canRecompute 5 = .ok (.iload_n 1, 1) := by decide +kernel
theorem dX1_canRecompute_6 : decode cX1_canRecompute 6 = .ok (.invokestatic 72, 3) := by decide +kernel
theorem dX1_canRecompute_9 : decode cX1_canRecompute 9 = .ok (.ifCond .eq 7, 3) := by decide +kernel
theorem dX1_canRecompute_12 : decode cX1_canRecompute 12 = .ok (.iconst 1, 1) := by decide +kernel
theorem dX1_canRecompute_13 : decode cX1_canRecompute 13 = .ok (.goto 4, 3) := by decide +kernel
theorem dX1_canRecompute_16 : decode cX1_canRecompute 16 = .ok (.iconst 0, 1) := by decide +kernel
theorem dX1_canRecompute_17 : decode cX1_canRecompute 17 = .ok (.istore_n 2, 1) := by decide +kernel
theorem dX1_canRecompute_18 : decode cX1_canRecompute 18 = .ok (.iconst 0, 1) := by decide +kernel
theorem dX1_canRecompute_19 : decode cX1_canRecompute 19 = .ok (.istore_n 3, 1) := by decide +kernel
theorem dX1_canRecompute_20 : decode cX1_canRecompute 20 = .ok (.iload_n 3, 1) := by decide +kernel
theorem dX1_canRecompute_21 : decode cX1_canRecompute 21 = .ok (.aload_n 0, 1) := by decide +kernel
theorem dX1_canRecompute_22 : decode cX1_canRecompute 22 = .ok (.getfield 30, 3) := by decide +kernel
theorem dX1_canRecompute_25 : decode cX1_canRecompute 25 = .ok (.getfield 49, 3) := by decide +kernel
theorem dX1_canRecompute_28 : decode cX1_canRecompute 28 = .ok (.if_icmp .ge 23, 3) := by decide +kernel
theorem dX1_canRecompute_31 : decode cX1_canRecompute 31 = .ok (.iload_n 2, 1) := by decide +kernel
theorem dX1_canRecompute_32 : decode cX1_canRecompute 32 = .ok (.aload_n 0, 1) := by decide +kernel
theorem dX1_canRecompute_33 : decode cX1_canRecompute 33 = .ok (.getfield 18, 3) := by decide +kernel
theorem dX1_canRecompute_36 : decode cX1_canRecompute 36 = .ok (.iload_n 3, 1) := by decide +kernel
theorem dX1_canRecompute_37 : decode cX1_canRecompute 37 = .ok (.bipush 12, 2) := by decide +kernel
theorem dX1_canRecompute_39 : decode cX1_canRecompute 39 = .ok (.imul, 1) := by decide +kernel
theorem dX1_canRecompute_40 : decode cX1_canRecompute 40 = .ok (.iload_n 1, 1) := by decide +kernel
theorem dX1_canRecompute_41 : decode cX1_canRecompute 41 = .ok (.iadd, 1) := by decide +kernel
theorem dX1_canRecompute_42 : decode cX1_canRecompute 42 = .ok (.iaload, 1) := by decide +kernel
theorem dX1_canRecompute_43 : decode cX1_canRecompute 43 = .ok (.iadd, 1) := by decide +kernel
theorem dX1_canRecompute_44 : decode cX1_canRecompute 44 = .ok (.istore_n 2, 1) := by decide +kernel
theorem dX1_canRecompute_45 : decode cX1_canRecompute 45 = .ok (.iinc 3 1, 3) := by decide +kernel
theorem dX1_canRecompute_48 : decode cX1_canRecompute 48 = .ok (.goto (-28), 3) := by decide +kernel
theorem dX1_canRecompute_51 : decode cX1_canRecompute 51 = .ok (.iload_n 2, 1) := by decide +kernel
theorem dX1_canRecompute_52 : decode cX1_canRecompute 52 = .ok (.iconst 1, 1) := by decide +kernel
theorem dX1_canRecompute_53 : decode cX1_canRecompute 53 = .ok (.if_icmp .ne 17, 3) := by decide +kernel
theorem dX1_canRecompute_56 : decode cX1_canRecompute 56 = .ok (.aload_n 0, 1) := by decide +kernel
theorem dX1_canRecompute_57 : decode cX1_canRecompute 57 = .ok (.getfield 24, 3) := by decide +kernel
theorem dX1_canRecompute_60 : decode cX1_canRecompute 60 = .ok (.iload_n 1, 1) := by decide +kernel
theorem dX1_canRecompute_61 : decode cX1_canRecompute 61 = .ok (.iaload, 1) := by decide +kernel
theorem dX1_canRecompute_62 : decode cX1_canRecompute 62 = .ok (.iconst 1, 1) := by decide +kernel
theorem dX1_canRecompute_63 : decode cX1_canRecompute 63 = .ok (.if_icmp .ne 7, 3) := by decide +kernel
theorem dX1_canRecompute_66 : decode cX1_canRecompute 66 = .ok (.iconst 1, 1) := by decide +kernel
theorem dX1_canRecompute_67 : decode cX1_canRecompute 67 = .ok (.goto 4, 3) := by decide +kernel
theorem dX1_canRecompute_70 : decode cX1_canRecompute 70 = .ok (.iconst 0, 1) := by decide +kernel
theorem dX1_canRecompute_71 : decode cX1_canRecompute 71 = .ok (.ireturn, 1) := by decide +kernel
theorem dX1_recomputingCost_0 : decode cX1_recomputingCost 0 = .ok (.iconst 0, 1) := by decide +kernel
theorem dX1_recomputingCost_1 : decode cX1_recomputingCost 1 = .ok (.istore_n 2, 1) := by decide +kernel
theorem dX1_recomputingCost_2 : decode cX1_recomputingCost 2 = .ok (.iconst 0, 1) := by decide +kernel
theorem dX1_recomputingCost_3 : decode cX1_recomputingCost 3 = .ok (.istore_n 3, 1) := by decide +kernel
theorem dX1_recomputingCost_4 : decode cX1_recomputingCost 4 = .ok (.iload_n 3, 1) := by decide +kernel
theorem dX1_recomputingCost_5 : decode cX1_recomputingCost 5 = .ok (.aload_n 0, 1) := by decide +kernel
theorem dX1_recomputingCost_6 : decode cX1_recomputingCost 6 = .ok (.getfield 30, 3) := by decide +kernel
theorem dX1_recomputingCost_9 : decode cX1_recomputingCost 9 = .ok (.getfield 49, 3) := by decide +kernel
theorem dX1_recomputingCost_12 : decode cX1_recomputingCost 12 = .ok (.if_icmp .ge 36, 3) := by decide +kernel
theorem dX1_recomputingCost_15 : decode cX1_recomputingCost 15 = .ok (.iload_n 2, 1) := by decide +kernel
theorem dX1_recomputingCost_16 : decode cX1_recomputingCost 16 = .ok (.aload_n 0, 1) := by decide +kernel
theorem dX1_recomputingCost_17 : decode cX1_recomputingCost 17 = .ok (.getfield 30, 3) := by decide +kernel
theorem dX1_recomputingCost_20 : decode cX1_recomputingCost 20 = .ok (.getfield 59, 3) := by decide +kernel
theorem dX1_recomputingCost_23 : decode cX1_recomputingCost 23 = .ok (.iload_n 3, 1) := by decide +kernel
theorem dX1_recomputingCost_24 : decode cX1_recomputingCost 24 = .ok (.aaload, 1) := by decide +kernel
theorem dX1_recomputingCost_25 : decode cX1_recomputingCost 25 = .ok (.getfield 124, 3) := by decide +kernel
theorem dX1_recomputingCost_28 : decode cX1_recomputingCost 28 = .ok (.aload_n 0, 1) := by decide +kernel
theorem dX1_recomputingCost_29 : decode cX1_recomputingCost 29 = .ok (.getfield 15, 3) := by decide +kernel
theorem dX1_recomputingCost_32 : decode cX1_recomputingCost 32 = .ok (.iload_n 3, 1) := by decide +kernel
theorem dX1_recomputingCost_33 : decode cX1_recomputingCost 33 = .ok (.bipush 12, 2) := by decide +kernel
theorem dX1_recomputingCost_35 : decode cX1_recomputingCost 35 = .ok (.imul, 1) := by decide +kernel
theorem dX1_recomputingCost_36 : decode cX1_recomputingCost 36 = .ok (.iload_n 1, 1) := by decide +kernel
theorem dX1_recomputingCost_37 : decode cX1_recomputingCost 37 = .ok (.iadd, 1) := by decide +kernel
theorem dX1_recomputingCost_38 : decode cX1_recomputingCost 38 = .ok (.iaload, 1) := by decide +kernel
theorem dX1_recomputingCost_39 : decode cX1_recomputingCost 39 = .ok (.imul, 1) := by decide +kernel
theorem dX1_recomputingCost_40 : decode cX1_recomputingCost 40 = .ok (.iadd, 1) := by decide +kernel
theorem dX1_recomputingCost_41 : decode cX1_recomputingCost 41 = .ok (.istore_n 2, 1) := by decide +kernel
theorem dX1_recomputingCost_42 : decode cX1_recomputingCost 42 = .ok (.iinc 3 1, 3) := by decide +kernel
theorem dX1_recomputingCost_45 : decode cX1_recomputingCost 45 = .ok (.goto (-41), 3) := by decide +kernel
theorem dX1_recomputingCost_48 : decode cX1_recomputingCost 48 = .ok (.iload_n 2, 1) := by decide +kernel
theorem dX1_recomputingCost_49 : decode cX1_recomputingCost 49 = .ok (.ireturn, 1) := by decide +kernel
theorem dX1_mentionWeight_0 : decode cX1_mentionWeight 0 = .ok (.iload_n 1, 1) := by decide +kernel
theorem dX1_mentionWeight_1 : decode cX1_mentionWeight 1 = .ok (.bipush 12, 2) := by decide +kernel
theorem dX1_mentionWeight_3 : decode cX1_mentionWeight 3 = .ok (.imul, 1) := by decide +kernel
theorem dX1_mentionWeight_4 : decode cX1_mentionWeight 4 = .ok (.iload_n 2, 1) := by decide +kernel
theorem dX1_mentionWeight_5 : decode cX1_mentionWeight 5 = .ok (.iadd, 1) := by decide +kernel
theorem dX1_mentionWeight_6 : decode cX1_mentionWeight 6 = .ok (.istore_n 3, 1) := by decide +kernel
theorem dX1_mentionWeight_7 : decode cX1_mentionWeight 7 = .ok (.aload_n 0, 1) := by decide +kernel
theorem dX1_mentionWeight_8 : decode cX1_mentionWeight 8 = .ok (.getfield 30, 3) := by decide +kernel
theorem dX1_mentionWeight_11 : decode cX1_mentionWeight 11 = .ok (.getfield 59, 3) := by decide +kernel
theorem dX1_mentionWeight_14 : decode cX1_mentionWeight 14 = .ok (.iload_n 1, 1) := by decide +kernel
theorem dX1_mentionWeight_15 : decode cX1_mentionWeight 15 = .ok (.aaload, 1) := by decide +kernel
theorem dX1_mentionWeight_16 : decode cX1_mentionWeight 16 = .ok (.getfield 124, 3) := by decide +kernel
theorem dX1_mentionWeight_19 : decode cX1_mentionWeight 19 = .ok (.aload_n 0, 1) := by decide +kernel
theorem dX1_mentionWeight_20 : decode cX1_mentionWeight 20 = .ok (.getfield 15, 3) := by decide +kernel
theorem dX1_mentionWeight_23 : decode cX1_mentionWeight 23 = .ok (.iload_n 3, 1) := by decide +kernel
theorem dX1_mentionWeight_24 : decode cX1_mentionWeight 24 = .ok (.iaload, 1) := by decide +kernel
theorem dX1_mentionWeight_25 : decode cX1_mentionWeight 25 = .ok (.aload_n 0, 1) := by decide +kernel
theorem dX1_mentionWeight_26 : decode cX1_mentionWeight 26 = .ok (.getfield 18, 3) := by decide +kernel
theorem dX1_mentionWeight_29 : decode cX1_mentionWeight 29 = .ok (.iload_n 3, 1) := by decide +kernel
theorem dX1_mentionWeight_30 : decode cX1_mentionWeight 30 = .ok (.iaload, 1) := by decide +kernel
theorem dX1_mentionWeight_31 : decode cX1_mentionWeight 31 = .ok (.iadd, 1) := by decide +kernel
theorem dX1_mentionWeight_32 : decode cX1_mentionWeight 32 = .ok (.imul, 1) := by decide +kernel
theorem dX1_mentionWeight_33 : decode cX1_mentionWeight 33 = .ok (.ireturn, 1) := by decide +kernel
theorem dX1_memoryCost_0 : decode cX1_memoryCost 0 = .ok (.iconst 0, 1) := by decide +kernel
theorem dX1_memoryCost_1 : decode cX1_memoryCost 1 = .ok (.istore_n 2, 1) := by decide +kernel
theorem dX1_memoryCost_2 : decode cX1_memoryCost 2 = .ok (.iconst 0, 1) := by decide +kernel
theorem dX1_memoryCost_3 : decode cX1_memoryCost 3 = .ok (.istore_n 3, 1) := by decide +kernel
theorem dX1_memoryCost_4 : decode cX1_memoryCost 4 = .ok (.iload_n 3, 1) := by decide +kernel
theorem dX1_memoryCost_5 : decode cX1_memoryCost 5 = .ok (.aload_n 0, 1) := by decide +kernel
theorem dX1_memoryCost_6 : decode cX1_memoryCost 6 = .ok (.getfield 30, 3) := by decide +kernel
theorem dX1_memoryCost_9 : decode cX1_memoryCost 9 = .ok (.getfield 49, 3) := by decide +kernel
theorem dX1_memoryCost_12 : decode cX1_memoryCost 12 = .ok (.if_icmp .ge 18, 3) := by decide +kernel
theorem dX1_memoryCost_15 : decode cX1_memoryCost 15 = .ok (.iload_n 2, 1) := by decide +kernel
theorem dX1_memoryCost_16 : decode cX1_memoryCost 16 = .ok (.aload_n 0, 1) := by decide +kernel
theorem dX1_memoryCost_17 : decode cX1_memoryCost 17 = .ok (.iload_n 3, 1) := by decide +kernel
theorem dX1_memoryCost_18 : decode cX1_memoryCost 18 = .ok (.iload_n 1, 1) := by decide +kernel
theorem dX1_memoryCost_19 : decode cX1_memoryCost 19 = .ok (.invokevirtual 121, 3) := by decide +kernel
theorem dX1_memoryCost_22 : decode cX1_memoryCost 22 = .ok (.iadd, 1) := by decide +kernel
theorem dX1_memoryCost_23 : decode cX1_memoryCost 23 = .ok (.istore_n 2, 1) := by decide +kernel
theorem dX1_memoryCost_24 : decode cX1_memoryCost 24 = .ok (.iinc 3 1, 3) := by decide +kernel
theorem dX1_memoryCost_27 : decode cX1_memoryCost 27 = .ok (.goto (-23), 3) := by decide +kernel
theorem dX1_memoryCost_30 : decode cX1_memoryCost 30 = .ok (.aload_n 0, 1) := by decide +kernel
theorem dX1_memoryCost_31 : decode cX1_memoryCost 31 = .ok (.iconst 0, 1) := by decide +kernel
theorem dX1_memoryCost_32 : decode cX1_memoryCost 32 = .ok (.invokevirtual 76, 3) := by decide +kernel
theorem dX1_memoryCost_35 : decode cX1_memoryCost 35 = .ok (.iload_n 1, 1) := by decide +kernel
theorem dX1_memoryCost_36 : decode cX1_memoryCost 36 = .ok (.invokestatic 72, 3) := by decide +kernel
theorem dX1_memoryCost_39 : decode cX1_memoryCost 39 = .ok (.ifCond .eq 18, 3) := by decide +kernel
theorem dX1_memoryCost_42 : decode cX1_memoryCost 42 = .ok (.iload_n 2, 1) := by decide +kernel
theorem dX1_memoryCost_43 : decode cX1_memoryCost 43 = .ok (.aload_n 0, 1) := by decide +kernel
theorem dX1_memoryCost_44 : decode cX1_memoryCost 44 = .ok (.getfield 30, 3) := by decide +kernel
theorem dX1_memoryCost_47 : decode cX1_memoryCost 47 = .ok (.getfield 59, 3) := by decide +kernel
theorem dX1_memoryCost_50 : decode cX1_memoryCost 50 = .ok (.iconst 0, 1) := by decide +kernel
theorem dX1_memoryCost_51 : decode cX1_memoryCost 51 = .ok (.aaload, 1) := by decide +kernel
theorem dX1_memoryCost_52 : decode cX1_memoryCost 52 = .ok (.getfield 124, 3) := by decide +kernel
theorem dX1_memoryCost_55 : decode cX1_memoryCost 55 = .ok (.iadd, 1) := by decide +kernel
theorem dX1_memoryCost_56 : decode cX1_memoryCost 56 = .ok (.istore_n 2, 1) := by decide +kernel
theorem dX1_memoryCost_57 : decode cX1_memoryCost 57 = .ok (.iconst 3, 1) := by decide +kernel
theorem dX1_memoryCost_58 : decode cX1_memoryCost 58 = .ok (.iload_n 2, 1) := by decide +kernel
theorem dX1_memoryCost_59 : decode cX1_memoryCost 59 = .ok (.imul, 1) := by decide +kernel
theorem dX1_memoryCost_60 : decode cX1_memoryCost 60 = .ok (.ireturn, 1) := by decide +kernel
theorem dX1_countedIn_0 : decode cX1_countedIn 0 = .ok (.iconst 0, 1) := by decide +kernel
theorem dX1_countedIn_1 : decode cX1_countedIn 1 = .ok (.istore_n 2, 1) := by decide +kernel
theorem dX1_countedIn_2 : decode cX1_countedIn 2 = .ok (.iconst 0, 1) := by decide +kernel
theorem dX1_countedIn_3 : decode cX1_countedIn 3 = .ok (.istore_n 3, 1) := by decide +kernel
theorem dX1_countedIn_4 : decode cX1_countedIn 4 = .ok (.iload_n 3, 1) := by decide +kernel
theorem dX1_countedIn_5 : decode cX1_countedIn 5 = .ok (.bipush 12, 2) := by decide +kernel
theorem dX1_countedIn_7 : decode cX1_countedIn 7 = .ok (.if_icmp .ge 26, 3) := by decide +kernel
theorem dX1_countedIn_10 : decode cX1_countedIn 10 = .ok (.aload_n 1, 1) := by decide +kernel
theorem dX1_countedIn_11 : decode cX1_countedIn 11 = .ok (.iload_n 0, 1) := by decide +kernel
theorem dX1_countedIn_12 : decode cX1_countedIn 12 = .ok (.bipush 12, 2) := by decide +kernel
theorem dX1_countedIn_14 : decode cX1_countedIn 14 = .ok (.imul, 1) := by decide +kernel
theorem dX1_countedIn_15 : decode cX1_countedIn 15 = .ok (.iload_n 3, 1) := by decide +kernel
theorem dX1_countedIn_16 : decode cX1_countedIn 16 = .ok (.iadd, 1) := by decide +kernel
theorem dX1_countedIn_17 : decode cX1_countedIn 17 = .ok (.iaload, 1) := by decide +kernel
theorem dX1_countedIn_18 : decode cX1_countedIn 18 = .ok (.ifCond .le 9, 3) := by decide +kernel
theorem dX1_countedIn_21 : decode cX1_countedIn 21 = .ok (.iload_n 2, 1) := by decide +kernel
theorem dX1_countedIn_22 : decode cX1_countedIn 22 = .ok (.iconst 1, 1) := by decide +kernel
theorem dX1_countedIn_23 : decode cX1_countedIn 23 = .ok (.iload_n 3, 1) := by decide +kernel
theorem dX1_countedIn_24 : decode cX1_countedIn 24 = .ok (.ishl, 1) := by decide +kernel
theorem dX1_countedIn_25 : decode cX1_countedIn 25 = .ok (.ior, 1) := by decide +kernel
theorem dX1_countedIn_26 : decode cX1_countedIn 26 = .ok (.istore_n 2, 1) := by decide +kernel
theorem dX1_countedIn_27 : decode cX1_countedIn 27 = .ok (.iinc 3 1, 3) := by decide +kernel
theorem dX1_countedIn_30 : decode cX1_countedIn 30 = .ok (.goto (-26), 3) := by decide +kernel
theorem dX1_countedIn_33 : decode cX1_countedIn 33 = .ok (.iload_n 2, 1) := by decide +kernel
theorem dX1_countedIn_34 : decode cX1_countedIn 34 = .ok (.ireturn, 1) := by decide +kernel
theorem dX1_definedIn_0 : decode cX1_definedIn 0 = .ok (.iload_n 1, 1) := by decide +kernel
theorem dX1_definedIn_1 : decode cX1_definedIn 1 = .ok (.aload_n 0, 1) := by decide +kernel
theorem dX1_definedIn_2 : decode cX1_definedIn 2 = .ok (.getfield 18, 3) := by decide +kernel
theorem dX1_definedIn_5 : decode cX1_definedIn 5 = .ok (.invokestatic 114, 3) := by decide +kernel
theorem dX1_definedIn_8 : decode cX1_definedIn 8 = .ok (.ireturn, 1) := by decide +kernel
theorem dX1_mentionedIn_0 : decode cX1_mentionedIn 0 = .ok (.iload_n 1, 1) := by decide +kernel
theorem dX1_mentionedIn_1 : decode cX1_mentionedIn 1 = .ok (.aload_n 0, 1) := by decide +kernel
theorem dX1_mentionedIn_2 : decode cX1_mentionedIn 2 = .ok (.getfield 15, 3) := by decide +kernel
theorem dX1_mentionedIn_5 : decode cX1_mentionedIn 5 = .ok (.invokestatic 114, 3) := by decide +kernel
theorem dX1_mentionedIn_8 : decode cX1_mentionedIn 8 = .ok (.aload_n 0, 1) := by decide +kernel
theorem dX1_mentionedIn_9 : decode cX1_mentionedIn 9 = .ok (.iload_n 1, 1) := by decide +kernel
theorem dX1_mentionedIn_10 : decode cX1_mentionedIn 10 = .ok (.invokevirtual 118, 3) := by decide +kernel
theorem dX1_mentionedIn_13 : decode cX1_mentionedIn 13 = .ok (.ior, 1) := by decide +kernel
theorem dX1_mentionedIn_14 : decode cX1_mentionedIn 14 = .ok (.ireturn, 1) := by decide +kernel
theorem dX1_usedVariables_0 : decode cX1_usedVariables 0 = .ok (.iconst 0, 1) := by decide +kernel
theorem dX1_usedVariables_1 : decode cX1_usedVariables 1 = .ok (.istore_n 1, 1) := by decide +kernel
theorem dX1_usedVariables_2 : decode cX1_usedVariables 2 = .ok (.iconst 0, 1) := by decide +kernel
theorem dX1_usedVariables_3 : decode cX1_usedVariables 3 = .ok (.istore_n 2, 1) := by decide +kernel
theorem dX1_usedVariables_4 : decode cX1_usedVariables 4 = .ok (.iload_n 2, 1) := by decide +kernel
theorem dX1_usedVariables_5 : decode cX1_usedVariables 5 = .ok (.aload_n 0, 1) := by decide +kernel
theorem dX1_usedVariables_6 : decode cX1_usedVariables 6 = .ok (.getfield 30, 3) := by decide +kernel
theorem dX1_usedVariables_9 : decode cX1_usedVariables 9 = .ok (.getfield 49, 3) := by decide +kernel
theorem dX1_usedVariables_12 : decode cX1_usedVariables 12 = .ok (.if_icmp .ge 17, 3) := by decide +kernel
theorem dX1_usedVariables_15 : decode cX1_usedVariables 15 = .ok (.iload_n 1, 1) := by decide +kernel
theorem dX1_usedVariables_16 : decode cX1_usedVariables 16 = .ok (.aload_n 0, 1) := by decide +kernel
theorem dX1_usedVariables_17 : decode cX1_usedVariables 17 = .ok (.iload_n 2, 1) := by decide +kernel
theorem dX1_usedVariables_18 : decode cX1_usedVariables 18 = .ok (.invokevirtual 111, 3) := by decide +kernel
theorem dX1_usedVariables_21 : decode cX1_usedVariables 21 = .ok (.ior, 1) := by decide +kernel
theorem dX1_usedVariables_22 : decode cX1_usedVariables 22 = .ok (.istore_n 1, 1) := by decide +kernel
theorem dX1_usedVariables_23 : decode cX1_usedVariables 23 = .ok (.iinc 2 1, 3) := by decide +kernel
theorem dX1_usedVariables_26 : decode cX1_usedVariables 26 = .ok (.goto (-22), 3) := by decide +kernel
theorem dX1_usedVariables_29 : decode cX1_usedVariables 29 = .ok (.iload_n 1, 1) := by decide +kernel
theorem dX1_usedVariables_30 : decode cX1_usedVariables 30 = .ok (.ireturn, 1) := by decide +kernel
theorem dX5_placeUsedInRegisters_0 : decode cX5_placeUsedInRegisters 0 = .ok (.aload_n 0, 1) := by decide +kernel
theorem dX5_placeUsedInRegisters_1 : decode cX5_placeUsedInRegisters 1 = .ok (.getfield 34, 3) := by decide +kernel
theorem dX5_placeUsedInRegisters_4 : decode cX5_placeUsedInRegisters 4 = .ok (.invokevirtual 79, 3) := by decide +kernel
