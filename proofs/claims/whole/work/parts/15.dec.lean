theorem dX5_placeUsedInRegisters_7 : decode cX5_placeUsedInRegisters 7 = .ok (.istore_n 1, 1) := by decide +kernel
theorem dX5_placeUsedInRegisters_8 : decode cX5_placeUsedInRegisters 8 = .ok (.iconst 0, 1) := by decide +kernel
theorem dX5_placeUsedInRegisters_9 : decode cX5_placeUsedInRegisters 9 = .ok (.istore_n 2, 1) := by decide +kernel
theorem dX5_placeUsedInRegisters_10 : decode cX5_placeUsedInRegisters 10 = .ok (.iload_n 2, 1) := by decide +kernel
theorem dX5_placeUsedInRegisters_11 : decode cX5_placeUsedInRegisters 11 = .ok (.bipush 12, 2) := by decide +kernel
theorem dX5_placeUsedInRegisters_13 : decode cX5_placeUsedInRegisters 13 = .ok (.if_icmp .ge 28, 3) := by decide +kernel
theorem dX5_placeUsedInRegisters_16 : decode cX5_placeUsedInRegisters 16 = .ok (.aload_n 0, 1) := by decide +kernel
theorem dX5_placeUsedInRegisters_17 : decode cX5_placeUsedInRegisters 17 = .ok (.getfield 9, 3) := by decide +kernel
theorem dX5_placeUsedInRegisters_20 : decode cX5_placeUsedInRegisters 20 = .ok (.iload_n 2, 1) := by decide +kernel
theorem dX5_placeUsedInRegisters_21 : decode cX5_placeUsedInRegisters 21 = .ok (.iload_n 1, 1) := by decide +kernel
theorem dX5_placeUsedInRegisters_22 : decode cX5_placeUsedInRegisters 22 = .ok (.iload_n 2, 1) := by decide +kernel
theorem dX5_placeUsedInRegisters_23 : decode cX5_placeUsedInRegisters 23 = .ok (.invokestatic 83, 3) := by decide +kernel
theorem dX5_placeUsedInRegisters_26 : decode cX5_placeUsedInRegisters 26 = .ok (.ifCond .eq 7, 3) := by decide +kernel
theorem dX5_placeUsedInRegisters_29 : decode cX5_placeUsedInRegisters 29 = .ok (.iconst 0, 1) := by decide +kernel
theorem dX5_placeUsedInRegisters_30 : decode cX5_placeUsedInRegisters 30 = .ok (.goto 4, 3) := by decide +kernel
theorem dX5_placeUsedInRegisters_33 : decode cX5_placeUsedInRegisters 33 = .ok (.iconst (-1), 1) := by decide +kernel
theorem dX5_placeUsedInRegisters_34 : decode cX5_placeUsedInRegisters 34 = .ok (.iastore, 1) := by decide +kernel
theorem dX5_placeUsedInRegisters_35 : decode cX5_placeUsedInRegisters 35 = .ok (.iinc 2 1, 3) := by decide +kernel
theorem dX5_placeUsedInRegisters_38 : decode cX5_placeUsedInRegisters 38 = .ok (.goto (-28), 3) := by decide +kernel
theorem dX5_placeUsedInRegisters_41 : decode cX5_placeUsedInRegisters 41 = .ok (.return_, 1) := by decide +kernel
theorem dX5_variablesAt_0 : decode cX5_variablesAt 0 = .ok (.iconst 0, 1) := by decide +kernel
theorem dX5_variablesAt_1 : decode cX5_variablesAt 1 = .ok (.istore_n 2, 1) := by decide +kernel
theorem dX5_variablesAt_2 : decode cX5_variablesAt 2 = .ok (.iconst 0, 1) := by decide +kernel
theorem dX5_variablesAt_3 : decode cX5_variablesAt 3 = .ok (.istore_n 3, 1) := by decide +kernel
theorem dX5_variablesAt_4 : decode cX5_variablesAt 4 = .ok (.iload_n 3, 1) := by decide +kernel
theorem dX5_variablesAt_5 : decode cX5_variablesAt 5 = .ok (.bipush 12, 2) := by decide +kernel
theorem dX5_variablesAt_7 : decode cX5_variablesAt 7 = .ok (.if_icmp .ge 25, 3) := by decide +kernel
theorem dX5_variablesAt_10 : decode cX5_variablesAt 10 = .ok (.aload_n 0, 1) := by decide +kernel
theorem dX5_variablesAt_11 : decode cX5_variablesAt 11 = .ok (.getfield 9, 3) := by decide +kernel
theorem dX5_variablesAt_14 : decode cX5_variablesAt 14 = .ok (.iload_n 3, 1) := by decide +kernel
theorem dX5_variablesAt_15 : decode cX5_variablesAt 15 = .ok (.iaload, 1) := by decide +kernel
theorem dX5_variablesAt_16 : decode cX5_variablesAt 16 = .ok (.iload_n 1, 1) := by decide +kernel
theorem dX5_variablesAt_17 : decode cX5_variablesAt 17 = .ok (.if_icmp .ne 9, 3) := by decide +kernel
theorem dX5_variablesAt_20 : decode cX5_variablesAt 20 = .ok (.iload_n 2, 1) := by decide +kernel
theorem dX5_variablesAt_21 : decode cX5_variablesAt 21 = .ok (.iconst 1, 1) := by decide +kernel
theorem dX5_variablesAt_22 : decode cX5_variablesAt 22 = .ok (.iload_n 3, 1) := by decide +kernel
theorem dX5_variablesAt_23 : decode cX5_variablesAt 23 = .ok (.ishl, 1) := by decide +kernel
theorem dX5_variablesAt_24 : decode cX5_variablesAt 24 = .ok (.ior, 1) := by decide +kernel
theorem dX5_variablesAt_25 : decode cX5_variablesAt 25 = .ok (.istore_n 2, 1) := by decide +kernel
theorem dX5_variablesAt_26 : decode cX5_variablesAt 26 = .ok (.iinc 3 1, 3) := by decide +kernel
theorem dX5_variablesAt_29 : decode cX5_variablesAt 29 = .ok (.goto (-25), 3) := by decide +kernel
theorem dX5_variablesAt_32 : decode cX5_variablesAt 32 = .ok (.iload_n 2, 1) := by decide +kernel
theorem dX5_variablesAt_33 : decode cX5_variablesAt 33 = .ok (.ireturn, 1) := by decide +kernel
theorem dX9_lowestMissing_0 : decode cX9_lowestMissing 0 = .ok (.iconst 0, 1) := by decide +kernel
theorem dX9_lowestMissing_1 : decode cX9_lowestMissing 1 = .ok (.istore_n 1, 1) := by decide +kernel
theorem dX9_lowestMissing_2 : decode cX9_lowestMissing 2 = .ok (.iload_n 1, 1) := by decide +kernel
theorem dX9_lowestMissing_3 : decode cX9_lowestMissing 3 = .ok (.bipush 12, 2) := by decide +kernel
theorem dX9_lowestMissing_5 : decode cX9_lowestMissing 5 = .ok (.if_icmp .ge 17, 3) := by decide +kernel
theorem dX9_lowestMissing_8 : decode cX9_lowestMissing 8 = .ok (.iload_n 0, 1) := by decide +kernel
theorem dX9_lowestMissing_9 : decode cX9_lowestMissing 9 = .ok (.iload_n 1, 1) := by decide +kernel
theorem dX9_lowestMissing_10 : decode cX9_lowestMissing 10 = .ok (.invokestatic 376, 3) := by decide +kernel
theorem dX9_lowestMissing_13 : decode cX9_lowestMissing 13 = .ok (.ifCond .eq 9, 3) := by decide +kernel
theorem dX9_lowestMissing_16 : decode cX9_lowestMissing 16 = .ok (.iinc 1 1, 3) := by decide +kernel
theorem dX9_lowestMissing_19 : decode cX9_lowestMissing 19 = .ok (.goto (-17), 3) := by decide +kernel
theorem dX9_lowestMissing_22 : decode cX9_lowestMissing 22 = .ok (.iload_n 1, 1) := by decide +kernel
theorem dX9_lowestMissing_23 : decode cX9_lowestMissing 23 = .ok (.ireturn, 1) := by decide +kernel
theorem dX9_colourGreedily_0 : decode cX9_colourGreedily 0 = .ok (.iconst 0, 1) := by decide +kernel
theorem dX9_colourGreedily_1 : decode cX9_colourGreedily 1 = .ok (.istore_n 3, 1) := by decide +kernel
theorem dX9_colourGreedily_2 : decode cX9_colourGreedily 2 = .ok (.iload_n 3, 1) := by decide +kernel
theorem dX9_colourGreedily_3 : decode cX9_colourGreedily 3 = .ok (.bipush 12, 2) := by decide +kernel
theorem dX9_colourGreedily_5 : decode cX9_colourGreedily 5 = .ok (.if_icmp .ge 71, 3) := by decide +kernel
theorem dX9_colourGreedily_8 : decode cX9_colourGreedily 8 = .ok (.aload_n 2, 1) := by decide +kernel
theorem dX9_colourGreedily_9 : decode cX9_colourGreedily 9 = .ok (.iload_n 3, 1) := by decide +kernel
theorem dX9_colourGreedily_10 : decode cX9_colourGreedily 10 = .ok (.iconst (-1), 1) := by decide +kernel
theorem dX9_colourGreedily_11 : decode cX9_colourGreedily 11 = .ok (.iastore, 1) := by decide +kernel
theorem dX9_colourGreedily_12 : decode cX9_colourGreedily 12 = .ok (.iload_n 0, 1) := by decide +kernel
theorem dX9_colourGreedily_13 : decode cX9_colourGreedily 13 = .ok (.iload_n 3, 1) := by decide +kernel
theorem dX9_colourGreedily_14 : decode cX9_colourGreedily 14 = .ok (.invokestatic 376, 3) := by decide +kernel
theorem dX9_colourGreedily_17 : decode cX9_colourGreedily 17 = .ok (.ifCond .eq 53, 3) := by decide +kernel
theorem dX9_colourGreedily_20 : decode cX9_colourGreedily 20 = .ok (.iconst 0, 1) := by decide +kernel
theorem dX9_colourGreedily_21 : decode cX9_colourGreedily 21 = .ok (.istore 4, 2) := by decide +kernel
theorem dX9_colourGreedily_23 : decode cX9_colourGreedily 23 = .ok (.iconst 0, 1) := by decide +kernel
theorem dX9_colourGreedily_24 : decode cX9_colourGreedily 24 = .ok (.istore 5, 2) := by decide +kernel
theorem dX9_colourGreedily_26 : decode cX9_colourGreedily 26 = .ok (.iload 5, 2) := by decide +kernel
theorem dX9_colourGreedily_28 : decode cX9_colourGreedily 28 = .ok (.iload_n 3, 1) := by decide +kernel
theorem dX9_colourGreedily_29 : decode cX9_colourGreedily 29 = .ok (.if_icmp .ge 33, 3) := by decide +kernel
theorem dX9_colourGreedily_32 : decode cX9_colourGreedily 32 = .ok (.iload_n 0, 1) := by decide +kernel
theorem dX9_colourGreedily_33 : decode cX9_colourGreedily 33 = .ok (.aload_n 1, 1) := by decide +kernel
theorem dX9_colourGreedily_34 : decode cX9_colourGreedily 34 = .ok (.iload_n 3, 1) := by decide +kernel
theorem dX9_colourGreedily_35 : decode cX9_colourGreedily 35 = .ok (.iaload, 1) := by decide +kernel
theorem dX9_colourGreedily_36 : decode cX9_colourGreedily 36 = .ok (.iand, 1) := by decide +kernel
theorem dX9_colourGreedily_37 : decode cX9_colourGreedily 37 = .ok (.iload 5, 2) := by decide +kernel
theorem dX9_colourGreedily_39 : decode cX9_colourGreedily 39 = .ok (.invokestatic 376, 3) := by decide +kernel
theorem dX9_colourGreedily_42 : decode cX9_colourGreedily 42 = .ok (.ifCond .eq 14, 3) := by decide +kernel
theorem dX9_colourGreedily_45 : decode cX9_colourGreedily 45 = .ok (.iload 4, 2) := by decide +kernel
theorem dX9_colourGreedily_47 : decode cX9_colourGreedily 47 = .ok (.iconst 1, 1) := by decide +kernel
theorem dX9_colourGreedily_48 : decode cX9_colourGreedily 48 = .ok (.aload_n 2, 1) := by decide +kernel
theorem dX9_colourGreedily_49 : decode cX9_colourGreedily 49 = .ok (.iload 5, 2) := by decide +kernel
theorem dX9_colourGreedily_51 : decode cX9_colourGreedily 51 = .ok (.iaload, 1) := by decide +kernel
theorem dX9_colourGreedily_52 : decode cX9_colourGreedily 52 = .ok (.ishl, 1) := by decide +kernel
theorem dX9_colourGreedily_53 : decode cX9_colourGreedily 53 = .ok (.ior, 1) := by decide +kernel
theorem dX9_colourGreedily_54 : decode cX9_colourGreedily 54 = .ok (.istore 4, 2) := by decide +kernel
theorem dX9_colourGreedily_56 : decode cX9_colourGreedily 56 = .ok (.iinc 5 1, 3) := by decide +kernel
theorem dX9_colourGreedily_59 : decode cX9_colourGreedily 59 = .ok (.goto (-33), 3) := by decide +kernel
theorem dX9_colourGreedily_62 : decode cX9_colourGreedily 62 = .ok (.aload_n 2, 1) := by decide +kernel
theorem dX9_colourGreedily_63 : decode cX9_colourGreedily 63 = .ok (.iload_n 3, 1) := by decide +kernel
theorem dX9_colourGreedily_64 : decode cX9_colourGreedily 64 = .ok (.iload 4, 2) := by decide +kernel
theorem dX9_colourGreedily_66 : decode cX9_colourGreedily 66 = .ok (.invokestatic 380, 3) := by decide +kernel
theorem dX9_colourGreedily_69 : decode cX9_colourGreedily 69 = .ok (.iastore, 1) := by decide +kernel
theorem dX9_colourGreedily_70 : decode cX9_colourGreedily 70 = .ok (.iinc 3 1, 3) := by decide +kernel
theorem dX9_colourGreedily_73 : decode cX9_colourGreedily 73 = .ok (.goto (-71), 3) := by decide +kernel
theorem dX9_colourGreedily_76 : decode cX9_colourGreedily 76 = .ok (.return_, 1) := by decide +kernel
theorem dX2_contains_0 : decode cX2_contains 0 = .ok (.iload_n 2, 1) := by decide +kernel
theorem dX2_contains_1 : decode cX2_contains 1 = .ok (.iconst (-1), 1) := by decide +kernel
theorem dX2_contains_2 : decode cX2_contains 2 = .ok (.if_icmp .eq 20, 3) := by decide +kernel
theorem dX2_contains_5 : decode cX2_contains 5 = .ok (.aload_n 0, 1) := by decide +kernel
theorem dX2_contains_6 : decode cX2_contains 6 = .ok (.getfield 15, 3) := by decide +kernel
theorem dX2_contains_9 : decode cX2_contains 9 = .ok (.iload_n 1, 1) := by decide +kernel
theorem dX2_contains_10 : decode cX2_contains 10 = .ok (.iaload, 1) := by decide +kernel
theorem dX2_contains_11 : decode cX2_contains 11 = .ok (.iload_n 2, 1) := by decide +kernel
theorem dX2_contains_12 : decode cX2_contains 12 = .ok (.invokestatic 42, 3) := by decide +kernel
theorem dX2_contains_15 : decode cX2_contains 15 = .ok (.ifCond .eq 7, 3) := by decide +kernel
theorem dX2_contains_18 : decode cX2_contains 18 = .ok (.iconst 1, 1) := by decide +kernel
theorem dX2_contains_19 : decode cX2_contains 19 = .ok (.goto 4, 3) := by decide +kernel
theorem dX2_contains_22 : decode cX2_contains 22 = .ok (.iconst 0, 1) := by decide +kernel
theorem dX2_contains_23 : decode cX2_contains 23 = .ok (.ireturn, 1) := by decide +kernel
theorem dX5_surveyLoops_0 : decode cX5_surveyLoops 0 = .ok (.iconst 0, 1) := by decide +kernel
theorem dX5_surveyLoops_1 : decode cX5_surveyLoops 1 = .ok (.istore_n 1, 1) := by decide +kernel
theorem dX5_surveyLoops_2 : decode cX5_surveyLoops 2 = .ok (.iload_n 1, 1) := by decide +kernel
theorem dX5_surveyLoops_3 : decode cX5_surveyLoops 3 = .ok (.aload_n 0, 1) := by decide +kernel
theorem dX5_surveyLoops_4 : decode cX5_surveyLoops 4 = .ok (.getfield 38, 3) := by decide +kernel
theorem dX5_surveyLoops_7 : decode cX5_surveyLoops 7 = .ok (.getfield 114, 3) := by decide +kernel
theorem dX5_surveyLoops_10 : decode cX5_surveyLoops 10 = .ok (.if_icmp .ge 97, 3) := by decide +kernel
theorem dX5_surveyLoops_13 : decode cX5_surveyLoops 13 = .ok (.aload_n 0, 1) := by decide +kernel
theorem dX5_surveyLoops_14 : decode cX5_surveyLoops 14 = .ok (.getfield 24, 3) := by decide +kernel
theorem dX5_surveyLoops_17 : decode cX5_surveyLoops 17 = .ok (.iload_n 1, 1) := by decide +kernel
theorem dX5_surveyLoops_18 : decode cX5_surveyLoops 18 = .ok (.iconst 0, 1) := by decide +kernel
theorem dX5_surveyLoops_19 : decode cX5_surveyLoops 19 = .ok (.iastore, 1) := by decide +kernel
theorem dX5_surveyLoops_20 : decode cX5_surveyLoops 20 = .ok (.aload_n 0, 1) := by decide +kernel
theorem dX5_surveyLoops_21 : decode cX5_surveyLoops 21 = .ok (.getfield 27, 3) := by decide +kernel
theorem dX5_surveyLoops_24 : decode cX5_surveyLoops 24 = .ok (.iload_n 1, 1) := by decide +kernel
theorem dX5_surveyLoops_25 : decode cX5_surveyLoops 25 = .ok (.iconst 0, 1) := by decide +kernel
theorem dX5_surveyLoops_26 : decode cX5_surveyLoops 26 = .ok (.iastore, 1) := by decide +kernel
theorem dX5_surveyLoops_27 : decode cX5_surveyLoops 27 = .ok (.iconst 0, 1) := by decide +kernel
theorem dX5_surveyLoops_28 : decode cX5_surveyLoops 28 = .ok (.istore_n 2, 1) := by decide +kernel
theorem dX5_surveyLoops_29 : decode cX5_surveyLoops 29 = .ok (.iload_n 2, 1) := by decide +kernel
theorem dX5_surveyLoops_30 : decode cX5_surveyLoops 30 = .ok (.aload_n 0, 1) := by decide +kernel
theorem dX5_surveyLoops_31 : decode cX5_surveyLoops 31 = .ok (.getfield 30, 3) := by decide +kernel
theorem dX5_surveyLoops_34 : decode cX5_surveyLoops 34 = .ok (.getfield 119, 3) := by decide +kernel
theorem dX5_surveyLoops_37 : decode cX5_surveyLoops 37 = .ok (.if_icmp .ge 64, 3) := by decide +kernel
theorem dX5_surveyLoops_40 : decode cX5_surveyLoops 40 = .ok (.aload_n 0, 1) := by decide +kernel
theorem dX5_surveyLoops_41 : decode cX5_surveyLoops 41 = .ok (.getfield 38, 3) := by decide +kernel
theorem dX5_surveyLoops_44 : decode cX5_surveyLoops 44 = .ok (.iload_n 1, 1) := by decide +kernel
theorem dX5_surveyLoops_45 : decode cX5_surveyLoops 45 = .ok (.iload_n 2, 1) := by decide +kernel
theorem dX5_surveyLoops_46 : decode cX5_surveyLoops 46 = .ok (.invokevirtual 124, 3) := by decide +kernel
theorem dX5_surveyLoops_49 : decode cX5_surveyLoops 49 = .ok (.ifCond .eq 46, 3) := by decide +kernel
theorem dX5_surveyLoops_52 : decode cX5_surveyLoops 52 = .ok (.aload_n 0, 1) := by decide +kernel
theorem dX5_surveyLoops_53 : decode cX5_surveyLoops 53 = .ok (.getfield 24, 3) := by decide +kernel
theorem dX5_surveyLoops_56 : decode cX5_surveyLoops 56 = .ok (.iload_n 1, 1) := by decide +kernel
theorem dX5_surveyLoops_57 : decode cX5_surveyLoops 57 = .ok (.dup2, 1) := by decide +kernel
theorem dX5_surveyLoops_58 : decode cX5_surveyLoops 58 = .ok (.iaload, 1) := by decide +kernel
theorem dX5_surveyLoops_59 : decode cX5_surveyLoops 59 = .ok (.aload_n 0, 1) := by decide +kernel
theorem dX5_surveyLoops_60 : decode cX5_surveyLoops 60 = .ok (.getfield 34, 3) := by decide +kernel
theorem dX5_surveyLoops_63 : decode cX5_surveyLoops 63 = .ok (.iload_n 2, 1) := by decide +kernel
theorem dX5_surveyLoops_64 : decode cX5_surveyLoops 64 = .ok (.invokevirtual 127, 3) := by decide +kernel
theorem dX5_surveyLoops_67 : decode cX5_surveyLoops 67 = .ok (.aload_n 0, 1) := by decide +kernel
theorem dX5_surveyLoops_68 : decode cX5_surveyLoops 68 = .ok (.getfield 34, 3) := by decide +kernel
theorem dX5_surveyLoops_71 : decode cX5_surveyLoops 71 = .ok (.iload_n 2, 1) := by decide +kernel
theorem dX5_surveyLoops_72 : decode cX5_surveyLoops 72 = .ok (.invokevirtual 130, 3) := by decide +kernel
theorem dX5_surveyLoops_75 : decode cX5_surveyLoops 75 = .ok (.ior, 1) := by decide +kernel
theorem dX5_surveyLoops_76 : decode cX5_surveyLoops 76 = .ok (.ior, 1) := by decide +kernel
theorem dX5_surveyLoops_77 : decode cX5_surveyLoops 77 = .ok (.iastore, 1) := by decide +kernel
theorem dX5_surveyLoops_78 : decode cX5_surveyLoops 78 = .ok (.aload_n 0, 1) := by decide +kernel
theorem dX5_surveyLoops_79 : decode cX5_surveyLoops 79 = .ok (.getfield 27, 3) := by decide +kernel
theorem dX5_surveyLoops_82 : decode cX5_surveyLoops 82 = .ok (.iload_n 1, 1) := by decide +kernel
theorem dX5_surveyLoops_83 : decode cX5_surveyLoops 83 = .ok (.dup2, 1) := by decide +kernel
theorem dX5_surveyLoops_84 : decode cX5_surveyLoops 84 = .ok (.iaload, 1) := by decide +kernel
theorem dX5_surveyLoops_85 : decode cX5_surveyLoops 85 = .ok (.aload_n 0, 1) := by decide +kernel
theorem dX5_surveyLoops_86 : decode cX5_surveyLoops 86 = .ok (.getfield 34, 3) := by decide +kernel
theorem dX5_surveyLoops_89 : decode cX5_surveyLoops 89 = .ok (.iload_n 2, 1) := by decide +kernel
theorem dX5_surveyLoops_90 : decode cX5_surveyLoops 90 = .ok (.invokevirtual 133, 3) := by decide +kernel
theorem dX5_surveyLoops_93 : decode cX5_surveyLoops 93 = .ok (.ior, 1) := by decide +kernel
theorem dX5_surveyLoops_94 : decode cX5_surveyLoops 94 = .ok (.iastore, 1) := by decide +kernel
theorem dX5_surveyLoops_95 : decode cX5_surveyLoops 95 = .ok (.iinc 2 1, 3) := by decide +kernel
theorem dX5_surveyLoops_98 : decode cX5_surveyLoops 98 = .ok (.goto (-69), 3) := by decide +kernel
theorem dX5_surveyLoops_101 : decode cX5_surveyLoops 101 = .ok (.iinc 1 1, 3) := by decide +kernel
theorem dX5_surveyLoops_104 : decode cX5_surveyLoops 104 = .ok (.goto (-102), 3) := by decide +kernel
theorem dX5_surveyLoops_107 : decode cX5_surveyLoops 107 = .ok (.return_, 1) := by decide +kernel
theorem dX5_nextLoop_0 : decode cX5_nextLoop 0 = .ok (.iconst 0, 1) := by decide +kernel
theorem dX5_nextLoop_1 : decode cX5_nextLoop 1 = .ok (.istore_n 2, 1) := by decide +kernel
theorem dX5_nextLoop_2 : decode cX5_nextLoop 2 = .ok (.iconst 0, 1) := by decide +kernel
theorem dX5_nextLoop_3 : decode cX5_nextLoop 3 = .ok (.istore_n 3, 1) := by decide +kernel
theorem dX5_nextLoop_4 : decode cX5_nextLoop 4 = .ok (.iconst 0, 1) := by decide +kernel
theorem dX5_nextLoop_5 : decode cX5_nextLoop 5 = .ok (.istore 4, 2) := by decide +kernel
theorem dX5_nextLoop_7 : decode cX5_nextLoop 7 = .ok (.iload 4, 2) := by decide +kernel
theorem dX5_nextLoop_9 : decode cX5_nextLoop 9 = .ok (.aload_n 0, 1) := by decide +kernel
theorem dX5_nextLoop_10 : decode cX5_nextLoop 10 = .ok (.getfield 38, 3) := by decide +kernel
theorem dX5_nextLoop_13 : decode cX5_nextLoop 13 = .ok (.getfield 114, 3) := by decide +kernel
theorem dX5_nextLoop_16 : decode cX5_nextLoop 16 = .ok (.if_icmp .ge 53, 3) := by decide +kernel
theorem dX5_nextLoop_19 : decode cX5_nextLoop 19 = .ok (.aload_n 0, 1) := by decide +kernel
theorem dX5_nextLoop_20 : decode cX5_nextLoop 20 = .ok (.getfield 30, 3) := by decide +kernel
theorem dX5_nextLoop_23 : decode cX5_nextLoop 23 = .ok (.getfield 151, 3) := by decide +kernel
theorem dX5_nextLoop_26 : decode cX5_nextLoop 26 = .ok (.aload_n 0, 1) := by decide +kernel
theorem dX5_nextLoop_27 : decode cX5_nextLoop 27 = .ok (.getfield 38, 3) := by decide +kernel
theorem dX5_nextLoop_30 : decode cX5_nextLoop 30 = .ok (.getfield 155, 3) := by decide +kernel
theorem dX5_nextLoop_33 : decode cX5_nextLoop 33 = .ok (.iload 4, 2) := by decide +kernel
theorem dX5_nextLoop_35 : decode cX5_nextLoop 35 = .ok (.iaload, 1) := by decide +kernel
theorem dX5_nextLoop_36 : decode cX5_nextLoop 36 = .ok (.aaload, 1) := by decide +kernel
theorem dX5_nextLoop_37 : decode cX5_nextLoop 37 = .ok (.getfield 158, 3) := by decide +kernel
theorem dX5_nextLoop_40 : decode cX5_nextLoop 40 = .ok (.istore 5, 2) := by decide +kernel
theorem dX5_nextLoop_42 : decode cX5_nextLoop 42 = .ok (.iload_n 1, 1) := by decide +kernel
theorem dX5_nextLoop_43 : decode cX5_nextLoop 43 = .ok (.iload 4, 2) := by decide +kernel
theorem dX5_nextLoop_45 : decode cX5_nextLoop 45 = .ok (.invokestatic 83, 3) := by decide +kernel
theorem dX5_nextLoop_48 : decode cX5_nextLoop 48 = .ok (.ifCond .ne 15, 3) := by decide +kernel
theorem dX5_nextLoop_51 : decode cX5_nextLoop 51 = .ok (.iload 5, 2) := by decide +kernel
theorem dX5_nextLoop_53 : decode cX5_nextLoop 53 = .ok (.iload_n 3, 1) := by decide +kernel
theorem dX5_nextLoop_54 : decode cX5_nextLoop 54 = .ok (.if_icmp .le 9, 3) := by decide +kernel
theorem dX5_nextLoop_57 : decode cX5_nextLoop 57 = .ok (.iload 4, 2) := by decide +kernel
theorem dX5_nextLoop_59 : decode cX5_nextLoop 59 = .ok (.istore_n 2, 1) := by decide +kernel
theorem dX5_nextLoop_60 : decode cX5_nextLoop 60 = .ok (.iload 5, 2) := by decide +kernel
theorem dX5_nextLoop_62 : decode cX5_nextLoop 62 = .ok (.istore_n 3, 1) := by decide +kernel
theorem dX5_nextLoop_63 : decode cX5_nextLoop 63 = .ok (.iinc 4 1, 3) := by decide +kernel
theorem dX5_nextLoop_66 : decode cX5_nextLoop 66 = .ok (.goto (-59), 3) := by decide +kernel
theorem dX5_nextLoop_69 : decode cX5_nextLoop 69 = .ok (.iload_n 2, 1) := by decide +kernel
theorem dX5_nextLoop_70 : decode cX5_nextLoop 70 = .ok (.ireturn, 1) := by decide +kernel
theorem dX5_isLiveOutside_0 : decode cX5_isLiveOutside 0 = .ok (.aload_n 0, 1) := by decide +kernel
theorem dX5_isLiveOutside_1 : decode cX5_isLiveOutside 1 = .ok (.getfield 30, 3) := by decide +kernel
theorem dX5_isLiveOutside_4 : decode cX5_isLiveOutside 4 = .ok (.getfield 151, 3) := by decide +kernel
theorem dX5_isLiveOutside_7 : decode cX5_isLiveOutside 7 = .ok (.iload_n 1, 1) := by decide +kernel
theorem dX5_isLiveOutside_8 : decode cX5_isLiveOutside 8 = .ok (.aaload, 1) := by decide +kernel
theorem dX5_isLiveOutside_9 : decode cX5_isLiveOutside 9 = .ok (.invokevirtual 186, 3) := by decide +kernel
theorem dX5_isLiveOutside_12 : decode cX5_isLiveOutside 12 = .ok (.aload_n 0, 1) := by decide +kernel
theorem dX5_isLiveOutside_13 : decode cX5_isLiveOutside 13 = .ok (.getfield 38, 3) := by decide +kernel
theorem dX5_isLiveOutside_16 : decode cX5_isLiveOutside 16 = .ok (.getfield 189, 3) := by decide +kernel
theorem dX5_isLiveOutside_19 : decode cX5_isLiveOutside 19 = .ok (.iload_n 3, 1) := by decide +kernel
theorem dX5_isLiveOutside_20 : decode cX5_isLiveOutside 20 = .ok (.iaload, 1) := by decide +kernel
theorem dX5_isLiveOutside_21 : decode cX5_isLiveOutside 21 = .ok (.iconst (-1), 1) := by decide +kernel
theorem dX5_isLiveOutside_22 : decode cX5_isLiveOutside 22 = .ok (.ixor, 1) := by decide +kernel
theorem dX5_isLiveOutside_23 : decode cX5_isLiveOutside 23 = .ok (.iand, 1) := by decide +kernel
theorem dX5_isLiveOutside_24 : decode cX5_isLiveOutside 24 = .ok (.istore 4, 2) := by decide +kernel
theorem dX5_isLiveOutside_26 : decode cX5_isLiveOutside 26 = .ok (.iconst 0, 1) := by decide +kernel
theorem dX5_isLiveOutside_27 : decode cX5_isLiveOutside 27 = .ok (.istore 5, 2) := by decide +kernel
theorem dX5_isLiveOutside_29 : decode cX5_isLiveOutside 29 = .ok (.iload 5, 2) := by decide +kernel
theorem dX5_isLiveOutside_31 : decode cX5_isLiveOutside 31 = .ok (.aload_n 0, 1) := by decide +kernel
theorem dX5_isLiveOutside_32 : decode cX5_isLiveOutside 32 = .ok (.getfield 30, 3) := by decide +kernel
theorem dX5_isLiveOutside_35 : decode cX5_isLiveOutside 35 = .ok (.getfield 119, 3) := by decide +kernel
theorem dX5_isLiveOutside_38 : decode cX5_isLiveOutside 38 = .ok (.if_icmp .ge 37, 3) := by decide +kernel
theorem dX5_isLiveOutside_41 : decode cX5_isLiveOutside 41 = .ok (.iload 4, 2) := by decide +kernel
theorem dX5_isLiveOutside_43 : decode cX5_isLiveOutside 43 = .ok (.iload 5, 2) := by decide +kernel
theorem dX5_isLiveOutside_45 : decode cX5_isLiveOutside 45 = .ok (.invokestatic 83, 3) := by decide +kernel
theorem dX5_isLiveOutside_48 : decode cX5_isLiveOutside 48 = .ok (.ifCond .eq 21, 3) := by decide +kernel
theorem dX5_isLiveOutside_51 : decode cX5_isLiveOutside 51 = .ok (.aload_n 0, 1) := by decide +kernel
theorem dX5_isLiveOutside_52 : decode cX5_isLiveOutside 52 = .ok (.getfield 34, 3) := by decide +kernel
theorem dX5_isLiveOutside_55 : decode cX5_isLiveOutside 55 = .ok (.iload 5, 2) := by decide +kernel
theorem dX5_isLiveOutside_57 : decode cX5_isLiveOutside 57 = .ok (.invokevirtual 127, 3) := by decide +kernel
theorem dX5_isLiveOutside_60 : decode cX5_isLiveOutside 60 = .ok (.iload_n 2, 1) := by decide +kernel
theorem dX5_isLiveOutside_61 : decode cX5_isLiveOutside 61 = .ok (.invokestatic 83, 3) := by decide +kernel
theorem dX5_isLiveOutside_64 : decode cX5_isLiveOutside 64 = .ok (.ifCond .eq 5, 3) := by decide +kernel
theorem dX5_isLiveOutside_67 : decode cX5_isLiveOutside 67 = .ok (.iconst 1, 1) := by decide +kernel
theorem dX5_isLiveOutside_68 : decode cX5_isLiveOutside 68 = .ok (.ireturn, 1) := by decide +kernel
theorem dX5_isLiveOutside_69 : decode cX5_isLiveOutside 69 = .ok (.iinc 5 1, 3) := by decide +kernel
theorem dX5_isLiveOutside_72 : decode cX5_isLiveOutside 72 = .ok (.goto (-43), 3) := by decide +kernel
theorem dX5_isLiveOutside_75 : decode cX5_isLiveOutside 75 = .ok (.iconst 0, 1) := by decide +kernel
theorem dX5_isLiveOutside_76 : decode cX5_isLiveOutside 76 = .ok (.ireturn, 1) := by decide +kernel
theorem dX5_loadsOnEdge_0 : decode cX5_loadsOnEdge 0 = .ok (.aload_n 0, 1) := by decide +kernel
theorem dX5_loadsOnEdge_1 : decode cX5_loadsOnEdge 1 = .ok (.getfield 38, 3) := by decide +kernel
theorem dX5_loadsOnEdge_4 : decode cX5_loadsOnEdge 4 = .ok (.getfield 155, 3) := by decide +kernel
theorem dX5_loadsOnEdge_7 : decode cX5_loadsOnEdge 7 = .ok (.iload_n 3, 1) := by decide +kernel
theorem dX5_loadsOnEdge_8 : decode cX5_loadsOnEdge 8 = .ok (.iaload, 1) := by decide +kernel
theorem dX5_loadsOnEdge_9 : decode cX5_loadsOnEdge 9 = .ok (.istore 4, 2) := by decide +kernel
theorem dX5_loadsOnEdge_11 : decode cX5_loadsOnEdge 11 = .ok (.aload_n 0, 1) := by decide +kernel
theorem dX5_loadsOnEdge_12 : decode cX5_loadsOnEdge 12 = .ok (.getfield 30, 3) := by decide +kernel
theorem dX5_loadsOnEdge_15 : decode cX5_loadsOnEdge 15 = .ok (.getfield 151, 3) := by decide +kernel
theorem dX5_loadsOnEdge_18 : decode cX5_loadsOnEdge 18 = .ok (.iload_n 1, 1) := by decide +kernel
theorem dX5_loadsOnEdge_19 : decode cX5_loadsOnEdge 19 = .ok (.aaload, 1) := by decide +kernel
theorem dX5_loadsOnEdge_20 : decode cX5_loadsOnEdge 20 = .ok (.invokevirtual 186, 3) := by decide +kernel
theorem dX5_loadsOnEdge_23 : decode cX5_loadsOnEdge 23 = .ok (.iload 4, 2) := by decide +kernel
theorem dX5_loadsOnEdge_25 : decode cX5_loadsOnEdge 25 = .ok (.invokestatic 83, 3) := by decide +kernel
theorem dX5_loadsOnEdge_28 : decode cX5_loadsOnEdge 28 = .ok (.ifCond .eq 23, 3) := by decide +kernel
theorem dX5_loadsOnEdge_31 : decode cX5_loadsOnEdge 31 = .ok (.aload_n 0, 1) := by decide +kernel
theorem dX5_loadsOnEdge_32 : decode cX5_loadsOnEdge 32 = .ok (.getfield 34, 3) := by decide +kernel
theorem dX5_loadsOnEdge_35 : decode cX5_loadsOnEdge 35 = .ok (.iload 4, 2) := by decide +kernel
theorem dX5_loadsOnEdge_37 : decode cX5_loadsOnEdge 37 = .ok (.invokevirtual 127, 3) := by decide +kernel
theorem dX5_loadsOnEdge_40 : decode cX5_loadsOnEdge 40 = .ok (.iload_n 2, 1) := by decide +kernel
theorem dX5_loadsOnEdge_41 : decode cX5_loadsOnEdge 41 = .ok (.invokestatic 83, 3) := by decide +kernel
theorem dX5_loadsOnEdge_44 : decode cX5_loadsOnEdge 44 = .ok (.ifCond .eq 7, 3) := by decide +kernel
theorem dX5_loadsOnEdge_47 : decode cX5_loadsOnEdge 47 = .ok (.iconst 1, 1) := by decide +kernel
theorem dX5_loadsOnEdge_48 : decode cX5_loadsOnEdge 48 = .ok (.goto 4, 3) := by decide +kernel
theorem dX5_loadsOnEdge_51 : decode cX5_loadsOnEdge 51 = .ok (.iconst 0, 1) := by decide +kernel
theorem dX5_loadsOnEdge_52 : decode cX5_loadsOnEdge 52 = .ok (.ireturn, 1) := by decide +kernel
theorem dX5_gainOf_0 : decode cX5_gainOf 0 = .ok (.iconst 0, 1) := by decide +kernel
theorem dX5_gainOf_1 : decode cX5_gainOf 1 = .ok (.istore_n 3, 1) := by decide +kernel
theorem dX5_gainOf_2 : decode cX5_gainOf 2 = .ok (.aload_n 0, 1) := by decide +kernel
theorem dX5_gainOf_3 : decode cX5_gainOf 3 = .ok (.getfield 27, 3) := by decide +kernel
theorem dX5_gainOf_6 : decode cX5_gainOf 6 = .ok (.iload_n 2, 1) := by decide +kernel
theorem dX5_gainOf_7 : decode cX5_gainOf 7 = .ok (.iaload, 1) := by decide +kernel
theorem dX5_gainOf_8 : decode cX5_gainOf 8 = .ok (.iload_n 1, 1) := by decide +kernel
theorem dX5_gainOf_9 : decode cX5_gainOf 9 = .ok (.invokestatic 83, 3) := by decide +kernel
theorem dX5_gainOf_12 : decode cX5_gainOf 12 = .ok (.istore 4, 2) := by decide +kernel
theorem dX5_gainOf_14 : decode cX5_gainOf 14 = .ok (.iconst 0, 1) := by decide +kernel
theorem dX5_gainOf_15 : decode cX5_gainOf 15 = .ok (.istore 5, 2) := by decide +kernel
theorem dX5_gainOf_17 : decode cX5_gainOf 17 = .ok (.iload 5, 2) := by decide +kernel
theorem dX5_gainOf_19 : decode cX5_gainOf 19 = .ok (.aload_n 0, 1) := by decide +kernel
theorem dX5_gainOf_20 : decode cX5_gainOf 20 = .ok (.getfield 30, 3) := by decide +kernel
theorem dX5_gainOf_23 : decode cX5_gainOf 23 = .ok (.getfield 119, 3) := by decide +kernel
theorem dX5_gainOf_26 : decode cX5_gainOf 26 = .ok (.if_icmp .ge 101, 3) := by decide +kernel
theorem dX5_gainOf_29 : decode cX5_gainOf 29 = .ok (.aload_n 0, 1) := by decide +kernel
theorem dX5_gainOf_30 : decode cX5_gainOf 30 = .ok (.getfield 38, 3) := by decide +kernel
theorem dX5_gainOf_33 : decode cX5_gainOf 33 = .ok (.iload_n 2, 1) := by decide +kernel
theorem dX5_gainOf_34 : decode cX5_gainOf 34 = .ok (.iload 5, 2) := by decide +kernel
theorem dX5_gainOf_36 : decode cX5_gainOf 36 = .ok (.invokevirtual 124, 3) := by decide +kernel
theorem dX5_gainOf_39 : decode cX5_gainOf 39 = .ok (.ifCond .ne 37, 3) := by decide +kernel
theorem dX5_gainOf_42 : decode cX5_gainOf 42 = .ok (.iload_n 3, 1) := by decide +kernel
theorem dX5_gainOf_43 : decode cX5_gainOf 43 = .ok (.aload_n 0, 1) := by decide +kernel
theorem dX5_gainOf_44 : decode cX5_gainOf 44 = .ok (.iload 5, 2) := by decide +kernel
theorem dX5_gainOf_46 : decode cX5_gainOf 46 = .ok (.iload_n 1, 1) := by decide +kernel
theorem dX5_gainOf_47 : decode cX5_gainOf 47 = .ok (.iload_n 2, 1) := by decide +kernel
theorem dX5_gainOf_48 : decode cX5_gainOf 48 = .ok (.invokevirtual 176, 3) := by decide +kernel
theorem dX5_gainOf_51 : decode cX5_gainOf 51 = .ok (.ifCond .eq 19, 3) := by decide +kernel
theorem dX5_gainOf_54 : decode cX5_gainOf 54 = .ok (.aload_n 0, 1) := by decide +kernel
theorem dX5_gainOf_55 : decode cX5_gainOf 55 = .ok (.getfield 30, 3) := by decide +kernel
theorem dX5_gainOf_58 : decode cX5_gainOf 58 = .ok (.getfield 151, 3) := by decide +kernel
theorem dX5_gainOf_61 : decode cX5_gainOf 61 = .ok (.iload 5, 2) := by decide +kernel
theorem dX5_gainOf_63 : decode cX5_gainOf 63 = .ok (.aaload, 1) := by decide +kernel
theorem dX5_gainOf_64 : decode cX5_gainOf 64 = .ok (.getfield 158, 3) := by decide +kernel
theorem dX5_gainOf_67 : decode cX5_gainOf 67 = .ok (.goto 4, 3) := by decide +kernel
theorem dX5_gainOf_70 : decode cX5_gainOf 70 = .ok (.iconst 0, 1) := by decide +kernel
theorem dX5_gainOf_71 : decode cX5_gainOf 71 = .ok (.isub, 1) := by decide +kernel
theorem dX5_gainOf_72 : decode cX5_gainOf 72 = .ok (.istore_n 3, 1) := by decide +kernel
theorem dX5_gainOf_73 : decode cX5_gainOf 73 = .ok (.goto 48, 3) := by decide +kernel
theorem dX5_gainOf_76 : decode cX5_gainOf 76 = .ok (.iload_n 3, 1) := by decide +kernel
theorem dX5_gainOf_77 : decode cX5_gainOf 77 = .ok (.aload_n 0, 1) := by decide +kernel
theorem dX5_gainOf_78 : decode cX5_gainOf 78 = .ok (.getfield 34, 3) := by decide +kernel
theorem dX5_gainOf_81 : decode cX5_gainOf 81 = .ok (.iload 5, 2) := by decide +kernel
theorem dX5_gainOf_83 : decode cX5_gainOf 83 = .ok (.iload_n 1, 1) := by decide +kernel
theorem dX5_gainOf_84 : decode cX5_gainOf 84 = .ok (.invokevirtual 180, 3) := by decide +kernel
theorem dX5_gainOf_87 : decode cX5_gainOf 87 = .ok (.iadd, 1) := by decide +kernel
theorem dX5_gainOf_88 : decode cX5_gainOf 88 = .ok (.istore_n 3, 1) := by decide +kernel
theorem dX5_gainOf_89 : decode cX5_gainOf 89 = .ok (.iload 4, 2) := by decide +kernel
theorem dX5_gainOf_91 : decode cX5_gainOf 91 = .ok (.ifCond .eq 30, 3) := by decide +kernel
theorem dX5_gainOf_94 : decode cX5_gainOf 94 = .ok (.aload_n 0, 1) := by decide +kernel
theorem dX5_gainOf_95 : decode cX5_gainOf 95 = .ok (.iload 5, 2) := by decide +kernel
theorem dX5_gainOf_97 : decode cX5_gainOf 97 = .ok (.iload_n 1, 1) := by decide +kernel
theorem dX5_gainOf_98 : decode cX5_gainOf 98 = .ok (.iload_n 2, 1) := by decide +kernel
theorem dX5_gainOf_99 : decode cX5_gainOf 99 = .ok (.invokevirtual 183, 3) := by decide +kernel
theorem dX5_gainOf_102 : decode cX5_gainOf 102 = .ok (.ifCond .eq 19, 3) := by decide +kernel
theorem dX5_gainOf_105 : decode cX5_gainOf 105 = .ok (.iload_n 3, 1) := by decide +kernel
theorem dX5_gainOf_106 : decode cX5_gainOf 106 = .ok (.aload_n 0, 1) := by decide +kernel
theorem dX5_gainOf_107 : decode cX5_gainOf 107 = .ok (.getfield 30, 3) := by decide +kernel
theorem dX5_gainOf_110 : decode cX5_gainOf 110 = .ok (.getfield 151, 3) := by decide +kernel
theorem dX5_gainOf_113 : decode cX5_gainOf 113 = .ok (.iload 5, 2) := by decide +kernel
theorem dX5_gainOf_115 : decode cX5_gainOf 115 = .ok (.aaload, 1) := by decide +kernel
theorem dX5_gainOf_116 : decode cX5_gainOf 116 = .ok (.getfield 158, 3) := by decide +kernel
theorem dX5_gainOf_119 : decode cX5_gainOf 119 = .ok (.isub, 1) := by decide +kernel
theorem dX5_gainOf_120 : decode cX5_gainOf 120 = .ok (.istore_n 3, 1) := by decide +kernel
theorem dX5_gainOf_121 : decode cX5_gainOf 121 = .ok (.iinc 5 1, 3) := by decide +kernel
theorem dX5_gainOf_124 : decode cX5_gainOf 124 = .ok (.goto (-107), 3) := by decide +kernel
theorem dX5_gainOf_127 : decode cX5_gainOf 127 = .ok (.iconst 3, 1) := by decide +kernel
theorem dX5_gainOf_128 : decode cX5_gainOf 128 = .ok (.iload_n 3, 1) := by decide +kernel
theorem dX5_gainOf_129 : decode cX5_gainOf 129 = .ok (.imul, 1) := by decide +kernel
theorem dX5_gainOf_130 : decode cX5_gainOf 130 = .ok (.ireturn, 1) := by decide +kernel
theorem dX5_isPromotedAround_0 : decode cX5_isPromotedAround 0 = .ok (.iconst 0, 1) := by decide +kernel
theorem dX5_isPromotedAround_1 : decode cX5_isPromotedAround 1 = .ok (.istore_n 3, 1) := by decide +kernel
theorem dX5_isPromotedAround_2 : decode cX5_isPromotedAround 2 = .ok (.iload_n 3, 1) := by decide +kernel
theorem dX5_isPromotedAround_3 : decode cX5_isPromotedAround 3 = .ok (.aload_n 0, 1) := by decide +kernel
theorem dX5_isPromotedAround_4 : decode cX5_isPromotedAround 4 = .ok (.getfield 38, 3) := by decide +kernel
theorem dX5_isPromotedAround_7 : decode cX5_isPromotedAround 7 = .ok (.getfield 114, 3) := by decide +kernel
theorem dX5_isPromotedAround_10 : decode cX5_isPromotedAround 10 = .ok (.if_icmp .ge 50, 3) := by decide +kernel
theorem dX5_isPromotedAround_13 : decode cX5_isPromotedAround 13 = .ok (.aload_n 0, 1) := by decide +kernel
theorem dX5_isPromotedAround_14 : decode cX5_isPromotedAround 14 = .ok (.getfield 21, 3) := by decide +kernel
theorem dX5_isPromotedAround_17 : decode cX5_isPromotedAround 17 = .ok (.iload_n 3, 1) := by decide +kernel
theorem dX5_isPromotedAround_18 : decode cX5_isPromotedAround 18 = .ok (.bipush 12, 2) := by decide +kernel
theorem dX5_isPromotedAround_20 : decode cX5_isPromotedAround 20 = .ok (.imul, 1) := by decide +kernel
theorem dX5_isPromotedAround_21 : decode cX5_isPromotedAround 21 = .ok (.iload_n 1, 1) := by decide +kernel
theorem dX5_isPromotedAround_22 : decode cX5_isPromotedAround 22 = .ok (.iadd, 1) := by decide +kernel
theorem dX5_isPromotedAround_23 : decode cX5_isPromotedAround 23 = .ok (.iaload, 1) := by decide +kernel
theorem dX5_isPromotedAround_24 : decode cX5_isPromotedAround 24 = .ok (.iconst (-1), 1) := by decide +kernel
theorem dX5_isPromotedAround_25 : decode cX5_isPromotedAround 25 = .ok (.if_icmp .eq 29, 3) := by decide +kernel
theorem dX5_isPromotedAround_28 : decode cX5_isPromotedAround 28 = .ok (.aload_n 0, 1) := by decide +kernel
theorem dX5_isPromotedAround_29 : decode cX5_isPromotedAround 29 = .ok (.getfield 38, 3) := by decide +kernel
theorem dX5_isPromotedAround_32 : decode cX5_isPromotedAround 32 = .ok (.iload_n 3, 1) := by decide +kernel
theorem dX5_isPromotedAround_33 : decode cX5_isPromotedAround 33 = .ok (.iload_n 2, 1) := by decide +kernel
theorem dX5_isPromotedAround_34 : decode cX5_isPromotedAround 34 = .ok (.invokevirtual 192, 3) := by decide +kernel
theorem dX5_isPromotedAround_37 : decode cX5_isPromotedAround 37 = .ok (.ifCond .ne 15, 3) := by decide +kernel
theorem dX5_isPromotedAround_40 : decode cX5_isPromotedAround 40 = .ok (.aload_n 0, 1) := by decide +kernel
theorem dX5_isPromotedAround_41 : decode cX5_isPromotedAround 41 = .ok (.getfield 38, 3) := by decide +kernel
theorem dX5_isPromotedAround_44 : decode cX5_isPromotedAround 44 = .ok (.iload_n 2, 1) := by decide +kernel
theorem dX5_isPromotedAround_45 : decode cX5_isPromotedAround 45 = .ok (.iload_n 3, 1) := by decide +kernel
theorem dX5_isPromotedAround_46 : decode cX5_isPromotedAround 46 = .ok (.invokevirtual 192, 3) := by decide +kernel
theorem dX5_isPromotedAround_49 : decode cX5_isPromotedAround 49 = .ok (.ifCond .eq 5, 3) := by decide +kernel
theorem dX5_isPromotedAround_52 : decode cX5_isPromotedAround 52 = .ok (.iconst 1, 1) := by decide +kernel
theorem dX5_isPromotedAround_53 : decode cX5_isPromotedAround 53 = .ok (.ireturn, 1) := by decide +kernel
theorem dX5_isPromotedAround_54 : decode cX5_isPromotedAround 54 = .ok (.iinc 3 1, 3) := by decide +kernel
theorem dX5_isPromotedAround_57 : decode cX5_isPromotedAround 57 = .ok (.goto (-55), 3) := by decide +kernel
theorem dX5_isPromotedAround_60 : decode cX5_isPromotedAround 60 = .ok (.iconst 0, 1) := by decide +kernel
theorem dX5_isPromotedAround_61 : decode cX5_isPromotedAround 61 = .ok (.ireturn, 1) := by decide +kernel
theorem dX5_coloursOf_0 : decode cX5_coloursOf 0 = .ok (.aload_n 0, 1) := by decide +kernel
theorem dX5_coloursOf_1 : decode cX5_coloursOf 1 = .ok (.getfield 9, 3) := by decide +kernel
theorem dX5_coloursOf_4 : decode cX5_coloursOf 4 = .ok (.iload_n 1, 1) := by decide +kernel
theorem dX5_coloursOf_5 : decode cX5_coloursOf 5 = .ok (.iaload, 1) := by decide +kernel
theorem dX5_coloursOf_6 : decode cX5_coloursOf 6 = .ok (.ifCond .ne 14, 3) := by decide +kernel
theorem dX5_coloursOf_9 : decode cX5_coloursOf 9 = .ok (.iconst 1, 1) := by decide +kernel
theorem dX5_coloursOf_10 : decode cX5_coloursOf 10 = .ok (.aload_n 0, 1) := by decide +kernel
theorem dX5_coloursOf_11 : decode cX5_coloursOf 11 = .ok (.getfield 15, 3) := by decide +kernel
theorem dX5_coloursOf_14 : decode cX5_coloursOf 14 = .ok (.iload_n 1, 1) := by decide +kernel
theorem dX5_coloursOf_15 : decode cX5_coloursOf 15 = .ok (.iaload, 1) := by decide +kernel
theorem dX5_coloursOf_16 : decode cX5_coloursOf 16 = .ok (.ishl, 1) := by decide +kernel
theorem dX5_coloursOf_17 : decode cX5_coloursOf 17 = .ok (.goto 4, 3) := by decide +kernel
theorem dX5_coloursOf_20 : decode cX5_coloursOf 20 = .ok (.iconst 0, 1) := by decide +kernel
theorem dX5_coloursOf_21 : decode cX5_coloursOf 21 = .ok (.istore_n 3, 1) := by decide +kernel
theorem dX5_coloursOf_22 : decode cX5_coloursOf 22 = .ok (.iconst 0, 1) := by decide +kernel
theorem dX5_coloursOf_23 : decode cX5_coloursOf 23 = .ok (.istore 4, 2) := by decide +kernel
theorem dX5_coloursOf_25 : decode cX5_coloursOf 25 = .ok (.iload 4, 2) := by decide +kernel
theorem dX5_coloursOf_27 : decode cX5_coloursOf 27 = .ok (.aload_n 0, 1) := by decide +kernel
theorem dX5_coloursOf_28 : decode cX5_coloursOf 28 = .ok (.getfield 38, 3) := by decide +kernel
theorem dX5_coloursOf_31 : decode cX5_coloursOf 31 = .ok (.getfield 114, 3) := by decide +kernel
theorem dX5_coloursOf_34 : decode cX5_coloursOf 34 = .ok (.if_icmp .ge 51, 3) := by decide +kernel
theorem dX5_coloursOf_37 : decode cX5_coloursOf 37 = .ok (.aload_n 0, 1) := by decide +kernel
theorem dX5_coloursOf_38 : decode cX5_coloursOf 38 = .ok (.getfield 21, 3) := by decide +kernel
theorem dX5_coloursOf_41 : decode cX5_coloursOf 41 = .ok (.iload 4, 2) := by decide +kernel
theorem dX5_coloursOf_43 : decode cX5_coloursOf 43 = .ok (.bipush 12, 2) := by decide +kernel
theorem dX5_coloursOf_45 : decode cX5_coloursOf 45 = .ok (.imul, 1) := by decide +kernel
theorem dX5_coloursOf_46 : decode cX5_coloursOf 46 = .ok (.iload_n 1, 1) := by decide +kernel
theorem dX5_coloursOf_47 : decode cX5_coloursOf 47 = .ok (.iadd, 1) := by decide +kernel
theorem dX5_coloursOf_48 : decode cX5_coloursOf 48 = .ok (.iaload, 1) := by decide +kernel
theorem dX5_coloursOf_49 : decode cX5_coloursOf 49 = .ok (.istore 5, 2) := by decide +kernel
theorem dX5_coloursOf_51 : decode cX5_coloursOf 51 = .ok (.iload 5, 2) := by decide +kernel
theorem dX5_coloursOf_53 : decode cX5_coloursOf 53 = .ok (.iconst (-1), 1) := by decide +kernel
theorem dX5_coloursOf_54 : decode cX5_coloursOf 54 = .ok (.if_icmp .eq 25, 3) := by decide +kernel
theorem dX5_coloursOf_57 : decode cX5_coloursOf 57 = .ok (.aload_n 0, 1) := by decide +kernel
theorem dX5_coloursOf_58 : decode cX5_coloursOf 58 = .ok (.getfield 38, 3) := by decide +kernel
theorem dX5_coloursOf_61 : decode cX5_coloursOf 61 = .ok (.getfield 189, 3) := by decide +kernel
theorem dX5_coloursOf_64 : decode cX5_coloursOf 64 = .ok (.iload 4, 2) := by decide +kernel
theorem dX5_coloursOf_66 : decode cX5_coloursOf 66 = .ok (.iaload, 1) := by decide +kernel
theorem dX5_coloursOf_67 : decode cX5_coloursOf 67 = .ok (.iload_n 2, 1) := by decide +kernel
theorem dX5_coloursOf_68 : decode cX5_coloursOf 68 = .ok (.iand, 1) := by decide +kernel
theorem dX5_coloursOf_69 : decode cX5_coloursOf 69 = .ok (.ifCond .eq 10, 3) := by decide +kernel
theorem dX5_coloursOf_72 : decode cX5_coloursOf 72 = .ok (.iload_n 3, 1) := by decide +kernel
theorem dX5_coloursOf_73 : decode cX5_coloursOf 73 = .ok (.iconst 1, 1) := by decide +kernel
theorem dX5_coloursOf_74 : decode cX5_coloursOf 74 = .ok (.iload 5, 2) := by decide +kernel
theorem dX5_coloursOf_76 : decode cX5_coloursOf 76 = .ok (.ishl, 1) := by decide +kernel
theorem dX5_coloursOf_77 : decode cX5_coloursOf 77 = .ok (.ior, 1) := by decide +kernel
theorem dX5_coloursOf_78 : decode cX5_coloursOf 78 = .ok (.istore_n 3, 1) := by decide +kernel
theorem dX5_coloursOf_79 : decode cX5_coloursOf 79 = .ok (.iinc 4 1, 3) := by decide +kernel
theorem dX5_coloursOf_82 : decode cX5_coloursOf 82 = .ok (.goto (-57), 3) := by decide +kernel
theorem dX5_coloursOf_85 : decode cX5_coloursOf 85 = .ok (.iload_n 3, 1) := by decide +kernel
theorem dX5_coloursOf_86 : decode cX5_coloursOf 86 = .ok (.ireturn, 1) := by decide +kernel
theorem dX5_coloursTakenIn_0 : decode cX5_coloursTakenIn 0 = .ok (.iconst 0, 1) := by decide +kernel
theorem dX5_coloursTakenIn_1 : decode cX5_coloursTakenIn 1 = .ok (.istore_n 2, 1) := by decide +kernel
theorem dX5_coloursTakenIn_2 : decode cX5_coloursTakenIn 2 = .ok (.iconst 0, 1) := by decide +kernel
theorem dX5_coloursTakenIn_3 : decode cX5_coloursTakenIn 3 = .ok (.istore_n 3, 1) := by decide +kernel
theorem dX5_coloursTakenIn_4 : decode cX5_coloursTakenIn 4 = .ok (.iload_n 3, 1) := by decide +kernel
theorem dX5_coloursTakenIn_5 : decode cX5_coloursTakenIn 5 = .ok (.bipush 12, 2) := by decide +kernel
theorem dX5_coloursTakenIn_7 : decode cX5_coloursTakenIn 7 = .ok (.if_icmp .ge 39, 3) := by decide +kernel
theorem dX5_coloursTakenIn_10 : decode cX5_coloursTakenIn 10 = .ok (.aload_n 0, 1) := by decide +kernel
theorem dX5_coloursTakenIn_11 : decode cX5_coloursTakenIn 11 = .ok (.getfield 24, 3) := by decide +kernel
theorem dX5_coloursTakenIn_14 : decode cX5_coloursTakenIn 14 = .ok (.iload_n 1, 1) := by decide +kernel
theorem dX5_coloursTakenIn_15 : decode cX5_coloursTakenIn 15 = .ok (.iaload, 1) := by decide +kernel
theorem dX5_coloursTakenIn_16 : decode cX5_coloursTakenIn 16 = .ok (.iload_n 3, 1) := by decide +kernel
theorem dX5_coloursTakenIn_17 : decode cX5_coloursTakenIn 17 = .ok (.invokestatic 83, 3) := by decide +kernel
theorem dX5_coloursTakenIn_20 : decode cX5_coloursTakenIn 20 = .ok (.ifCond .eq 20, 3) := by decide +kernel
theorem dX5_coloursTakenIn_23 : decode cX5_coloursTakenIn 23 = .ok (.iload_n 2, 1) := by decide +kernel
theorem dX5_coloursTakenIn_24 : decode cX5_coloursTakenIn 24 = .ok (.aload_n 0, 1) := by decide +kernel
theorem dX5_coloursTakenIn_25 : decode cX5_coloursTakenIn 25 = .ok (.iload_n 3, 1) := by decide +kernel
theorem dX5_coloursTakenIn_26 : decode cX5_coloursTakenIn 26 = .ok (.aload_n 0, 1) := by decide +kernel
theorem dX5_coloursTakenIn_27 : decode cX5_coloursTakenIn 27 = .ok (.getfield 38, 3) := by decide +kernel
theorem dX5_coloursTakenIn_30 : decode cX5_coloursTakenIn 30 = .ok (.getfield 189, 3) := by decide +kernel
theorem dX5_coloursTakenIn_33 : decode cX5_coloursTakenIn 33 = .ok (.iload_n 1, 1) := by decide +kernel
theorem dX5_coloursTakenIn_34 : decode cX5_coloursTakenIn 34 = .ok (.iaload, 1) := by decide +kernel
theorem dX5_coloursTakenIn_35 : decode cX5_coloursTakenIn 35 = .ok (.invokevirtual 195, 3) := by decide +kernel
theorem dX5_coloursTakenIn_38 : decode cX5_coloursTakenIn 38 = .ok (.ior, 1) := by decide +kernel
theorem dX5_coloursTakenIn_39 : decode cX5_coloursTakenIn 39 = .ok (.istore_n 2, 1) := by decide +kernel
theorem dX5_coloursTakenIn_40 : decode cX5_coloursTakenIn 40 = .ok (.iinc 3 1, 3) := by decide +kernel
theorem dX5_coloursTakenIn_43 : decode cX5_coloursTakenIn 43 = .ok (.goto (-39), 3) := by decide +kernel
theorem dX5_coloursTakenIn_46 : decode cX5_coloursTakenIn 46 = .ok (.iload_n 2, 1) := by decide +kernel
theorem dX5_coloursTakenIn_47 : decode cX5_coloursTakenIn 47 = .ok (.ireturn, 1) := by decide +kernel
theorem dX5_promoteIfGainful_0 : decode cX5_promoteIfGainful 0 = .ok (.aload_n 0, 1) := by decide +kernel
theorem dX5_promoteIfGainful_1 : decode cX5_promoteIfGainful 1 = .ok (.iload_n 1, 1) := by decide +kernel
theorem dX5_promoteIfGainful_2 : decode cX5_promoteIfGainful 2 = .ok (.iload_n 2, 1) := by decide +kernel
theorem dX5_promoteIfGainful_3 : decode cX5_promoteIfGainful 3 = .ok (.invokevirtual 163, 3) := by decide +kernel
theorem dX5_promoteIfGainful_6 : decode cX5_promoteIfGainful 6 = .ok (.istore_n 3, 1) := by decide +kernel
theorem dX5_promoteIfGainful_7 : decode cX5_promoteIfGainful 7 = .ok (.iload_n 3, 1) := by decide +kernel
theorem dX5_promoteIfGainful_8 : decode cX5_promoteIfGainful 8 = .ok (.ifCond .le 12, 3) := by decide +kernel
theorem dX5_promoteIfGainful_11 : decode cX5_promoteIfGainful 11 = .ok (.aload_n 0, 1) := by decide +kernel
theorem dX5_promoteIfGainful_12 : decode cX5_promoteIfGainful 12 = .ok (.iload_n 1, 1) := by decide +kernel
theorem dX5_promoteIfGainful_13 : decode cX5_promoteIfGainful 13 = .ok (.iload_n 2, 1) := by decide +kernel
theorem dX5_promoteIfGainful_14 : decode cX5_promoteIfGainful 14 = .ok (.invokevirtual 167, 3) := by decide +kernel
theorem dX5_promoteIfGainful_17 : decode cX5_promoteIfGainful 17 = .ok (.ifCond .eq 4, 3) := by decide +kernel
theorem dX5_promoteIfGainful_20 : decode cX5_promoteIfGainful 20 = .ok (.return_, 1) := by decide +kernel
theorem dX5_promoteIfGainful_21 : decode cX5_promoteIfGainful 21 = .ok (.aload_n 0, 1) := by decide +kernel
theorem dX5_promoteIfGainful_22 : decode cX5_promoteIfGainful 22 = .ok (.iload_n 2, 1) := by decide +kernel
theorem dX5_promoteIfGainful_23 : decode cX5_promoteIfGainful 23 = .ok (.invokevirtual 170, 3) := by decide +kernel
theorem dX5_promoteIfGainful_26 : decode cX5_promoteIfGainful 26 = .ok (.invokestatic 173, 3) := by decide +kernel
theorem dX5_promoteIfGainful_29 : decode cX5_promoteIfGainful 29 = .ok (.istore 4, 2) := by decide +kernel
theorem dX5_promoteIfGainful_31 : decode cX5_promoteIfGainful 31 = .ok (.iload 4, 2) := by decide +kernel
theorem dX5_promoteIfGainful_33 : decode cX5_promoteIfGainful 33 = .ok (.aload_n 0, 1) := by decide +kernel
theorem dX5_promoteIfGainful_34 : decode cX5_promoteIfGainful 34 = .ok (.getfield 42, 3) := by decide +kernel
theorem dX5_promoteIfGainful_37 : decode cX5_promoteIfGainful 37 = .ok (.if_icmp .ge 36, 3) := by decide +kernel
theorem dX5_promoteIfGainful_40 : decode cX5_promoteIfGainful 40 = .ok (.aload_n 0, 1) := by decide +kernel
theorem dX5_promoteIfGainful_41 : decode cX5_promoteIfGainful 41 = .ok (.getfield 21, 3) := by decide +kernel
theorem dX5_promoteIfGainful_44 : decode cX5_promoteIfGainful 44 = .ok (.iload_n 2, 1) := by decide +kernel
theorem dX5_promoteIfGainful_45 : decode cX5_promoteIfGainful 45 = .ok (.bipush 12, 2) := by decide +kernel
theorem dX5_promoteIfGainful_47 : decode cX5_promoteIfGainful 47 = .ok (.imul, 1) := by decide +kernel
theorem dX5_promoteIfGainful_48 : decode cX5_promoteIfGainful 48 = .ok (.iload_n 1, 1) := by decide +kernel
theorem dX5_promoteIfGainful_49 : decode cX5_promoteIfGainful 49 = .ok (.iadd, 1) := by decide +kernel
theorem dX5_promoteIfGainful_50 : decode cX5_promoteIfGainful 50 = .ok (.iload 4, 2) := by decide +kernel
theorem dX5_promoteIfGainful_52 : decode cX5_promoteIfGainful 52 = .ok (.iastore, 1) := by decide +kernel
theorem dX5_promoteIfGainful_53 : decode cX5_promoteIfGainful 53 = .ok (.aload_n 0, 1) := by decide +kernel
theorem dX5_promoteIfGainful_54 : decode cX5_promoteIfGainful 54 = .ok (.dup, 1) := by decide +kernel
theorem dX5_promoteIfGainful_55 : decode cX5_promoteIfGainful 55 = .ok (.getfield 141, 3) := by decide +kernel
theorem dX5_promoteIfGainful_58 : decode cX5_promoteIfGainful 58 = .ok (.iconst 1, 1) := by decide +kernel
theorem dX5_promoteIfGainful_59 : decode cX5_promoteIfGainful 59 = .ok (.iadd, 1) := by decide +kernel
theorem dX5_promoteIfGainful_60 : decode cX5_promoteIfGainful 60 = .ok (.putfield 141, 3) := by decide +kernel
theorem dX5_promoteIfGainful_63 : decode cX5_promoteIfGainful 63 = .ok (.aload_n 0, 1) := by decide +kernel
theorem dX5_promoteIfGainful_64 : decode cX5_promoteIfGainful 64 = .ok (.dup, 1) := by decide +kernel
theorem dX5_promoteIfGainful_65 : decode cX5_promoteIfGainful 65 = .ok (.getfield 111, 3) := by decide +kernel
theorem dX5_promoteIfGainful_68 : decode cX5_promoteIfGainful 68 = .ok (.iload_n 3, 1) := by decide +kernel
theorem dX5_promoteIfGainful_69 : decode cX5_promoteIfGainful 69 = .ok (.iadd, 1) := by decide +kernel
theorem dX5_promoteIfGainful_70 : decode cX5_promoteIfGainful 70 = .ok (.putfield 111, 3) := by decide +kernel
theorem dX5_promoteIfGainful_73 : decode cX5_promoteIfGainful 73 = .ok (.return_, 1) := by decide +kernel
theorem dX5_promoteAll_0 : decode cX5_promoteAll 0 = .ok (.aload_n 0, 1) := by decide +kernel
theorem dX5_promoteAll_1 : decode cX5_promoteAll 1 = .ok (.getfield 21, 3) := by decide +kernel
theorem dX5_promoteAll_4 : decode cX5_promoteAll 4 = .ok (.iconst (-1), 1) := by decide +kernel
theorem dX5_promoteAll_5 : decode cX5_promoteAll 5 = .ok (.invokestatic 135, 3) := by decide +kernel
theorem dX5_promoteAll_8 : decode cX5_promoteAll 8 = .ok (.aload_n 0, 1) := by decide +kernel
theorem dX5_promoteAll_9 : decode cX5_promoteAll 9 = .ok (.iconst 0, 1) := by decide +kernel
theorem dX5_promoteAll_10 : decode cX5_promoteAll 10 = .ok (.putfield 141, 3) := by decide +kernel
theorem dX5_promoteAll_13 : decode cX5_promoteAll 13 = .ok (.aload_n 0, 1) := by decide +kernel
theorem dX5_promoteAll_14 : decode cX5_promoteAll 14 = .ok (.iconst 0, 1) := by decide +kernel
theorem dX5_promoteAll_15 : decode cX5_promoteAll 15 = .ok (.putfield 111, 3) := by decide +kernel
theorem dX5_promoteAll_18 : decode cX5_promoteAll 18 = .ok (.iconst 0, 1) := by decide +kernel
theorem dX5_promoteAll_19 : decode cX5_promoteAll 19 = .ok (.istore_n 1, 1) := by decide +kernel
theorem dX5_promoteAll_20 : decode cX5_promoteAll 20 = .ok (.iconst 0, 1) := by decide +kernel
theorem dX5_promoteAll_21 : decode cX5_promoteAll 21 = .ok (.istore_n 2, 1) := by decide +kernel
theorem dX5_promoteAll_22 : decode cX5_promoteAll 22 = .ok (.iload_n 2, 1) := by decide +kernel
theorem dX5_promoteAll_23 : decode cX5_promoteAll 23 = .ok (.aload_n 0, 1) := by decide +kernel
theorem dX5_promoteAll_24 : decode cX5_promoteAll 24 = .ok (.getfield 38, 3) := by decide +kernel
theorem dX5_promoteAll_27 : decode cX5_promoteAll 27 = .ok (.getfield 114, 3) := by decide +kernel
theorem dX5_promoteAll_30 : decode cX5_promoteAll 30 = .ok (.if_icmp .ge 55, 3) := by decide +kernel
theorem dX5_promoteAll_33 : decode cX5_promoteAll 33 = .ok (.aload_n 0, 1) := by decide +kernel
theorem dX5_promoteAll_34 : decode cX5_promoteAll 34 = .ok (.iload_n 1, 1) := by decide +kernel
theorem dX5_promoteAll_35 : decode cX5_promoteAll 35 = .ok (.invokevirtual 144, 3) := by decide +kernel
theorem dX5_promoteAll_38 : decode cX5_promoteAll 38 = .ok (.istore_n 3, 1) := by decide +kernel
theorem dX5_promoteAll_39 : decode cX5_promoteAll 39 = .ok (.iload_n 1, 1) := by decide +kernel
theorem dX5_promoteAll_40 : decode cX5_promoteAll 40 = .ok (.iconst 1, 1) := by decide +kernel
theorem dX5_promoteAll_41 : decode cX5_promoteAll 41 = .ok (.iload_n 3, 1) := by decide +kernel
theorem dX5_promoteAll_42 : decode cX5_promoteAll 42 = .ok (.ishl, 1) := by decide +kernel
theorem dX5_promoteAll_43 : decode cX5_promoteAll 43 = .ok (.ior, 1) := by decide +kernel
theorem dX5_promoteAll_44 : decode cX5_promoteAll 44 = .ok (.istore_n 1, 1) := by decide +kernel
theorem dX5_promoteAll_45 : decode cX5_promoteAll 45 = .ok (.iconst 0, 1) := by decide +kernel
theorem dX5_promoteAll_46 : decode cX5_promoteAll 46 = .ok (.istore 4, 2) := by decide +kernel
theorem dX5_promoteAll_48 : decode cX5_promoteAll 48 = .ok (.iload 4, 2) := by decide +kernel
theorem dX5_promoteAll_50 : decode cX5_promoteAll 50 = .ok (.bipush 12, 2) := by decide +kernel
theorem dX5_promoteAll_52 : decode cX5_promoteAll 52 = .ok (.if_icmp .ge 27, 3) := by decide +kernel
theorem dX5_promoteAll_55 : decode cX5_promoteAll 55 = .ok (.aload_n 0, 1) := by decide +kernel
theorem dX5_promoteAll_56 : decode cX5_promoteAll 56 = .ok (.getfield 9, 3) := by decide +kernel
theorem dX5_promoteAll_59 : decode cX5_promoteAll 59 = .ok (.iload 4, 2) := by decide +kernel
theorem dX5_promoteAll_61 : decode cX5_promoteAll 61 = .ok (.iaload, 1) := by decide +kernel
theorem dX5_promoteAll_62 : decode cX5_promoteAll 62 = .ok (.iconst 1, 1) := by decide +kernel
theorem dX5_promoteAll_63 : decode cX5_promoteAll 63 = .ok (.if_icmp .ne 10, 3) := by decide +kernel
theorem dX5_promoteAll_66 : decode cX5_promoteAll 66 = .ok (.aload_n 0, 1) := by decide +kernel
theorem dX5_promoteAll_67 : decode cX5_promoteAll 67 = .ok (.iload 4, 2) := by decide +kernel
theorem dX5_promoteAll_69 : decode cX5_promoteAll 69 = .ok (.iload_n 3, 1) := by decide +kernel
theorem dX5_promoteAll_70 : decode cX5_promoteAll 70 = .ok (.invokevirtual 147, 3) := by decide +kernel
theorem dX5_promoteAll_73 : decode cX5_promoteAll 73 = .ok (.iinc 4 1, 3) := by decide +kernel
theorem dX5_promoteAll_76 : decode cX5_promoteAll 76 = .ok (.goto (-28), 3) := by decide +kernel
theorem dX5_promoteAll_79 : decode cX5_promoteAll 79 = .ok (.iinc 2 1, 3) := by decide +kernel
theorem dX5_promoteAll_82 : decode cX5_promoteAll 82 = .ok (.goto (-60), 3) := by decide +kernel
theorem dX5_promoteAll_85 : decode cX5_promoteAll 85 = .ok (.return_, 1) := by decide +kernel
theorem dX9_numbersInUse_0 : decode cX9_numbersInUse 0 = .ok (.iconst (-1), 1) := by decide +kernel
theorem dX9_numbersInUse_1 : decode cX9_numbersInUse 1 = .ok (.istore_n 1, 1) := by decide +kernel
theorem dX9_numbersInUse_2 : decode cX9_numbersInUse 2 = .ok (.iconst 0, 1) := by decide +kernel
theorem dX9_numbersInUse_3 : decode cX9_numbersInUse 3 = .ok (.istore_n 2, 1) := by decide +kernel
theorem dX9_numbersInUse_4 : decode cX9_numbersInUse 4 = .ok (.iload_n 2, 1) := by decide +kernel
theorem dX9_numbersInUse_5 : decode cX9_numbersInUse 5 = .ok (.bipush 12, 2) := by decide +kernel
theorem dX9_numbersInUse_7 : decode cX9_numbersInUse 7 = .ok (.if_icmp .ge 17, 3) := by decide +kernel
theorem dX9_numbersInUse_10 : decode cX9_numbersInUse 10 = .ok (.iload_n 1, 1) := by decide +kernel
theorem dX9_numbersInUse_11 : decode cX9_numbersInUse 11 = .ok (.aload_n 0, 1) := by decide +kernel
theorem dX9_numbersInUse_12 : decode cX9_numbersInUse 12 = .ok (.iload_n 2, 1) := by decide +kernel
theorem dX9_numbersInUse_13 : decode cX9_numbersInUse 13 = .ok (.iaload, 1) := by decide +kernel
theorem dX9_numbersInUse_14 : decode cX9_numbersInUse 14 = .ok (.invokestatic 276, 3) := by decide +kernel
theorem dX9_numbersInUse_17 : decode cX9_numbersInUse 17 = .ok (.istore_n 1, 1) := by decide +kernel
theorem dX9_numbersInUse_18 : decode cX9_numbersInUse 18 = .ok (.iinc 2 1, 3) := by decide +kernel
theorem dX9_numbersInUse_21 : decode cX9_numbersInUse 21 = .ok (.goto (-17), 3) := by decide +kernel
theorem dX9_numbersInUse_24 : decode cX9_numbersInUse 24 = .ok (.iload_n 1, 1) := by decide +kernel
theorem dX9_numbersInUse_25 : decode cX9_numbersInUse 25 = .ok (.iconst 1, 1) := by decide +kernel
theorem dX9_numbersInUse_26 : decode cX9_numbersInUse 26 = .ok (.iadd, 1) := by decide +kernel
theorem dX9_numbersInUse_27 : decode cX9_numbersInUse 27 = .ok (.ireturn, 1) := by decide +kernel
theorem dX5_firstOverRegisters_0 : decode cX5_firstOverRegisters 0 = .ok (.iconst 0, 1) := by decide +kernel
theorem dX5_firstOverRegisters_1 : decode cX5_firstOverRegisters 1 = .ok (.istore_n 1, 1) := by decide +kernel
theorem dX5_firstOverRegisters_2 : decode cX5_firstOverRegisters 2 = .ok (.iload_n 1, 1) := by decide +kernel
theorem dX5_firstOverRegisters_3 : decode cX5_firstOverRegisters 3 = .ok (.bipush 11, 2) := by decide +kernel
theorem dX5_firstOverRegisters_5 : decode cX5_firstOverRegisters 5 = .ok (.if_icmp .ge 22, 3) := by decide +kernel
theorem dX5_firstOverRegisters_8 : decode cX5_firstOverRegisters 8 = .ok (.aload_n 0, 1) := by decide +kernel
theorem dX5_firstOverRegisters_9 : decode cX5_firstOverRegisters 9 = .ok (.getfield 15, 3) := by decide +kernel
theorem dX5_firstOverRegisters_12 : decode cX5_firstOverRegisters 12 = .ok (.iload_n 1, 1) := by decide +kernel
theorem dX5_firstOverRegisters_13 : decode cX5_firstOverRegisters 13 = .ok (.iaload, 1) := by decide +kernel
theorem dX5_firstOverRegisters_14 : decode cX5_firstOverRegisters 14 = .ok (.aload_n 0, 1) := by decide +kernel
theorem dX5_firstOverRegisters_15 : decode cX5_firstOverRegisters 15 = .ok (.getfield 42, 3) := by decide +kernel
theorem dX5_firstOverRegisters_18 : decode cX5_firstOverRegisters 18 = .ok (.if_icmp .ge 9, 3) := by decide +kernel
theorem dX5_firstOverRegisters_21 : decode cX5_firstOverRegisters 21 = .ok (.iinc 1 1, 3) := by decide +kernel
theorem dX5_firstOverRegisters_24 : decode cX5_firstOverRegisters 24 = .ok (.goto (-22), 3) := by decide +kernel
theorem dX5_firstOverRegisters_27 : decode cX5_firstOverRegisters 27 = .ok (.iload_n 1, 1) := by decide +kernel
theorem dX5_firstOverRegisters_28 : decode cX5_firstOverRegisters 28 = .ok (.ireturn, 1) := by decide +kernel
theorem dX5_wouldBeRecomputed_0 : decode cX5_wouldBeRecomputed 0 = .ok (.aload_n 0, 1) := by decide +kernel
theorem dX5_wouldBeRecomputed_1 : decode cX5_wouldBeRecomputed 1 = .ok (.getfield 46, 3) := by decide +kernel
theorem dX5_wouldBeRecomputed_4 : decode cX5_wouldBeRecomputed 4 = .ok (.ifCond .eq 18, 3) := by decide +kernel
theorem dX5_wouldBeRecomputed_7 : decode cX5_wouldBeRecomputed 7 = .ok (.aload_n 0, 1) := by decide +kernel
theorem dX5_wouldBeRecomputed_8 : decode cX5_wouldBeRecomputed 8 = .ok (.getfield 34, 3) := by decide +kernel
theorem dX5_wouldBeRecomputed_11 : decode cX5_wouldBeRecomputed 11 = .ok (.iload_n 1, 1) := by decide +kernel
theorem dX5_wouldBeRecomputed_12 : decode cX5_wouldBeRecomputed 12 = .ok (.invokevirtual 97, 3) := by decide +kernel
theorem dX5_wouldBeRecomputed_15 : decode cX5_wouldBeRecomputed 15 = .ok (.ifCond .eq 7, 3) := by decide +kernel
theorem dX5_wouldBeRecomputed_18 : decode cX5_wouldBeRecomputed 18 = .ok (.iconst 1, 1) := by decide +kernel
theorem dX5_wouldBeRecomputed_19 : decode cX5_wouldBeRecomputed 19 = .ok (.goto 4, 3) := by decide +kernel
theorem dX5_wouldBeRecomputed_22 : decode cX5_wouldBeRecomputed 22 = .ok (.iconst 0, 1) := by decide +kernel
theorem dX5_wouldBeRecomputed_23 : decode cX5_wouldBeRecomputed 23 = .ok (.ireturn, 1) := by decide +kernel
theorem dX5_outsideCost_0 : decode cX5_outsideCost 0 = .ok (.aload_n 0, 1) := by decide +kernel
theorem dX5_outsideCost_1 : decode cX5_outsideCost 1 = .ok (.iload_n 1, 1) := by decide +kernel
theorem dX5_outsideCost_2 : decode cX5_outsideCost 2 = .ok (.invokevirtual 93, 3) := by decide +kernel
theorem dX5_outsideCost_5 : decode cX5_outsideCost 5 = .ok (.ifCond .eq 14, 3) := by decide +kernel
theorem dX5_outsideCost_8 : decode cX5_outsideCost 8 = .ok (.aload_n 0, 1) := by decide +kernel
theorem dX5_outsideCost_9 : decode cX5_outsideCost 9 = .ok (.getfield 34, 3) := by decide +kernel
theorem dX5_outsideCost_12 : decode cX5_outsideCost 12 = .ok (.iload_n 1, 1) := by decide +kernel
theorem dX5_outsideCost_13 : decode cX5_outsideCost 13 = .ok (.invokevirtual 100, 3) := by decide +kernel
theorem dX5_outsideCost_16 : decode cX5_outsideCost 16 = .ok (.goto 11, 3) := by decide +kernel
theorem dX5_outsideCost_19 : decode cX5_outsideCost 19 = .ok (.aload_n 0, 1) := by decide +kernel
theorem dX5_outsideCost_20 : decode cX5_outsideCost 20 = .ok (.getfield 34, 3) := by decide +kernel
theorem dX5_outsideCost_23 : decode cX5_outsideCost 23 = .ok (.iload_n 1, 1) := by decide +kernel
theorem dX5_outsideCost_24 : decode cX5_outsideCost 24 = .ok (.invokevirtual 103, 3) := by decide +kernel
theorem dX5_outsideCost_27 : decode cX5_outsideCost 27 = .ok (.ireturn, 1) := by decide +kernel
theorem dX5_takeOutOne_0 : decode cX5_takeOutOne 0 = .ok (.aload_n 0, 1) := by decide +kernel
theorem dX5_takeOutOne_1 : decode cX5_takeOutOne 1 = .ok (.invokevirtual 87, 3) := by decide +kernel
theorem dX5_takeOutOne_4 : decode cX5_takeOutOne 4 = .ok (.istore_n 1, 1) := by decide +kernel
theorem dX5_takeOutOne_5 : decode cX5_takeOutOne 5 = .ok (.iconst 1, 1) := by decide +kernel
theorem dX5_takeOutOne_6 : decode cX5_takeOutOne 6 = .ok (.iload_n 1, 1) := by decide +kernel
theorem dX5_takeOutOne_7 : decode cX5_takeOutOne 7 = .ok (.ishl, 1) := by decide +kernel
theorem dX5_takeOutOne_8 : decode cX5_takeOutOne 8 = .ok (.aload_n 0, 1) := by decide +kernel
theorem dX5_takeOutOne_9 : decode cX5_takeOutOne 9 = .ok (.getfield 34, 3) := by decide +kernel
theorem dX5_takeOutOne_12 : decode cX5_takeOutOne 12 = .ok (.getfield 57, 3) := by decide +kernel
theorem dX5_takeOutOne_15 : decode cX5_takeOutOne 15 = .ok (.iload_n 1, 1) := by decide +kernel
theorem dX5_takeOutOne_16 : decode cX5_takeOutOne 16 = .ok (.iaload, 1) := by decide +kernel
theorem dX5_takeOutOne_17 : decode cX5_takeOutOne 17 = .ok (.ior, 1) := by decide +kernel
theorem dX5_takeOutOne_18 : decode cX5_takeOutOne 18 = .ok (.aload_n 0, 1) := by decide +kernel
theorem dX5_takeOutOne_19 : decode cX5_takeOutOne 19 = .ok (.iconst 0, 1) := by decide +kernel
theorem dX5_takeOutOne_20 : decode cX5_takeOutOne 20 = .ok (.invokevirtual 53, 3) := by decide +kernel
theorem dX5_takeOutOne_23 : decode cX5_takeOutOne 23 = .ok (.iand, 1) := by decide +kernel
theorem dX5_takeOutOne_24 : decode cX5_takeOutOne 24 = .ok (.istore_n 2, 1) := by decide +kernel
theorem dX5_takeOutOne_25 : decode cX5_takeOutOne 25 = .ok (.iload_n 1, 1) := by decide +kernel
theorem dX5_takeOutOne_26 : decode cX5_takeOutOne 26 = .ok (.istore_n 3, 1) := by decide +kernel
theorem dX5_takeOutOne_27 : decode cX5_takeOutOne 27 = .ok (.aload_n 0, 1) := by decide +kernel
theorem dX5_takeOutOne_28 : decode cX5_takeOutOne 28 = .ok (.iload_n 1, 1) := by decide +kernel
theorem dX5_takeOutOne_29 : decode cX5_takeOutOne 29 = .ok (.invokevirtual 90, 3) := by decide +kernel
theorem dX5_takeOutOne_32 : decode cX5_takeOutOne 32 = .ok (.istore 4, 2) := by decide +kernel
theorem dX5_takeOutOne_34 : decode cX5_takeOutOne 34 = .ok (.iconst 0, 1) := by decide +kernel
theorem dX5_takeOutOne_35 : decode cX5_takeOutOne 35 = .ok (.istore 5, 2) := by decide +kernel
theorem dX5_takeOutOne_37 : decode cX5_takeOutOne 37 = .ok (.iload 5, 2) := by decide +kernel
theorem dX5_takeOutOne_39 : decode cX5_takeOutOne 39 = .ok (.bipush 12, 2) := by decide +kernel
theorem dX5_takeOutOne_41 : decode cX5_takeOutOne 41 = .ok (.if_icmp .ge 53, 3) := by decide +kernel
theorem dX5_takeOutOne_44 : decode cX5_takeOutOne 44 = .ok (.iload_n 2, 1) := by decide +kernel
theorem dX5_takeOutOne_45 : decode cX5_takeOutOne 45 = .ok (.iload 5, 2) := by decide +kernel
theorem dX5_takeOutOne_47 : decode cX5_takeOutOne 47 = .ok (.invokestatic 83, 3) := by decide +kernel
theorem dX5_takeOutOne_50 : decode cX5_takeOutOne 50 = .ok (.ifCond .eq 38, 3) := by decide +kernel
theorem dX5_takeOutOne_53 : decode cX5_takeOutOne 53 = .ok (.aload_n 0, 1) := by decide +kernel
theorem dX5_takeOutOne_54 : decode cX5_takeOutOne 54 = .ok (.iload 5, 2) := by decide +kernel
theorem dX5_takeOutOne_56 : decode cX5_takeOutOne 56 = .ok (.invokevirtual 90, 3) := by decide +kernel
theorem dX5_takeOutOne_59 : decode cX5_takeOutOne 59 = .ok (.istore 6, 2) := by decide +kernel
theorem dX5_takeOutOne_61 : decode cX5_takeOutOne 61 = .ok (.iload 6, 2) := by decide +kernel
theorem dX5_takeOutOne_63 : decode cX5_takeOutOne 63 = .ok (.iload 4, 2) := by decide +kernel
theorem dX5_takeOutOne_65 : decode cX5_takeOutOne 65 = .ok (.if_icmp .lt 16, 3) := by decide +kernel
theorem dX5_takeOutOne_68 : decode cX5_takeOutOne 68 = .ok (.iload 6, 2) := by decide +kernel
theorem dX5_takeOutOne_70 : decode cX5_takeOutOne 70 = .ok (.iload 4, 2) := by decide +kernel
theorem dX5_takeOutOne_72 : decode cX5_takeOutOne 72 = .ok (.if_icmp .ne 16, 3) := by decide +kernel
theorem dX5_takeOutOne_75 : decode cX5_takeOutOne 75 = .ok (.iload 5, 2) := by decide +kernel
theorem dX5_takeOutOne_77 : decode cX5_takeOutOne 77 = .ok (.iload_n 3, 1) := by decide +kernel
theorem dX5_takeOutOne_78 : decode cX5_takeOutOne 78 = .ok (.if_icmp .ge 10, 3) := by decide +kernel
theorem dX5_takeOutOne_81 : decode cX5_takeOutOne 81 = .ok (.iload 5, 2) := by decide +kernel
theorem dX5_takeOutOne_83 : decode cX5_takeOutOne 83 = .ok (.istore_n 3, 1) := by decide +kernel
theorem dX5_takeOutOne_84 : decode cX5_takeOutOne 84 = .ok (.iload 6, 2) := by decide +kernel
theorem dX5_takeOutOne_86 : decode cX5_takeOutOne 86 = .ok (.istore 4, 2) := by decide +kernel
theorem dX5_takeOutOne_88 : decode cX5_takeOutOne 88 = .ok (.iinc 5 1, 3) := by decide +kernel
theorem dX5_takeOutOne_91 : decode cX5_takeOutOne 91 = .ok (.goto (-54), 3) := by decide +kernel
theorem dX5_takeOutOne_94 : decode cX5_takeOutOne 94 = .ok (.aload_n 0, 1) := by decide +kernel
theorem dX5_takeOutOne_95 : decode cX5_takeOutOne 95 = .ok (.getfield 9, 3) := by decide +kernel
theorem dX5_takeOutOne_98 : decode cX5_takeOutOne 98 = .ok (.iload_n 3, 1) := by decide +kernel
theorem dX5_takeOutOne_99 : decode cX5_takeOutOne 99 = .ok (.aload_n 0, 1) := by decide +kernel
theorem dX5_takeOutOne_100 : decode cX5_takeOutOne 100 = .ok (.iload_n 3, 1) := by decide +kernel
theorem dX5_takeOutOne_101 : decode cX5_takeOutOne 101 = .ok (.invokevirtual 93, 3) := by decide +kernel
theorem dX5_takeOutOne_104 : decode cX5_takeOutOne 104 = .ok (.ifCond .eq 7, 3) := by decide +kernel
theorem dX5_takeOutOne_107 : decode cX5_takeOutOne 107 = .ok (.iconst 2, 1) := by decide +kernel
theorem dX5_takeOutOne_108 : decode cX5_takeOutOne 108 = .ok (.goto 4, 3) := by decide +kernel
theorem dX5_takeOutOne_111 : decode cX5_takeOutOne 111 = .ok (.iconst 1, 1) := by decide +kernel
theorem dX5_takeOutOne_112 : decode cX5_takeOutOne 112 = .ok (.iastore, 1) := by decide +kernel
theorem dX5_takeOutOne_113 : decode cX5_takeOutOne 113 = .ok (.return_, 1) := by decide +kernel
theorem dX5_make_0 : decode cX5_make 0 = .ok (.aload_n 0, 1) := by decide +kernel
theorem dX5_make_1 : decode cX5_make 1 = .ok (.iload_n 1, 1) := by decide +kernel
theorem dX5_make_2 : decode cX5_make 2 = .ok (.putfield 42, 3) := by decide +kernel
theorem dX5_make_5 : decode cX5_make 5 = .ok (.aload_n 0, 1) := by decide +kernel
theorem dX5_make_6 : decode cX5_make 6 = .ok (.iload_n 2, 1) := by decide +kernel
theorem dX5_make_7 : decode cX5_make 7 = .ok (.putfield 46, 3) := by decide +kernel
theorem dX5_make_10 : decode cX5_make 10 = .ok (.aload_n 0, 1) := by decide +kernel
theorem dX5_make_11 : decode cX5_make 11 = .ok (.invokevirtual 50, 3) := by decide +kernel
theorem dX5_make_14 : decode cX5_make 14 = .ok (.aload_n 0, 1) := by decide +kernel
theorem dX5_make_15 : decode cX5_make 15 = .ok (.iconst 0, 1) := by decide +kernel
theorem dX5_make_16 : decode cX5_make 16 = .ok (.invokevirtual 53, 3) := by decide +kernel
theorem dX5_make_19 : decode cX5_make 19 = .ok (.aload_n 0, 1) := by decide +kernel
theorem dX5_make_20 : decode cX5_make 20 = .ok (.getfield 34, 3) := by decide +kernel
theorem dX5_make_23 : decode cX5_make 23 = .ok (.getfield 57, 3) := by decide +kernel
theorem dX5_make_26 : decode cX5_make 26 = .ok (.aload_n 0, 1) := by decide +kernel
theorem dX5_make_27 : decode cX5_make 27 = .ok (.getfield 15, 3) := by decide +kernel
theorem dX5_make_30 : decode cX5_make 30 = .ok (.invokestatic 62, 3) := by decide +kernel
theorem dX5_make_33 : decode cX5_make 33 = .ok (.iconst 0, 1) := by decide +kernel
theorem dX5_make_34 : decode cX5_make 34 = .ok (.istore_n 3, 1) := by decide +kernel
theorem dX5_make_35 : decode cX5_make 35 = .ok (.iload_n 3, 1) := by decide +kernel
theorem dX5_make_36 : decode cX5_make 36 = .ok (.bipush 12, 2) := by decide +kernel
theorem dX5_make_38 : decode cX5_make 38 = .ok (.if_icmp .ge 43, 3) := by decide +kernel
theorem dX5_make_41 : decode cX5_make 41 = .ok (.aload_n 0, 1) := by decide +kernel
theorem dX5_make_42 : decode cX5_make 42 = .ok (.getfield 15, 3) := by decide +kernel
theorem dX5_make_45 : decode cX5_make 45 = .ok (.invokestatic 66, 3) := by decide +kernel
theorem dX5_make_48 : decode cX5_make 48 = .ok (.iload_n 1, 1) := by decide +kernel
theorem dX5_make_49 : decode cX5_make 49 = .ok (.if_icmp .le 32, 3) := by decide +kernel
theorem dX5_make_52 : decode cX5_make 52 = .ok (.aload_n 0, 1) := by decide +kernel
theorem dX5_make_53 : decode cX5_make 53 = .ok (.invokevirtual 70, 3) := by decide +kernel
theorem dX5_make_56 : decode cX5_make 56 = .ok (.aload_n 0, 1) := by decide +kernel
theorem dX5_make_57 : decode cX5_make 57 = .ok (.iconst 0, 1) := by decide +kernel
theorem dX5_make_58 : decode cX5_make 58 = .ok (.invokevirtual 53, 3) := by decide +kernel
theorem dX5_make_61 : decode cX5_make 61 = .ok (.aload_n 0, 1) := by decide +kernel
theorem dX5_make_62 : decode cX5_make 62 = .ok (.getfield 34, 3) := by decide +kernel
theorem dX5_make_65 : decode cX5_make 65 = .ok (.getfield 57, 3) := by decide +kernel
theorem dX5_make_68 : decode cX5_make 68 = .ok (.aload_n 0, 1) := by decide +kernel
theorem dX5_make_69 : decode cX5_make 69 = .ok (.getfield 15, 3) := by decide +kernel
theorem dX5_make_72 : decode cX5_make 72 = .ok (.invokestatic 62, 3) := by decide +kernel
theorem dX5_make_75 : decode cX5_make 75 = .ok (.iinc 3 1, 3) := by decide +kernel
theorem dX5_make_78 : decode cX5_make 78 = .ok (.goto (-43), 3) := by decide +kernel
theorem dX5_make_81 : decode cX5_make 81 = .ok (.aload_n 0, 1) := by decide +kernel
theorem dX5_make_82 : decode cX5_make 82 = .ok (.iconst 1, 1) := by decide +kernel
theorem dX5_make_83 : decode cX5_make 83 = .ok (.invokevirtual 53, 3) := by decide +kernel
theorem dX5_make_86 : decode cX5_make 86 = .ok (.aload_n 0, 1) := by decide +kernel
theorem dX5_make_87 : decode cX5_make 87 = .ok (.getfield 34, 3) := by decide +kernel
theorem dX5_make_90 : decode cX5_make 90 = .ok (.getfield 57, 3) := by decide +kernel
theorem dX5_make_93 : decode cX5_make 93 = .ok (.aload_n 0, 1) := by decide +kernel
theorem dX5_make_94 : decode cX5_make 94 = .ok (.getfield 18, 3) := by decide +kernel
theorem dX5_make_97 : decode cX5_make 97 = .ok (.invokestatic 62, 3) := by decide +kernel
theorem dX5_make_100 : decode cX5_make 100 = .ok (.aload_n 0, 1) := by decide +kernel
theorem dX5_make_101 : decode cX5_make 101 = .ok (.invokevirtual 73, 3) := by decide +kernel
theorem dX5_make_104 : decode cX5_make 104 = .ok (.aload_n 0, 1) := by decide +kernel
theorem dX5_make_105 : decode cX5_make 105 = .ok (.invokevirtual 76, 3) := by decide +kernel
theorem dX5_make_108 : decode cX5_make 108 = .ok (.return_, 1) := by decide +kernel
theorem dX5_countAt_0 : decode cX5_countAt 0 = .ok (.aload_n 0, 1) := by decide +kernel
theorem dX5_countAt_1 : decode cX5_countAt 1 = .ok (.iload_n 1, 1) := by decide +kernel
theorem dX5_countAt_2 : decode cX5_countAt 2 = .ok (.invokevirtual 53, 3) := by decide +kernel
theorem dX5_countAt_5 : decode cX5_countAt 5 = .ok (.invokestatic 106, 3) := by decide +kernel
theorem dX5_countAt_8 : decode cX5_countAt 8 = .ok (.ireturn, 1) := by decide +kernel
theorem dX5_totalCost_0 : decode cX5_totalCost 0 = .ok (.aload_n 0, 1) := by decide +kernel
theorem dX5_totalCost_1 : decode cX5_totalCost 1 = .ok (.getfield 111, 3) := by decide +kernel
theorem dX5_totalCost_4 : decode cX5_totalCost 4 = .ok (.ineg, 1) := by decide +kernel
theorem dX5_totalCost_5 : decode cX5_totalCost 5 = .ok (.istore_n 1, 1) := by decide +kernel
theorem dX5_totalCost_6 : decode cX5_totalCost 6 = .ok (.iconst 0, 1) := by decide +kernel
theorem dX5_totalCost_7 : decode cX5_totalCost 7 = .ok (.istore_n 2, 1) := by decide +kernel
theorem dX5_totalCost_8 : decode cX5_totalCost 8 = .ok (.iload_n 2, 1) := by decide +kernel
theorem dX5_totalCost_9 : decode cX5_totalCost 9 = .ok (.bipush 12, 2) := by decide +kernel
theorem dX5_totalCost_11 : decode cX5_totalCost 11 = .ok (.if_icmp .ge 54, 3) := by decide +kernel
theorem dX5_totalCost_14 : decode cX5_totalCost 14 = .ok (.aload_n 0, 1) := by decide +kernel
theorem dX5_totalCost_15 : decode cX5_totalCost 15 = .ok (.getfield 9, 3) := by decide +kernel
theorem dX5_totalCost_18 : decode cX5_totalCost 18 = .ok (.iload_n 2, 1) := by decide +kernel
theorem dX5_totalCost_19 : decode cX5_totalCost 19 = .ok (.iaload, 1) := by decide +kernel
theorem dX5_totalCost_20 : decode cX5_totalCost 20 = .ok (.iconst 1, 1) := by decide +kernel
theorem dX5_totalCost_21 : decode cX5_totalCost 21 = .ok (.if_icmp .ne 17, 3) := by decide +kernel
theorem dX5_totalCost_24 : decode cX5_totalCost 24 = .ok (.iload_n 1, 1) := by decide +kernel
theorem dX5_totalCost_25 : decode cX5_totalCost 25 = .ok (.aload_n 0, 1) := by decide +kernel
theorem dX5_totalCost_26 : decode cX5_totalCost 26 = .ok (.getfield 34, 3) := by decide +kernel
theorem dX5_totalCost_29 : decode cX5_totalCost 29 = .ok (.iload_n 2, 1) := by decide +kernel
theorem dX5_totalCost_30 : decode cX5_totalCost 30 = .ok (.invokevirtual 103, 3) := by decide +kernel
theorem dX5_totalCost_33 : decode cX5_totalCost 33 = .ok (.iadd, 1) := by decide +kernel
theorem dX5_totalCost_34 : decode cX5_totalCost 34 = .ok (.istore_n 1, 1) := by decide +kernel
theorem dX5_totalCost_35 : decode cX5_totalCost 35 = .ok (.goto 24, 3) := by decide +kernel
theorem dX5_totalCost_38 : decode cX5_totalCost 38 = .ok (.aload_n 0, 1) := by decide +kernel
theorem dX5_totalCost_39 : decode cX5_totalCost 39 = .ok (.getfield 9, 3) := by decide +kernel
theorem dX5_totalCost_42 : decode cX5_totalCost 42 = .ok (.iload_n 2, 1) := by decide +kernel
theorem dX5_totalCost_43 : decode cX5_totalCost 43 = .ok (.iaload, 1) := by decide +kernel
theorem dX5_totalCost_44 : decode cX5_totalCost 44 = .ok (.iconst 2, 1) := by decide +kernel
theorem dX5_totalCost_45 : decode cX5_totalCost 45 = .ok (.if_icmp .ne 14, 3) := by decide +kernel
theorem dX5_totalCost_48 : decode cX5_totalCost 48 = .ok (.iload_n 1, 1) := by decide +kernel
theorem dX5_totalCost_49 : decode cX5_totalCost 49 = .ok (.aload_n 0, 1) := by decide +kernel
theorem dX5_totalCost_50 : decode cX5_totalCost 50 = .ok (.getfield 34, 3) := by decide +kernel
theorem dX5_totalCost_53 : decode cX5_totalCost 53 = .ok (.iload_n 2, 1) := by decide +kernel
theorem dX5_totalCost_54 : decode cX5_totalCost 54 = .ok (.invokevirtual 100, 3) := by decide +kernel
theorem dX5_totalCost_57 : decode cX5_totalCost 57 = .ok (.iadd, 1) := by decide +kernel
theorem dX5_totalCost_58 : decode cX5_totalCost 58 = .ok (.istore_n 1, 1) := by decide +kernel
theorem dX5_totalCost_59 : decode cX5_totalCost 59 = .ok (.iinc 2 1, 3) := by decide +kernel
theorem dX5_totalCost_62 : decode cX5_totalCost 62 = .ok (.goto (-54), 3) := by decide +kernel
theorem dX5_totalCost_65 : decode cX5_totalCost 65 = .ok (.iload_n 1, 1) := by decide +kernel
theorem dX5_totalCost_66 : decode cX5_totalCost 66 = .ok (.ireturn, 1) := by decide +kernel
theorem dX5_slotCount_0 : decode cX5_slotCount 0 = .ok (.aload_n 0, 1) := by decide +kernel
theorem dX5_slotCount_1 : decode cX5_slotCount 1 = .ok (.getfield 18, 3) := by decide +kernel
theorem dX5_slotCount_4 : decode cX5_slotCount 4 = .ok (.invokestatic 66, 3) := by decide +kernel
theorem dX5_slotCount_7 : decode cX5_slotCount 7 = .ok (.ireturn, 1) := by decide +kernel
theorem dX9_enough_0 : decode cX9_enough 0 = .ok (.aload_n 0, 1) := by decide +kernel
theorem dX9_enough_1 : decode cX9_enough 1 = .ok (.invokevirtual 173, 3) := by decide +kernel
theorem dX9_enough_4 : decode cX9_enough 4 = .ok (.aload_n 0, 1) := by decide +kernel
theorem dX9_enough_5 : decode cX9_enough 5 = .ok (.getfield 32, 3) := by decide +kernel
theorem dX9_enough_8 : decode cX9_enough 8 = .ok (.invokevirtual 265, 3) := by decide +kernel
theorem dX9_enough_11 : decode cX9_enough 11 = .ok (.aload_n 0, 1) := by decide +kernel
theorem dX9_enough_12 : decode cX9_enough 12 = .ok (.getfield 32, 3) := by decide +kernel
theorem dX9_enough_15 : decode cX9_enough 15 = .ok (.getfield 179, 3) := by decide +kernel
theorem dX9_enough_18 : decode cX9_enough 18 = .ok (.aload_n 0, 1) := by decide +kernel
theorem dX9_enough_19 : decode cX9_enough 19 = .ok (.getfield 66, 3) := by decide +kernel
theorem dX9_enough_22 : decode cX9_enough 22 = .ok (.invokestatic 268, 3) := by decide +kernel
theorem dX9_enough_25 : decode cX9_enough 25 = .ok (.iconst 1, 1) := by decide +kernel
theorem dX9_enough_26 : decode cX9_enough 26 = .ok (.aload_n 0, 1) := by decide +kernel
theorem dX9_enough_27 : decode cX9_enough 27 = .ok (.getfield 66, 3) := by decide +kernel
theorem dX9_enough_30 : decode cX9_enough 30 = .ok (.invokestatic 272, 3) := by decide +kernel
theorem dX9_enough_33 : decode cX9_enough 33 = .ok (.invokestatic 276, 3) := by decide +kernel
theorem dX9_enough_36 : decode cX9_enough 36 = .ok (.ireturn, 1) := by decide +kernel
theorem dX3_reset_0 : decode cX3_reset 0 = .ok (.aload_n 0, 1) := by decide +kernel
theorem dX3_reset_1 : decode cX3_reset 1 = .ok (.getfield 9, 3) := by decide +kernel
theorem dX3_reset_4 : decode cX3_reset 4 = .ok (.iconst 0, 1) := by decide +kernel
theorem dX3_reset_5 : decode cX3_reset 5 = .ok (.invokestatic 74, 3) := by decide +kernel
theorem dX3_reset_8 : decode cX3_reset 8 = .ok (.aload_n 0, 1) := by decide +kernel
theorem dX3_reset_9 : decode cX3_reset 9 = .ok (.iconst 0, 1) := by decide +kernel
theorem dX3_reset_10 : decode cX3_reset 10 = .ok (.putfield 80, 3) := by decide +kernel
theorem dX3_reset_13 : decode cX3_reset 13 = .ok (.aload_n 0, 1) := by decide +kernel
theorem dX3_reset_14 : decode cX3_reset 14 = .ok (.iconst 0, 1) := by decide +kernel
theorem dX3_reset_15 : decode cX3_reset 15 = .ok (.putfield 83, 3) := by decide +kernel
theorem dX3_reset_18 : decode cX3_reset 18 = .ok (.aload_n 0, 1) := by decide +kernel
theorem dX3_reset_19 : decode cX3_reset 19 = .ok (.iconst 0, 1) := by decide +kernel
theorem dX3_reset_20 : decode cX3_reset 20 = .ok (.putfield 86, 3) := by decide +kernel
theorem dX3_reset_23 : decode cX3_reset 23 = .ok (.return_, 1) := by decide +kernel
theorem dX4_prepare_0 : decode cX4_prepare 0 = .ok (.aload_n 0, 1) := by decide +kernel
theorem dX4_prepare_1 : decode cX4_prepare 1 = .ok (.getfield 15, 3) := by decide +kernel
theorem dX4_prepare_4 : decode cX4_prepare 4 = .ok (.getfield 19, 3) := by decide +kernel
theorem dX4_prepare_7 : decode cX4_prepare 7 = .ok (.iconst 0, 1) := by decide +kernel
theorem dX4_prepare_8 : decode cX4_prepare 8 = .ok (.aload_n 0, 1) := by decide +kernel
theorem dX4_prepare_9 : decode cX4_prepare 9 = .ok (.getfield 9, 3) := by decide +kernel
theorem dX4_prepare_12 : decode cX4_prepare 12 = .ok (.iconst 0, 1) := by decide +kernel
theorem dX4_prepare_13 : decode cX4_prepare 13 = .ok (.bipush 12, 2) := by decide +kernel
theorem dX4_prepare_15 : decode cX4_prepare 15 = .ok (.invokestatic 24, 3) := by decide +kernel
theorem dX4_prepare_18 : decode cX4_prepare 18 = .ok (.return_, 1) := by decide +kernel
theorem dX4_enter_0 : decode cX4_enter 0 = .ok (.return_, 1) := by decide +kernel
theorem dX3_moveTo_0 : decode cX3_moveTo 0 = .ok (.aload_n 0, 1) := by decide +kernel
theorem dX3_moveTo_1 : decode cX3_moveTo 1 = .ok (.iload_n 1, 1) := by decide +kernel
theorem dX3_moveTo_2 : decode cX3_moveTo 2 = .ok (.iload_n 2, 1) := by decide +kernel
theorem dX3_moveTo_3 : decode cX3_moveTo 3 = .ok (.invokevirtual 89, 3) := by decide +kernel
theorem dX3_moveTo_6 : decode cX3_moveTo 6 = .ok (.aload_n 0, 1) := by decide +kernel
theorem dX3_moveTo_7 : decode cX3_moveTo 7 = .ok (.iload_n 2, 1) := by decide +kernel
theorem dX3_moveTo_8 : decode cX3_moveTo 8 = .ok (.putfield 39, 3) := by decide +kernel
theorem dX3_moveTo_11 : decode cX3_moveTo 11 = .ok (.aload_n 0, 1) := by decide +kernel
theorem dX3_moveTo_12 : decode cX3_moveTo 12 = .ok (.getfield 9, 3) := by decide +kernel
theorem dX3_moveTo_15 : decode cX3_moveTo 15 = .ok (.iload_n 2, 1) := by decide +kernel
theorem dX3_moveTo_16 : decode cX3_moveTo 16 = .ok (.dup2, 1) := by decide +kernel
theorem dX3_moveTo_17 : decode cX3_moveTo 17 = .ok (.iaload, 1) := by decide +kernel
theorem dX3_moveTo_18 : decode cX3_moveTo 18 = .ok (.iconst 1, 1) := by decide +kernel
theorem dX3_moveTo_19 : decode cX3_moveTo 19 = .ok (.iadd, 1) := by decide +kernel
theorem dX3_moveTo_20 : decode cX3_moveTo 20 = .ok (.iastore, 1) := by decide +kernel
theorem dX3_moveTo_21 : decode cX3_moveTo 21 = .ok (.return_, 1) := by decide +kernel
theorem dX4_fetch_0 : decode cX4_fetch 0 = .ok (.aload_n 0, 1) := by decide +kernel
theorem dX4_fetch_1 : decode cX4_fetch 1 = .ok (.getfield 9, 3) := by decide +kernel
theorem dX4_fetch_4 : decode cX4_fetch 4 = .ok (.iload_n 1, 1) := by decide +kernel
theorem dX4_fetch_5 : decode cX4_fetch 5 = .ok (.iaload, 1) := by decide +kernel
theorem dX4_fetch_6 : decode cX4_fetch 6 = .ok (.ireturn, 1) := by decide +kernel
theorem dX3_nextBlock_0 : decode cX3_nextBlock 0 = .ok (.aload_n 1, 1) := by decide +kernel
theorem dX3_nextBlock_1 : decode cX3_nextBlock 1 = .ok (.getfield 57, 3) := by decide +kernel
theorem dX3_nextBlock_4 : decode cX3_nextBlock 4 = .ok (.ifCond .ne 8, 3) := by decide +kernel
theorem dX3_nextBlock_7 : decode cX3_nextBlock 7 = .ok (.aload_n 1, 1) := by decide +kernel
theorem dX3_nextBlock_8 : decode cX3_nextBlock 8 = .ok (.getfield 92, 3) := by decide +kernel
theorem dX3_nextBlock_11 : decode cX3_nextBlock 11 = .ok (.ireturn, 1) := by decide +kernel
theorem dX3_nextBlock_12 : decode cX3_nextBlock 12 = .ok (.aload_n 0, 1) := by decide +kernel
theorem dX3_nextBlock_13 : decode cX3_nextBlock 13 = .ok (.aload_n 1, 1) := by decide +kernel
theorem dX3_nextBlock_14 : decode cX3_nextBlock 14 = .ok (.getfield 60, 3) := by decide +kernel
theorem dX3_nextBlock_17 : decode cX3_nextBlock 17 = .ok (.invokevirtual 63, 3) := by decide +kernel
theorem dX3_nextBlock_20 : decode cX3_nextBlock 20 = .ok (.ifCond .eq 10, 3) := by decide +kernel
theorem dX3_nextBlock_23 : decode cX3_nextBlock 23 = .ok (.aload_n 1, 1) := by decide +kernel
theorem dX3_nextBlock_24 : decode cX3_nextBlock 24 = .ok (.getfield 92, 3) := by decide +kernel
theorem dX3_nextBlock_27 : decode cX3_nextBlock 27 = .ok (.goto 7, 3) := by decide +kernel
theorem dX3_nextBlock_30 : decode cX3_nextBlock 30 = .ok (.aload_n 1, 1) := by decide +kernel
theorem dX3_nextBlock_31 : decode cX3_nextBlock 31 = .ok (.getfield 95, 3) := by decide +kernel
theorem dX3_nextBlock_34 : decode cX3_nextBlock 34 = .ok (.ireturn, 1) := by decide +kernel
theorem dX3_valueOf_0 : decode cX3_valueOf 0 = .ok (.aload_n 1, 1) := by decide +kernel
theorem dX3_valueOf_1 : decode cX3_valueOf 1 = .ok (.getfield 98, 3) := by decide +kernel
theorem dX3_valueOf_4 : decode cX3_valueOf 4 = .ok (.iload_n 2, 1) := by decide +kernel
theorem dX3_valueOf_5 : decode cX3_valueOf 5 = .ok (.iaload, 1) := by decide +kernel
theorem dX3_valueOf_6 : decode cX3_valueOf 6 = .ok (.ifCond .ne 10, 3) := by decide +kernel
theorem dX3_valueOf_9 : decode cX3_valueOf 9 = .ok (.aload_n 1, 1) := by decide +kernel
theorem dX3_valueOf_10 : decode cX3_valueOf 10 = .ok (.getfield 101, 3) := by decide +kernel
theorem dX3_valueOf_13 : decode cX3_valueOf 13 = .ok (.iload_n 2, 1) := by decide +kernel
theorem dX3_valueOf_14 : decode cX3_valueOf 14 = .ok (.iaload, 1) := by decide +kernel
theorem dX3_valueOf_15 : decode cX3_valueOf 15 = .ok (.ireturn, 1) := by decide +kernel
theorem dX3_valueOf_16 : decode cX3_valueOf 16 = .ok (.aload_n 0, 1) := by decide +kernel
theorem dX3_valueOf_17 : decode cX3_valueOf 17 = .ok (.aload_n 1, 1) := by decide +kernel
theorem dX3_valueOf_18 : decode cX3_valueOf 18 = .ok (.getfield 101, 3) := by decide +kernel
theorem dX3_valueOf_21 : decode cX3_valueOf 21 = .ok (.iload_n 2, 1) := by decide +kernel
theorem dX3_valueOf_22 : decode cX3_valueOf 22 = .ok (.iaload, 1) := by decide +kernel
theorem dX3_valueOf_23 : decode cX3_valueOf 23 = .ok (.invokevirtual 63, 3) := by decide +kernel
theorem dX3_valueOf_26 : decode cX3_valueOf 26 = .ok (.istore_n 3, 1) := by decide +kernel
theorem dX3_valueOf_27 : decode cX3_valueOf 27 = .ok (.aload_n 1, 1) := by decide +kernel
theorem dX3_valueOf_28 : decode cX3_valueOf 28 = .ok (.getfield 98, 3) := by decide +kernel
theorem dX3_valueOf_31 : decode cX3_valueOf 31 = .ok (.iload_n 2, 1) := by decide +kernel
theorem dX3_valueOf_32 : decode cX3_valueOf 32 = .ok (.iaload, 1) := by decide +kernel
theorem dX3_valueOf_33 : decode cX3_valueOf 33 = .ok (.iconst 1, 1) := by decide +kernel
theorem dX3_valueOf_34 : decode cX3_valueOf 34 = .ok (.if_icmp .ne 5, 3) := by decide +kernel
theorem dX3_valueOf_37 : decode cX3_valueOf 37 = .ok (.iload_n 3, 1) := by decide +kernel
theorem dX3_valueOf_38 : decode cX3_valueOf 38 = .ok (.ireturn, 1) := by decide +kernel
theorem dX3_valueOf_39 : decode cX3_valueOf 39 = .ok (.aload_n 1, 1) := by decide +kernel
theorem dX3_valueOf_40 : decode cX3_valueOf 40 = .ok (.getfield 104, 3) := by decide +kernel
theorem dX3_valueOf_43 : decode cX3_valueOf 43 = .ok (.iload_n 2, 1) := by decide +kernel
theorem dX3_valueOf_44 : decode cX3_valueOf 44 = .ok (.iaload, 1) := by decide +kernel
theorem dX3_valueOf_45 : decode cX3_valueOf 45 = .ok (.aload_n 1, 1) := by decide +kernel
theorem dX3_valueOf_46 : decode cX3_valueOf 46 = .ok (.getfield 101, 3) := by decide +kernel
theorem dX3_valueOf_49 : decode cX3_valueOf 49 = .ok (.iload_n 2, 1) := by decide +kernel
theorem dX3_valueOf_50 : decode cX3_valueOf 50 = .ok (.iaload, 1) := by decide +kernel
theorem dX3_valueOf_51 : decode cX3_valueOf 51 = .ok (.if_icmp .ne 7, 3) := by decide +kernel
theorem dX3_valueOf_54 : decode cX3_valueOf 54 = .ok (.iload_n 3, 1) := by decide +kernel
theorem dX3_valueOf_55 : decode cX3_valueOf 55 = .ok (.goto 13, 3) := by decide +kernel
theorem dX3_valueOf_58 : decode cX3_valueOf 58 = .ok (.aload_n 0, 1) := by decide +kernel
theorem dX3_valueOf_59 : decode cX3_valueOf 59 = .ok (.aload_n 1, 1) := by decide +kernel
theorem dX3_valueOf_60 : decode cX3_valueOf 60 = .ok (.getfield 104, 3) := by decide +kernel
theorem dX3_valueOf_63 : decode cX3_valueOf 63 = .ok (.iload_n 2, 1) := by decide +kernel
theorem dX3_valueOf_64 : decode cX3_valueOf 64 = .ok (.iaload, 1) := by decide +kernel
theorem dX3_valueOf_65 : decode cX3_valueOf 65 = .ok (.invokevirtual 63, 3) := by decide +kernel
theorem dX3_valueOf_68 : decode cX3_valueOf 68 = .ok (.istore 4, 2) := by decide +kernel
theorem dX3_valueOf_70 : decode cX3_valueOf 70 = .ok (.aload_n 1, 1) := by decide +kernel
theorem dX3_valueOf_71 : decode cX3_valueOf 71 = .ok (.getfield 98, 3) := by decide +kernel
theorem dX3_valueOf_74 : decode cX3_valueOf 74 = .ok (.iload_n 2, 1) := by decide +kernel
theorem dX3_valueOf_75 : decode cX3_valueOf 75 = .ok (.iaload, 1) := by decide +kernel
theorem dX3_valueOf_76 : decode cX3_valueOf 76 = .ok (.lookupswitch 38 #[(2, 28), (3, 33)], 28) := by decide +kernel
theorem dX3_valueOf_104 : decode cX3_valueOf 104 = .ok (.iload_n 3, 1) := by decide +kernel
theorem dX3_valueOf_105 : decode cX3_valueOf 105 = .ok (.iload 4, 2) := by decide +kernel
theorem dX3_valueOf_107 : decode cX3_valueOf 107 = .ok (.iadd, 1) := by decide +kernel
theorem dX3_valueOf_108 : decode cX3_valueOf 108 = .ok (.ireturn, 1) := by decide +kernel
theorem dX3_valueOf_109 : decode cX3_valueOf 109 = .ok (.iload_n 3, 1) := by decide +kernel
theorem dX3_valueOf_110 : decode cX3_valueOf 110 = .ok (.iload 4, 2) := by decide +kernel
theorem dX3_valueOf_112 : decode cX3_valueOf 112 = .ok (.isub, 1) := by decide +kernel
theorem dX3_valueOf_113 : decode cX3_valueOf 113 = .ok (.ireturn, 1) := by decide +kernel
theorem dX3_valueOf_114 : decode cX3_valueOf 114 = .ok (.iload_n 3, 1) := by decide +kernel
theorem dX3_valueOf_115 : decode cX3_valueOf 115 = .ok (.iload 4, 2) := by decide +kernel
theorem dX3_valueOf_117 : decode cX3_valueOf 117 = .ok (.imul, 1) := by decide +kernel
theorem dX3_valueOf_118 : decode cX3_valueOf 118 = .ok (.ireturn, 1) := by decide +kernel
theorem dX4_put_0 : decode cX4_put 0 = .ok (.aload_n 0, 1) := by decide +kernel
theorem dX4_put_1 : decode cX4_put 1 = .ok (.getfield 9, 3) := by decide +kernel
theorem dX4_put_4 : decode cX4_put 4 = .ok (.iload_n 1, 1) := by decide +kernel
theorem dX4_put_5 : decode cX4_put 5 = .ok (.iload_n 2, 1) := by decide +kernel
theorem dX4_put_6 : decode cX4_put 6 = .ok (.iastore, 1) := by decide +kernel
theorem dX4_put_7 : decode cX4_put 7 = .ok (.return_, 1) := by decide +kernel
theorem dX3_execute_0 : decode cX3_execute 0 = .ok (.aload_n 0, 1) := by decide +kernel
theorem dX3_execute_1 : decode cX3_execute 1 = .ok (.invokevirtual 19, 3) := by decide +kernel
theorem dX3_execute_4 : decode cX3_execute 4 = .ok (.aload_n 0, 1) := by decide +kernel
theorem dX3_execute_5 : decode cX3_execute 5 = .ok (.invokevirtual 22, 3) := by decide +kernel
theorem dX3_execute_8 : decode cX3_execute 8 = .ok (.aload_n 0, 1) := by decide +kernel
theorem dX3_execute_9 : decode cX3_execute 9 = .ok (.iconst (-1), 1) := by decide +kernel
theorem dX3_execute_10 : decode cX3_execute 10 = .ok (.iconst 0, 1) := by decide +kernel
theorem dX3_execute_11 : decode cX3_execute 11 = .ok (.invokevirtual 25, 3) := by decide +kernel
theorem dX3_execute_14 : decode cX3_execute 14 = .ok (.iconst 0, 1) := by decide +kernel
theorem dX3_execute_15 : decode cX3_execute 15 = .ok (.istore_n 2, 1) := by decide +kernel
theorem dX3_execute_16 : decode cX3_execute 16 = .ok (.aload_n 0, 1) := by decide +kernel
theorem dX3_execute_17 : decode cX3_execute 17 = .ok (.iconst 1, 1) := by decide +kernel
theorem dX3_execute_18 : decode cX3_execute 18 = .ok (.putfield 29, 3) := by decide +kernel
theorem dX3_execute_21 : decode cX3_execute 21 = .ok (.aload_n 0, 1) := by decide +kernel
theorem dX3_execute_22 : decode cX3_execute 22 = .ok (.getfield 29, 3) := by decide +kernel
theorem dX3_execute_25 : decode cX3_execute 25 = .ok (.iload_n 1, 1) := by decide +kernel
theorem dX3_execute_26 : decode cX3_execute 26 = .ok (.if_icmp .gt 96, 3) := by decide +kernel
theorem dX3_execute_29 : decode cX3_execute 29 = .ok (.aload_n 0, 1) := by decide +kernel
theorem dX3_execute_30 : decode cX3_execute 30 = .ok (.getfield 15, 3) := by decide +kernel
theorem dX3_execute_33 : decode cX3_execute 33 = .ok (.getfield 33, 3) := by decide +kernel
theorem dX3_execute_36 : decode cX3_execute 36 = .ok (.aload_n 0, 1) := by decide +kernel
theorem dX3_execute_37 : decode cX3_execute 37 = .ok (.getfield 39, 3) := by decide +kernel
theorem dX3_execute_40 : decode cX3_execute 40 = .ok (.aaload, 1) := by decide +kernel
theorem dX3_execute_41 : decode cX3_execute 41 = .ok (.astore_n 3, 1) := by decide +kernel
theorem dX3_execute_42 : decode cX3_execute 42 = .ok (.iload_n 2, 1) := by decide +kernel
theorem dX3_execute_43 : decode cX3_execute 43 = .ok (.aload_n 3, 1) := by decide +kernel
theorem dX3_execute_44 : decode cX3_execute 44 = .ok (.getfield 42, 3) := by decide +kernel
theorem dX3_execute_47 : decode cX3_execute 47 = .ok (.if_icmp .ge 25, 3) := by decide +kernel
theorem dX3_execute_50 : decode cX3_execute 50 = .ok (.aload_n 0, 1) := by decide +kernel
theorem dX3_execute_51 : decode cX3_execute 51 = .ok (.aload_n 3, 1) := by decide +kernel
theorem dX3_execute_52 : decode cX3_execute 52 = .ok (.getfield 47, 3) := by decide +kernel
theorem dX3_execute_55 : decode cX3_execute 55 = .ok (.iload_n 2, 1) := by decide +kernel
theorem dX3_execute_56 : decode cX3_execute 56 = .ok (.iaload, 1) := by decide +kernel
theorem dX3_execute_57 : decode cX3_execute 57 = .ok (.aload_n 0, 1) := by decide +kernel
theorem dX3_execute_58 : decode cX3_execute 58 = .ok (.aload_n 3, 1) := by decide +kernel
theorem dX3_execute_59 : decode cX3_execute 59 = .ok (.iload_n 2, 1) := by decide +kernel
theorem dX3_execute_60 : decode cX3_execute 60 = .ok (.invokevirtual 50, 3) := by decide +kernel
theorem dX3_execute_63 : decode cX3_execute 63 = .ok (.invokevirtual 54, 3) := by decide +kernel
theorem dX3_execute_66 : decode cX3_execute 66 = .ok (.iinc 2 1, 3) := by decide +kernel
theorem dX3_execute_69 : decode cX3_execute 69 = .ok (.goto 40, 3) := by decide +kernel
theorem dX3_execute_72 : decode cX3_execute 72 = .ok (.aload_n 3, 1) := by decide +kernel
theorem dX3_execute_73 : decode cX3_execute 73 = .ok (.getfield 57, 3) := by decide +kernel
theorem dX3_execute_76 : decode cX3_execute 76 = .ok (.iconst 2, 1) := by decide +kernel
theorem dX3_execute_77 : decode cX3_execute 77 = .ok (.if_icmp .ne 17, 3) := by decide +kernel
theorem dX3_execute_80 : decode cX3_execute 80 = .ok (.aload_n 0, 1) := by decide +kernel
theorem dX3_execute_81 : decode cX3_execute 81 = .ok (.aload_n 0, 1) := by decide +kernel
theorem dX3_execute_82 : decode cX3_execute 82 = .ok (.aload_n 3, 1) := by decide +kernel
theorem dX3_execute_83 : decode cX3_execute 83 = .ok (.getfield 60, 3) := by decide +kernel
theorem dX3_execute_86 : decode cX3_execute 86 = .ok (.invokevirtual 63, 3) := by decide +kernel
theorem dX3_execute_89 : decode cX3_execute 89 = .ok (.putfield 67, 3) := by decide +kernel
theorem dX3_execute_92 : decode cX3_execute 92 = .ok (.iconst 1, 1) := by decide +kernel
theorem dX3_execute_93 : decode cX3_execute 93 = .ok (.ireturn, 1) := by decide +kernel
theorem dX3_execute_94 : decode cX3_execute 94 = .ok (.aload_n 0, 1) := by decide +kernel
theorem dX3_execute_95 : decode cX3_execute 95 = .ok (.aload_n 0, 1) := by decide +kernel
theorem dX3_execute_96 : decode cX3_execute 96 = .ok (.getfield 39, 3) := by decide +kernel
theorem dX3_execute_99 : decode cX3_execute 99 = .ok (.aload_n 0, 1) := by decide +kernel
theorem dX3_execute_100 : decode cX3_execute 100 = .ok (.aload_n 3, 1) := by decide +kernel
theorem dX3_execute_101 : decode cX3_execute 101 = .ok (.invokevirtual 70, 3) := by decide +kernel
theorem dX3_execute_104 : decode cX3_execute 104 = .ok (.invokevirtual 25, 3) := by decide +kernel
theorem dX3_execute_107 : decode cX3_execute 107 = .ok (.iconst 0, 1) := by decide +kernel
theorem dX3_execute_108 : decode cX3_execute 108 = .ok (.istore_n 2, 1) := by decide +kernel
theorem dX3_execute_109 : decode cX3_execute 109 = .ok (.aload_n 0, 1) := by decide +kernel
theorem dX3_execute_110 : decode cX3_execute 110 = .ok (.dup, 1) := by decide +kernel
theorem dX3_execute_111 : decode cX3_execute 111 = .ok (.getfield 29, 3) := by decide +kernel
theorem dX3_execute_114 : decode cX3_execute 114 = .ok (.iconst 1, 1) := by decide +kernel
theorem dX3_execute_115 : decode cX3_execute 115 = .ok (.iadd, 1) := by decide +kernel
theorem dX3_execute_116 : decode cX3_execute 116 = .ok (.putfield 29, 3) := by decide +kernel
theorem dX3_execute_119 : decode cX3_execute 119 = .ok (.goto (-98), 3) := by decide +kernel
