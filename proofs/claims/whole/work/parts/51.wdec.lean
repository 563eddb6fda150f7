theorem dL_clear_0 : decode cL_clear 0 = .ok (.aload_n 2, 1) := by decide +kernel
theorem dL_clear_1 : decode cL_clear 1 = .ok (.iconst 0, 1) := by decide +kernel
theorem dL_clear_2 : decode cL_clear 2 = .ok (.aload_n 0, 1) := by decide +kernel
theorem dL_clear_3 : decode cL_clear 3 = .ok (.iload_n 1, 1) := by decide +kernel
theorem dL_clear_4 : decode cL_clear 4 = .ok (.invokevirtual 7, 3) := by decide +kernel
theorem dL_clear_7 : decode cL_clear 7 = .ok (.i2l, 1) := by decide +kernel
theorem dL_clear_8 : decode cL_clear 8 = .ok (.lastore, 1) := by decide +kernel
theorem dL_clear_9 : decode cL_clear 9 = .ok (.goto 6, 3) := by decide +kernel
theorem dL_clear_12 : decode cL_clear 12 = .ok (.astore_n 3, 1) := by decide +kernel
theorem dL_clear_13 : decode cL_clear 13 = .ok (.iconst 1, 1) := by decide +kernel
theorem dL_clear_14 : decode cL_clear 14 = .ok (.ireturn, 1) := by decide +kernel
theorem dL_clear_15 : decode cL_clear 15 = .ok (.iconst 0, 1) := by decide +kernel
theorem dL_clear_16 : decode cL_clear 16 = .ok (.ireturn, 1) := by decide +kernel
theorem dL_append_0 : decode cL_append 0 = .ok (.aload 6, 2) := by decide +kernel
theorem dL_append_2 : decode cL_append 2 = .ok (.iconst 0, 1) := by decide +kernel
theorem dL_append_3 : decode cL_append 3 = .ok (.aload_n 0, 1) := by decide +kernel
theorem dL_append_4 : decode cL_append 4 = .ok (.iload_n 1, 1) := by decide +kernel
theorem dL_append_5 : decode cL_append 5 = .ok (.iload_n 2, 1) := by decide +kernel
theorem dL_append_6 : decode cL_append 6 = .ok (.iload_n 3, 1) := by decide +kernel
theorem dL_append_7 : decode cL_append 7 = .ok (.iload 4, 2) := by decide +kernel
theorem dL_append_9 : decode cL_append 9 = .ok (.iload 5, 2) := by decide +kernel
theorem dL_append_11 : decode cL_append 11 = .ok (.invokevirtual 15, 3) := by decide +kernel
theorem dL_append_14 : decode cL_append 14 = .ok (.i2l, 1) := by decide +kernel
theorem dL_append_15 : decode cL_append 15 = .ok (.lastore, 1) := by decide +kernel
theorem dL_append_16 : decode cL_append 16 = .ok (.goto 15, 3) := by decide +kernel
theorem dL_append_19 : decode cL_append 19 = .ok (.astore 7, 2) := by decide +kernel
theorem dL_append_21 : decode cL_append 21 = .ok (.iconst 1, 1) := by decide +kernel
theorem dL_append_22 : decode cL_append 22 = .ok (.ireturn, 1) := by decide +kernel
theorem dL_append_23 : decode cL_append 23 = .ok (.astore 7, 2) := by decide +kernel
theorem dL_append_25 : decode cL_append 25 = .ok (.iconst 2, 1) := by decide +kernel
theorem dL_append_26 : decode cL_append 26 = .ok (.ireturn, 1) := by decide +kernel
theorem dL_append_27 : decode cL_append 27 = .ok (.astore 7, 2) := by decide +kernel
theorem dL_append_29 : decode cL_append 29 = .ok (.iconst 3, 1) := by decide +kernel
theorem dL_append_30 : decode cL_append 30 = .ok (.ireturn, 1) := by decide +kernel
theorem dL_append_31 : decode cL_append 31 = .ok (.iconst 0, 1) := by decide +kernel
theorem dL_append_32 : decode cL_append 32 = .ok (.ireturn, 1) := by decide +kernel
theorem dL_removeLast_0 : decode cL_removeLast 0 = .ok (.aload_n 2, 1) := by decide +kernel
theorem dL_removeLast_1 : decode cL_removeLast 1 = .ok (.iconst 0, 1) := by decide +kernel
theorem dL_removeLast_2 : decode cL_removeLast 2 = .ok (.aload_n 0, 1) := by decide +kernel
theorem dL_removeLast_3 : decode cL_removeLast 3 = .ok (.iload_n 1, 1) := by decide +kernel
theorem dL_removeLast_4 : decode cL_removeLast 4 = .ok (.invokevirtual 23, 3) := by decide +kernel
theorem dL_removeLast_7 : decode cL_removeLast 7 = .ok (.i2l, 1) := by decide +kernel
theorem dL_removeLast_8 : decode cL_removeLast 8 = .ok (.lastore, 1) := by decide +kernel
theorem dL_removeLast_9 : decode cL_removeLast 9 = .ok (.goto 9, 3) := by decide +kernel
theorem dL_removeLast_12 : decode cL_removeLast 12 = .ok (.astore_n 3, 1) := by decide +kernel
theorem dL_removeLast_13 : decode cL_removeLast 13 = .ok (.iconst 1, 1) := by decide +kernel
theorem dL_removeLast_14 : decode cL_removeLast 14 = .ok (.ireturn, 1) := by decide +kernel
theorem dL_removeLast_15 : decode cL_removeLast 15 = .ok (.astore_n 3, 1) := by decide +kernel
theorem dL_removeLast_16 : decode cL_removeLast 16 = .ok (.iconst 2, 1) := by decide +kernel
theorem dL_removeLast_17 : decode cL_removeLast 17 = .ok (.ireturn, 1) := by decide +kernel
theorem dL_removeLast_18 : decode cL_removeLast 18 = .ok (.iconst 0, 1) := by decide +kernel
theorem dL_removeLast_19 : decode cL_removeLast 19 = .ok (.ireturn, 1) := by decide +kernel
theorem dL_setEnd_0 : decode cL_setEnd 0 = .ok (.aload 6, 2) := by decide +kernel
theorem dL_setEnd_2 : decode cL_setEnd 2 = .ok (.iconst 0, 1) := by decide +kernel
theorem dL_setEnd_3 : decode cL_setEnd 3 = .ok (.aload_n 0, 1) := by decide +kernel
theorem dL_setEnd_4 : decode cL_setEnd 4 = .ok (.iload_n 1, 1) := by decide +kernel
theorem dL_setEnd_5 : decode cL_setEnd 5 = .ok (.iload_n 2, 1) := by decide +kernel
theorem dL_setEnd_6 : decode cL_setEnd 6 = .ok (.iload_n 3, 1) := by decide +kernel
theorem dL_setEnd_7 : decode cL_setEnd 7 = .ok (.iload 4, 2) := by decide +kernel
theorem dL_setEnd_9 : decode cL_setEnd 9 = .ok (.iload 5, 2) := by decide +kernel
theorem dL_setEnd_11 : decode cL_setEnd 11 = .ok (.invokevirtual 28, 3) := by decide +kernel
theorem dL_setEnd_14 : decode cL_setEnd 14 = .ok (.i2l, 1) := by decide +kernel
theorem dL_setEnd_15 : decode cL_setEnd 15 = .ok (.lastore, 1) := by decide +kernel
theorem dL_setEnd_16 : decode cL_setEnd 16 = .ok (.goto 11, 3) := by decide +kernel
theorem dL_setEnd_19 : decode cL_setEnd 19 = .ok (.astore 7, 2) := by decide +kernel
theorem dL_setEnd_21 : decode cL_setEnd 21 = .ok (.iconst 1, 1) := by decide +kernel
theorem dL_setEnd_22 : decode cL_setEnd 22 = .ok (.ireturn, 1) := by decide +kernel
theorem dL_setEnd_23 : decode cL_setEnd 23 = .ok (.astore 7, 2) := by decide +kernel
theorem dL_setEnd_25 : decode cL_setEnd 25 = .ok (.iconst 2, 1) := by decide +kernel
theorem dL_setEnd_26 : decode cL_setEnd 26 = .ok (.ireturn, 1) := by decide +kernel
theorem dL_setEnd_27 : decode cL_setEnd 27 = .ok (.iconst 0, 1) := by decide +kernel
theorem dL_setEnd_28 : decode cL_setEnd 28 = .ok (.ireturn, 1) := by decide +kernel
theorem dL_setFrequency_0 : decode cL_setFrequency 0 = .ok (.aload_n 3, 1) := by decide +kernel
theorem dL_setFrequency_1 : decode cL_setFrequency 1 = .ok (.iconst 0, 1) := by decide +kernel
theorem dL_setFrequency_2 : decode cL_setFrequency 2 = .ok (.aload_n 0, 1) := by decide +kernel
theorem dL_setFrequency_3 : decode cL_setFrequency 3 = .ok (.iload_n 1, 1) := by decide +kernel
theorem dL_setFrequency_4 : decode cL_setFrequency 4 = .ok (.iload_n 2, 1) := by decide +kernel
theorem dL_setFrequency_5 : decode cL_setFrequency 5 = .ok (.invokevirtual 31, 3) := by decide +kernel
theorem dL_setFrequency_8 : decode cL_setFrequency 8 = .ok (.i2l, 1) := by decide +kernel
theorem dL_setFrequency_9 : decode cL_setFrequency 9 = .ok (.lastore, 1) := by decide +kernel
theorem dL_setFrequency_10 : decode cL_setFrequency 10 = .ok (.goto 11, 3) := by decide +kernel
theorem dL_setFrequency_13 : decode cL_setFrequency 13 = .ok (.astore 4, 2) := by decide +kernel
theorem dL_setFrequency_15 : decode cL_setFrequency 15 = .ok (.iconst 1, 1) := by decide +kernel
theorem dL_setFrequency_16 : decode cL_setFrequency 16 = .ok (.ireturn, 1) := by decide +kernel
theorem dL_setFrequency_17 : decode cL_setFrequency 17 = .ok (.astore 4, 2) := by decide +kernel
theorem dL_setFrequency_19 : decode cL_setFrequency 19 = .ok (.iconst 2, 1) := by decide +kernel
theorem dL_setFrequency_20 : decode cL_setFrequency 20 = .ok (.ireturn, 1) := by decide +kernel
theorem dL_setFrequency_21 : decode cL_setFrequency 21 = .ok (.iconst 0, 1) := by decide +kernel
theorem dL_setFrequency_22 : decode cL_setFrequency 22 = .ok (.ireturn, 1) := by decide +kernel
theorem dL_setInitial_0 : decode cL_setInitial 0 = .ok (.aload_n 3, 1) := by decide +kernel
theorem dL_setInitial_1 : decode cL_setInitial 1 = .ok (.iconst 0, 1) := by decide +kernel
theorem dL_setInitial_2 : decode cL_setInitial 2 = .ok (.aload_n 0, 1) := by decide +kernel
theorem dL_setInitial_3 : decode cL_setInitial 3 = .ok (.iload_n 1, 1) := by decide +kernel
theorem dL_setInitial_4 : decode cL_setInitial 4 = .ok (.iload_n 2, 1) := by decide +kernel
theorem dL_setInitial_5 : decode cL_setInitial 5 = .ok (.invokevirtual 35, 3) := by decide +kernel
theorem dL_setInitial_8 : decode cL_setInitial 8 = .ok (.i2l, 1) := by decide +kernel
theorem dL_setInitial_9 : decode cL_setInitial 9 = .ok (.lastore, 1) := by decide +kernel
theorem dL_setInitial_10 : decode cL_setInitial 10 = .ok (.goto 7, 3) := by decide +kernel
theorem dL_setInitial_13 : decode cL_setInitial 13 = .ok (.astore 4, 2) := by decide +kernel
theorem dL_setInitial_15 : decode cL_setInitial 15 = .ok (.iconst 1, 1) := by decide +kernel
theorem dL_setInitial_16 : decode cL_setInitial 16 = .ok (.ireturn, 1) := by decide +kernel
theorem dL_setInitial_17 : decode cL_setInitial 17 = .ok (.iconst 0, 1) := by decide +kernel
theorem dL_setInitial_18 : decode cL_setInitial 18 = .ok (.ireturn, 1) := by decide +kernel
theorem dL_instruction_0 : decode cL_instruction 0 = .ok (.aload 4, 2) := by decide +kernel
theorem dL_instruction_2 : decode cL_instruction 2 = .ok (.iconst 0, 1) := by decide +kernel
theorem dL_instruction_3 : decode cL_instruction 3 = .ok (.aload_n 0, 1) := by decide +kernel
theorem dL_instruction_4 : decode cL_instruction 4 = .ok (.iload_n 1, 1) := by decide +kernel
theorem dL_instruction_5 : decode cL_instruction 5 = .ok (.iload_n 2, 1) := by decide +kernel
theorem dL_instruction_6 : decode cL_instruction 6 = .ok (.iload_n 3, 1) := by decide +kernel
theorem dL_instruction_7 : decode cL_instruction 7 = .ok (.invokevirtual 38, 3) := by decide +kernel
theorem dL_instruction_10 : decode cL_instruction 10 = .ok (.i2l, 1) := by decide +kernel
theorem dL_instruction_11 : decode cL_instruction 11 = .ok (.lastore, 1) := by decide +kernel
theorem dL_instruction_12 : decode cL_instruction 12 = .ok (.goto 11, 3) := by decide +kernel
theorem dL_instruction_15 : decode cL_instruction 15 = .ok (.astore 5, 2) := by decide +kernel
theorem dL_instruction_17 : decode cL_instruction 17 = .ok (.iconst 1, 1) := by decide +kernel
theorem dL_instruction_18 : decode cL_instruction 18 = .ok (.ireturn, 1) := by decide +kernel
theorem dL_instruction_19 : decode cL_instruction 19 = .ok (.astore 5, 2) := by decide +kernel
theorem dL_instruction_21 : decode cL_instruction 21 = .ok (.iconst 2, 1) := by decide +kernel
theorem dL_instruction_22 : decode cL_instruction 22 = .ok (.ireturn, 1) := by decide +kernel
theorem dL_instruction_23 : decode cL_instruction 23 = .ok (.iconst 0, 1) := by decide +kernel
theorem dL_instruction_24 : decode cL_instruction 24 = .ok (.ireturn, 1) := by decide +kernel
theorem dL_block_0 : decode cL_block 0 = .ok (.aload_n 3, 1) := by decide +kernel
theorem dL_block_1 : decode cL_block 1 = .ok (.iconst 0, 1) := by decide +kernel
theorem dL_block_2 : decode cL_block 2 = .ok (.aload_n 0, 1) := by decide +kernel
theorem dL_block_3 : decode cL_block 3 = .ok (.iload_n 1, 1) := by decide +kernel
theorem dL_block_4 : decode cL_block 4 = .ok (.iload_n 2, 1) := by decide +kernel
theorem dL_block_5 : decode cL_block 5 = .ok (.invokevirtual 42, 3) := by decide +kernel
theorem dL_block_8 : decode cL_block 8 = .ok (.i2l, 1) := by decide +kernel
theorem dL_block_9 : decode cL_block 9 = .ok (.lastore, 1) := by decide +kernel
theorem dL_block_10 : decode cL_block 10 = .ok (.goto 11, 3) := by decide +kernel
theorem dL_block_13 : decode cL_block 13 = .ok (.astore 4, 2) := by decide +kernel
theorem dL_block_15 : decode cL_block 15 = .ok (.iconst 1, 1) := by decide +kernel
theorem dL_block_16 : decode cL_block 16 = .ok (.ireturn, 1) := by decide +kernel
theorem dL_block_17 : decode cL_block 17 = .ok (.astore 4, 2) := by decide +kernel
theorem dL_block_19 : decode cL_block 19 = .ok (.iconst 2, 1) := by decide +kernel
theorem dL_block_20 : decode cL_block 20 = .ok (.ireturn, 1) := by decide +kernel
theorem dL_block_21 : decode cL_block 21 = .ok (.iconst 0, 1) := by decide +kernel
theorem dL_block_22 : decode cL_block 22 = .ok (.ireturn, 1) := by decide +kernel
theorem dL_live_0 : decode cL_live 0 = .ok (.aload_n 3, 1) := by decide +kernel
theorem dL_live_1 : decode cL_live 1 = .ok (.iconst 0, 1) := by decide +kernel
theorem dL_live_2 : decode cL_live 2 = .ok (.aload_n 0, 1) := by decide +kernel
theorem dL_live_3 : decode cL_live 3 = .ok (.iload_n 1, 1) := by decide +kernel
theorem dL_live_4 : decode cL_live 4 = .ok (.iload_n 2, 1) := by decide +kernel
theorem dL_live_5 : decode cL_live 5 = .ok (.invokevirtual 45, 3) := by decide +kernel
theorem dL_live_8 : decode cL_live 8 = .ok (.i2l, 1) := by decide +kernel
theorem dL_live_9 : decode cL_live 9 = .ok (.lastore, 1) := by decide +kernel
theorem dL_live_10 : decode cL_live 10 = .ok (.goto 7, 3) := by decide +kernel
theorem dL_live_13 : decode cL_live 13 = .ok (.astore 4, 2) := by decide +kernel
theorem dL_live_15 : decode cL_live 15 = .ok (.iconst 1, 1) := by decide +kernel
theorem dL_live_16 : decode cL_live 16 = .ok (.ireturn, 1) := by decide +kernel
theorem dL_live_17 : decode cL_live 17 = .ok (.iconst 0, 1) := by decide +kernel
theorem dL_live_18 : decode cL_live 18 = .ok (.ireturn, 1) := by decide +kernel
theorem dL_conflicts_0 : decode cL_conflicts 0 = .ok (.aload_n 2, 1) := by decide +kernel
theorem dL_conflicts_1 : decode cL_conflicts 1 = .ok (.iconst 0, 1) := by decide +kernel
theorem dL_conflicts_2 : decode cL_conflicts 2 = .ok (.aload_n 0, 1) := by decide +kernel
theorem dL_conflicts_3 : decode cL_conflicts 3 = .ok (.iload_n 1, 1) := by decide +kernel
theorem dL_conflicts_4 : decode cL_conflicts 4 = .ok (.invokevirtual 48, 3) := by decide +kernel
theorem dL_conflicts_7 : decode cL_conflicts 7 = .ok (.i2l, 1) := by decide +kernel
theorem dL_conflicts_8 : decode cL_conflicts 8 = .ok (.lastore, 1) := by decide +kernel
theorem dL_conflicts_9 : decode cL_conflicts 9 = .ok (.goto 6, 3) := by decide +kernel
theorem dL_conflicts_12 : decode cL_conflicts 12 = .ok (.astore_n 3, 1) := by decide +kernel
theorem dL_conflicts_13 : decode cL_conflicts 13 = .ok (.iconst 1, 1) := by decide +kernel
theorem dL_conflicts_14 : decode cL_conflicts 14 = .ok (.ireturn, 1) := by decide +kernel
theorem dL_conflicts_15 : decode cL_conflicts 15 = .ok (.iconst 0, 1) := by decide +kernel
theorem dL_conflicts_16 : decode cL_conflicts 16 = .ok (.ireturn, 1) := by decide +kernel
theorem dL_loop_0 : decode cL_loop 0 = .ok (.aload_n 3, 1) := by decide +kernel
theorem dL_loop_1 : decode cL_loop 1 = .ok (.iconst 0, 1) := by decide +kernel
theorem dL_loop_2 : decode cL_loop 2 = .ok (.aload_n 0, 1) := by decide +kernel
theorem dL_loop_3 : decode cL_loop 3 = .ok (.iload_n 1, 1) := by decide +kernel
theorem dL_loop_4 : decode cL_loop 4 = .ok (.iload_n 2, 1) := by decide +kernel
theorem dL_loop_5 : decode cL_loop 5 = .ok (.invokevirtual 51, 3) := by decide +kernel
theorem dL_loop_8 : decode cL_loop 8 = .ok (.i2l, 1) := by decide +kernel
theorem dL_loop_9 : decode cL_loop 9 = .ok (.lastore, 1) := by decide +kernel
theorem dL_loop_10 : decode cL_loop 10 = .ok (.goto 11, 3) := by decide +kernel
theorem dL_loop_13 : decode cL_loop 13 = .ok (.astore 4, 2) := by decide +kernel
theorem dL_loop_15 : decode cL_loop 15 = .ok (.iconst 1, 1) := by decide +kernel
theorem dL_loop_16 : decode cL_loop 16 = .ok (.ireturn, 1) := by decide +kernel
theorem dL_loop_17 : decode cL_loop 17 = .ok (.astore 4, 2) := by decide +kernel
theorem dL_loop_19 : decode cL_loop 19 = .ok (.iconst 2, 1) := by decide +kernel
theorem dL_loop_20 : decode cL_loop 20 = .ok (.ireturn, 1) := by decide +kernel
theorem dL_loop_21 : decode cL_loop 21 = .ok (.iconst 0, 1) := by decide +kernel
theorem dL_loop_22 : decode cL_loop 22 = .ok (.ireturn, 1) := by decide +kernel
theorem dL_cost_0 : decode cL_cost 0 = .ok (.aload_n 3, 1) := by decide +kernel
theorem dL_cost_1 : decode cL_cost 1 = .ok (.iconst 0, 1) := by decide +kernel
theorem dL_cost_2 : decode cL_cost 2 = .ok (.aload_n 0, 1) := by decide +kernel
theorem dL_cost_3 : decode cL_cost 3 = .ok (.iload_n 1, 1) := by decide +kernel
theorem dL_cost_4 : decode cL_cost 4 = .ok (.iload_n 2, 1) := by decide +kernel
theorem dL_cost_5 : decode cL_cost 5 = .ok (.invokevirtual 54, 3) := by decide +kernel
theorem dL_cost_8 : decode cL_cost 8 = .ok (.i2l, 1) := by decide +kernel
theorem dL_cost_9 : decode cL_cost 9 = .ok (.lastore, 1) := by decide +kernel
theorem dL_cost_10 : decode cL_cost 10 = .ok (.goto 11, 3) := by decide +kernel
theorem dL_cost_13 : decode cL_cost 13 = .ok (.astore 4, 2) := by decide +kernel
theorem dL_cost_15 : decode cL_cost 15 = .ok (.iconst 1, 1) := by decide +kernel
theorem dL_cost_16 : decode cL_cost 16 = .ok (.ireturn, 1) := by decide +kernel
theorem dL_cost_17 : decode cL_cost 17 = .ok (.astore 4, 2) := by decide +kernel
theorem dL_cost_19 : decode cL_cost 19 = .ok (.iconst 2, 1) := by decide +kernel
theorem dL_cost_20 : decode cL_cost 20 = .ok (.ireturn, 1) := by decide +kernel
theorem dL_cost_21 : decode cL_cost 21 = .ok (.iconst 0, 1) := by decide +kernel
theorem dL_cost_22 : decode cL_cost 22 = .ok (.ireturn, 1) := by decide +kernel
theorem dL_plan_0 : decode cL_plan 0 = .ok (.aload_n 3, 1) := by decide +kernel
theorem dL_plan_1 : decode cL_plan 1 = .ok (.iconst 0, 1) := by decide +kernel
theorem dL_plan_2 : decode cL_plan 2 = .ok (.aload_n 0, 1) := by decide +kernel
theorem dL_plan_3 : decode cL_plan 3 = .ok (.iload_n 1, 1) := by decide +kernel
theorem dL_plan_4 : decode cL_plan 4 = .ok (.iload_n 2, 1) := by decide +kernel
theorem dL_plan_5 : decode cL_plan 5 = .ok (.invokevirtual 60, 3) := by decide +kernel
theorem dL_plan_8 : decode cL_plan 8 = .ok (.i2l, 1) := by decide +kernel
theorem dL_plan_9 : decode cL_plan 9 = .ok (.lastore, 1) := by decide +kernel
theorem dL_plan_10 : decode cL_plan 10 = .ok (.goto 7, 3) := by decide +kernel
theorem dL_plan_13 : decode cL_plan 13 = .ok (.astore 4, 2) := by decide +kernel
theorem dL_plan_15 : decode cL_plan 15 = .ok (.iconst 1, 1) := by decide +kernel
theorem dL_plan_16 : decode cL_plan 16 = .ok (.ireturn, 1) := by decide +kernel
theorem dL_plan_17 : decode cL_plan 17 = .ok (.iconst 0, 1) := by decide +kernel
theorem dL_plan_18 : decode cL_plan 18 = .ok (.ireturn, 1) := by decide +kernel
theorem dL_home_0 : decode cL_home 0 = .ok (.aload_n 3, 1) := by decide +kernel
theorem dL_home_1 : decode cL_home 1 = .ok (.iconst 0, 1) := by decide +kernel
theorem dL_home_2 : decode cL_home 2 = .ok (.aload_n 0, 1) := by decide +kernel
theorem dL_home_3 : decode cL_home 3 = .ok (.iload_n 1, 1) := by decide +kernel
theorem dL_home_4 : decode cL_home 4 = .ok (.iload_n 2, 1) := by decide +kernel
theorem dL_home_5 : decode cL_home 5 = .ok (.invokevirtual 63, 3) := by decide +kernel
theorem dL_home_8 : decode cL_home 8 = .ok (.i2l, 1) := by decide +kernel
theorem dL_home_9 : decode cL_home 9 = .ok (.lastore, 1) := by decide +kernel
theorem dL_home_10 : decode cL_home 10 = .ok (.goto 11, 3) := by decide +kernel
theorem dL_home_13 : decode cL_home 13 = .ok (.astore 4, 2) := by decide +kernel
theorem dL_home_15 : decode cL_home 15 = .ok (.iconst 1, 1) := by decide +kernel
theorem dL_home_16 : decode cL_home 16 = .ok (.ireturn, 1) := by decide +kernel
theorem dL_home_17 : decode cL_home 17 = .ok (.astore 4, 2) := by decide +kernel
theorem dL_home_19 : decode cL_home 19 = .ok (.iconst 2, 1) := by decide +kernel
theorem dL_home_20 : decode cL_home 20 = .ok (.ireturn, 1) := by decide +kernel
theorem dL_home_21 : decode cL_home 21 = .ok (.iconst 0, 1) := by decide +kernel
theorem dL_home_22 : decode cL_home 22 = .ok (.ireturn, 1) := by decide +kernel
theorem dL_promoted_0 : decode cL_promoted 0 = .ok (.aload_n 3, 1) := by decide +kernel
theorem dL_promoted_1 : decode cL_promoted 1 = .ok (.iconst 0, 1) := by decide +kernel
theorem dL_promoted_2 : decode cL_promoted 2 = .ok (.aload_n 0, 1) := by decide +kernel
theorem dL_promoted_3 : decode cL_promoted 3 = .ok (.iload_n 1, 1) := by decide +kernel
theorem dL_promoted_4 : decode cL_promoted 4 = .ok (.iload_n 2, 1) := by decide +kernel
theorem dL_promoted_5 : decode cL_promoted 5 = .ok (.invokevirtual 66, 3) := by decide +kernel
theorem dL_promoted_8 : decode cL_promoted 8 = .ok (.i2l, 1) := by decide +kernel
theorem dL_promoted_9 : decode cL_promoted 9 = .ok (.lastore, 1) := by decide +kernel
theorem dL_promoted_10 : decode cL_promoted 10 = .ok (.goto 19, 3) := by decide +kernel
theorem dL_promoted_13 : decode cL_promoted 13 = .ok (.astore 4, 2) := by decide +kernel
theorem dL_promoted_15 : decode cL_promoted 15 = .ok (.iconst 1, 1) := by decide +kernel
theorem dL_promoted_16 : decode cL_promoted 16 = .ok (.ireturn, 1) := by decide +kernel
theorem dL_promoted_17 : decode cL_promoted 17 = .ok (.astore 4, 2) := by decide +kernel
theorem dL_promoted_19 : decode cL_promoted 19 = .ok (.iconst 2, 1) := by decide +kernel
theorem dL_promoted_20 : decode cL_promoted 20 = .ok (.ireturn, 1) := by decide +kernel
theorem dL_promoted_21 : decode cL_promoted 21 = .ok (.astore 4, 2) := by decide +kernel
theorem dL_promoted_23 : decode cL_promoted 23 = .ok (.iconst 3, 1) := by decide +kernel
theorem dL_promoted_24 : decode cL_promoted 24 = .ok (.ireturn, 1) := by decide +kernel
theorem dL_promoted_25 : decode cL_promoted 25 = .ok (.astore 4, 2) := by decide +kernel
theorem dL_promoted_27 : decode cL_promoted 27 = .ok (.iconst 4, 1) := by decide +kernel
theorem dL_promoted_28 : decode cL_promoted 28 = .ok (.ireturn, 1) := by decide +kernel
theorem dL_promoted_29 : decode cL_promoted 29 = .ok (.iconst 0, 1) := by decide +kernel
theorem dL_promoted_30 : decode cL_promoted 30 = .ok (.ireturn, 1) := by decide +kernel
theorem dL_planned_0 : decode cL_planned 0 = .ok (.aload_n 2, 1) := by decide +kernel
theorem dL_planned_1 : decode cL_planned 1 = .ok (.iconst 0, 1) := by decide +kernel
theorem dL_planned_2 : decode cL_planned 2 = .ok (.aload_n 0, 1) := by decide +kernel
theorem dL_planned_3 : decode cL_planned 3 = .ok (.iload_n 1, 1) := by decide +kernel
theorem dL_planned_4 : decode cL_planned 4 = .ok (.invokevirtual 69, 3) := by decide +kernel
theorem dL_planned_7 : decode cL_planned 7 = .ok (.i2l, 1) := by decide +kernel
theorem dL_planned_8 : decode cL_planned 8 = .ok (.lastore, 1) := by decide +kernel
theorem dL_planned_9 : decode cL_planned 9 = .ok (.goto 9, 3) := by decide +kernel
theorem dL_planned_12 : decode cL_planned 12 = .ok (.astore_n 3, 1) := by decide +kernel
theorem dL_planned_13 : decode cL_planned 13 = .ok (.iconst 1, 1) := by decide +kernel
theorem dL_planned_14 : decode cL_planned 14 = .ok (.ireturn, 1) := by decide +kernel
theorem dL_planned_15 : decode cL_planned 15 = .ok (.astore_n 3, 1) := by decide +kernel
theorem dL_planned_16 : decode cL_planned 16 = .ok (.iconst 2, 1) := by decide +kernel
theorem dL_planned_17 : decode cL_planned 17 = .ok (.ireturn, 1) := by decide +kernel
theorem dL_planned_18 : decode cL_planned 18 = .ok (.iconst 0, 1) := by decide +kernel
theorem dL_planned_19 : decode cL_planned 19 = .ok (.ireturn, 1) := by decide +kernel
theorem dL_run_0 : decode cL_run 0 = .ok (.aload_n 2, 1) := by decide +kernel
theorem dL_run_1 : decode cL_run 1 = .ok (.iconst 0, 1) := by decide +kernel
theorem dL_run_2 : decode cL_run 2 = .ok (.aload_n 0, 1) := by decide +kernel
theorem dL_run_3 : decode cL_run 3 = .ok (.iload_n 1, 1) := by decide +kernel
theorem dL_run_4 : decode cL_run 4 = .ok (.invokevirtual 72, 3) := by decide +kernel
theorem dL_run_7 : decode cL_run 7 = .ok (.i2l, 1) := by decide +kernel
theorem dL_run_8 : decode cL_run 8 = .ok (.lastore, 1) := by decide +kernel
theorem dL_run_9 : decode cL_run 9 = .ok (.goto 9, 3) := by decide +kernel
theorem dL_run_12 : decode cL_run 12 = .ok (.astore_n 3, 1) := by decide +kernel
theorem dL_run_13 : decode cL_run 13 = .ok (.iconst 1, 1) := by decide +kernel
theorem dL_run_14 : decode cL_run 14 = .ok (.ireturn, 1) := by decide +kernel
theorem dL_run_15 : decode cL_run 15 = .ok (.astore_n 3, 1) := by decide +kernel
theorem dL_run_16 : decode cL_run 16 = .ok (.iconst 2, 1) := by decide +kernel
theorem dL_run_17 : decode cL_run 17 = .ok (.ireturn, 1) := by decide +kernel
theorem dL_run_18 : decode cL_run 18 = .ok (.iconst 0, 1) := by decide +kernel
theorem dL_run_19 : decode cL_run 19 = .ok (.ireturn, 1) := by decide +kernel
theorem dL_runPlanned_0 : decode cL_runPlanned 0 = .ok (.aload_n 2, 1) := by decide +kernel
theorem dL_runPlanned_1 : decode cL_runPlanned 1 = .ok (.iconst 0, 1) := by decide +kernel
theorem dL_runPlanned_2 : decode cL_runPlanned 2 = .ok (.aload_n 0, 1) := by decide +kernel
theorem dL_runPlanned_3 : decode cL_runPlanned 3 = .ok (.iload_n 1, 1) := by decide +kernel
theorem dL_runPlanned_4 : decode cL_runPlanned 4 = .ok (.invokevirtual 77, 3) := by decide +kernel
theorem dL_runPlanned_7 : decode cL_runPlanned 7 = .ok (.i2l, 1) := by decide +kernel
theorem dL_runPlanned_8 : decode cL_runPlanned 8 = .ok (.lastore, 1) := by decide +kernel
theorem dL_runPlanned_9 : decode cL_runPlanned 9 = .ok (.goto 12, 3) := by decide +kernel
theorem dL_runPlanned_12 : decode cL_runPlanned 12 = .ok (.astore_n 3, 1) := by decide +kernel
theorem dL_runPlanned_13 : decode cL_runPlanned 13 = .ok (.iconst 1, 1) := by decide +kernel
theorem dL_runPlanned_14 : decode cL_runPlanned 14 = .ok (.ireturn, 1) := by decide +kernel
theorem dL_runPlanned_15 : decode cL_runPlanned 15 = .ok (.astore_n 3, 1) := by decide +kernel
theorem dL_runPlanned_16 : decode cL_runPlanned 16 = .ok (.iconst 2, 1) := by decide +kernel
theorem dL_runPlanned_17 : decode cL_runPlanned 17 = .ok (.ireturn, 1) := by decide +kernel
theorem dL_runPlanned_18 : decode cL_runPlanned 18 = .ok (.astore_n 3, 1) := by decide +kernel
theorem dL_runPlanned_19 : decode cL_runPlanned 19 = .ok (.iconst 3, 1) := by decide +kernel
theorem dL_runPlanned_20 : decode cL_runPlanned 20 = .ok (.ireturn, 1) := by decide +kernel
theorem dL_runPlanned_21 : decode cL_runPlanned 21 = .ok (.iconst 0, 1) := by decide +kernel
theorem dL_runPlanned_22 : decode cL_runPlanned 22 = .ok (.ireturn, 1) := by decide +kernel
theorem dL_executed_0 : decode cL_executed 0 = .ok (.aload_n 2, 1) := by decide +kernel
theorem dL_executed_1 : decode cL_executed 1 = .ok (.iconst 0, 1) := by decide +kernel
theorem dL_executed_2 : decode cL_executed 2 = .ok (.aload_n 0, 1) := by decide +kernel
theorem dL_executed_3 : decode cL_executed 3 = .ok (.iload_n 1, 1) := by decide +kernel
theorem dL_executed_4 : decode cL_executed 4 = .ok (.invokevirtual 80, 3) := by decide +kernel
theorem dL_executed_7 : decode cL_executed 7 = .ok (.i2l, 1) := by decide +kernel
theorem dL_executed_8 : decode cL_executed 8 = .ok (.lastore, 1) := by decide +kernel
theorem dL_executed_9 : decode cL_executed 9 = .ok (.goto 6, 3) := by decide +kernel
theorem dL_executed_12 : decode cL_executed 12 = .ok (.astore_n 3, 1) := by decide +kernel
theorem dL_executed_13 : decode cL_executed 13 = .ok (.iconst 1, 1) := by decide +kernel
theorem dL_executed_14 : decode cL_executed 14 = .ok (.ireturn, 1) := by decide +kernel
theorem dL_executed_15 : decode cL_executed 15 = .ok (.iconst 0, 1) := by decide +kernel
theorem dL_executed_16 : decode cL_executed 16 = .ok (.ireturn, 1) := by decide +kernel
theorem dL_visits_0 : decode cL_visits 0 = .ok (.aload_n 2, 1) := by decide +kernel
theorem dL_visits_1 : decode cL_visits 1 = .ok (.iconst 0, 1) := by decide +kernel
theorem dL_visits_2 : decode cL_visits 2 = .ok (.aload_n 0, 1) := by decide +kernel
theorem dL_visits_3 : decode cL_visits 3 = .ok (.iload_n 1, 1) := by decide +kernel
theorem dL_visits_4 : decode cL_visits 4 = .ok (.invokevirtual 83, 3) := by decide +kernel
theorem dL_visits_7 : decode cL_visits 7 = .ok (.i2l, 1) := by decide +kernel
theorem dL_visits_8 : decode cL_visits 8 = .ok (.lastore, 1) := by decide +kernel
theorem dL_visits_9 : decode cL_visits 9 = .ok (.goto 6, 3) := by decide +kernel
theorem dL_visits_12 : decode cL_visits 12 = .ok (.astore_n 3, 1) := by decide +kernel
theorem dL_visits_13 : decode cL_visits 13 = .ok (.iconst 1, 1) := by decide +kernel
theorem dL_visits_14 : decode cL_visits 14 = .ok (.ireturn, 1) := by decide +kernel
theorem dL_visits_15 : decode cL_visits 15 = .ok (.iconst 0, 1) := by decide +kernel
theorem dL_visits_16 : decode cL_visits 16 = .ok (.ireturn, 1) := by decide +kernel
theorem dL_feed_0 : decode cL_feed 0 = .ok (.aload_n 2, 1) := by decide +kernel
theorem dL_feed_1 : decode cL_feed 1 = .ok (.iconst 0, 1) := by decide +kernel
theorem dL_feed_2 : decode cL_feed 2 = .ok (.aload_n 0, 1) := by decide +kernel
theorem dL_feed_3 : decode cL_feed 3 = .ok (.iload_n 1, 1) := by decide +kernel
theorem dL_feed_4 : decode cL_feed 4 = .ok (.invokevirtual 86, 3) := by decide +kernel
theorem dL_feed_7 : decode cL_feed 7 = .ok (.i2l, 1) := by decide +kernel
theorem dL_feed_8 : decode cL_feed 8 = .ok (.lastore, 1) := by decide +kernel
theorem dL_feed_9 : decode cL_feed 9 = .ok (.goto 6, 3) := by decide +kernel
theorem dL_feed_12 : decode cL_feed 12 = .ok (.astore_n 3, 1) := by decide +kernel
theorem dL_feed_13 : decode cL_feed 13 = .ok (.iconst 1, 1) := by decide +kernel
theorem dL_feed_14 : decode cL_feed 14 = .ok (.ireturn, 1) := by decide +kernel
theorem dL_feed_15 : decode cL_feed 15 = .ok (.iconst 0, 1) := by decide +kernel
theorem dL_feed_16 : decode cL_feed 16 = .ok (.ireturn, 1) := by decide +kernel
theorem dL_read_0 : decode cL_read 0 = .ok (.aload_n 2, 1) := by decide +kernel
theorem dL_read_1 : decode cL_read 1 = .ok (.iconst 0, 1) := by decide +kernel
theorem dL_read_2 : decode cL_read 2 = .ok (.aload_n 0, 1) := by decide +kernel
theorem dL_read_3 : decode cL_read 3 = .ok (.iload_n 1, 1) := by decide +kernel
theorem dL_read_4 : decode cL_read 4 = .ok (.invokevirtual 90, 3) := by decide +kernel
theorem dL_read_7 : decode cL_read 7 = .ok (.i2l, 1) := by decide +kernel
theorem dL_read_8 : decode cL_read 8 = .ok (.lastore, 1) := by decide +kernel
theorem dL_read_9 : decode cL_read 9 = .ok (.goto 6, 3) := by decide +kernel
theorem dL_read_12 : decode cL_read 12 = .ok (.astore_n 3, 1) := by decide +kernel
theorem dL_read_13 : decode cL_read 13 = .ok (.iconst 1, 1) := by decide +kernel
theorem dL_read_14 : decode cL_read 14 = .ok (.ireturn, 1) := by decide +kernel
theorem dL_read_15 : decode cL_read 15 = .ok (.iconst 0, 1) := by decide +kernel
theorem dL_read_16 : decode cL_read 16 = .ok (.ireturn, 1) := by decide +kernel
theorem dL_restoreSnapshot_0 : decode cL_restoreSnapshot 0 = .ok (.aload_n 1, 1) := by decide +kernel
theorem dL_restoreSnapshot_1 : decode cL_restoreSnapshot 1 = .ok (.iconst 0, 1) := by decide +kernel
theorem dL_restoreSnapshot_2 : decode cL_restoreSnapshot 2 = .ok (.aload_n 0, 1) := by decide +kernel
theorem dL_restoreSnapshot_3 : decode cL_restoreSnapshot 3 = .ok (.invokevirtual 93, 3) := by decide +kernel
theorem dL_restoreSnapshot_6 : decode cL_restoreSnapshot 6 = .ok (.i2l, 1) := by decide +kernel
theorem dL_restoreSnapshot_7 : decode cL_restoreSnapshot 7 = .ok (.lastore, 1) := by decide +kernel
theorem dL_restoreSnapshot_8 : decode cL_restoreSnapshot 8 = .ok (.goto 6, 3) := by decide +kernel
theorem dL_restoreSnapshot_11 : decode cL_restoreSnapshot 11 = .ok (.astore_n 2, 1) := by decide +kernel
theorem dL_restoreSnapshot_12 : decode cL_restoreSnapshot 12 = .ok (.iconst 1, 1) := by decide +kernel
theorem dL_restoreSnapshot_13 : decode cL_restoreSnapshot 13 = .ok (.ireturn, 1) := by decide +kernel
theorem dL_restoreSnapshot_14 : decode cL_restoreSnapshot 14 = .ok (.iconst 0, 1) := by decide +kernel
theorem dL_restoreSnapshot_15 : decode cL_restoreSnapshot 15 = .ok (.ireturn, 1) := by decide +kernel
/-! the law's own methods -/
theorem mv_RL_15_8 : mV RL 15 8 yX9_append cX9_append 7 (some .int) 5 := ⟨RX9, TX9, 14, rfl, w3_201, w1_1, w3_199, Or.inl ⟨rfl, w3_198, w3_200, by decide +kernel, by decide +kernel, by decide +kernel⟩⟩
theorem mv_RL_23_8 : mV RL 23 8 yX9_removeLast cX9_removeLast 3 (some .int) 1 := ⟨RX9, TX9, 14, rfl, w4_13, w1_1, w4_11, Or.inl ⟨rfl, w4_10, w4_12, by decide +kernel, by decide +kernel, by decide +kernel⟩⟩
theorem mv_RL_28_8 : mV RL 28 8 yX9_setEnd cX9_setEnd 8 (some .int) 5 := ⟨RX9, TX9, 14, rfl, w4_36, w1_1, w4_34, Or.inl ⟨rfl, w4_33, w4_35, by decide +kernel, by decide +kernel, by decide +kernel⟩⟩
theorem mv_RL_31_8 : mV RL 31 8 yX9_setFrequency cX9_setFrequency 5 (some .int) 2 := ⟨RX9, TX9, 14, rfl, w4_50, w1_1, w4_48, Or.inl ⟨rfl, w4_47, w4_49, by decide +kernel, by decide +kernel, by decide +kernel⟩⟩
theorem mv_RL_35_8 : mV RL 35 8 yX9_setInitial cX9_setInitial 4 (some .int) 2 := ⟨RX9, TX9, 14, rfl, w4_58, w1_1, w4_56, Or.inl ⟨rfl, w4_55, w4_57, by decide +kernel, by decide +kernel, by decide +kernel⟩⟩
theorem mv_RL_38_8 : mV RL 38 8 yX9_instruction cX9_instruction 5 (some .int) 3 := ⟨RX9, TX9, 14, rfl, w4_65, w1_1, w4_63, Or.inl ⟨rfl, w4_62, w4_64, by decide +kernel, by decide +kernel, by decide +kernel⟩⟩
theorem mv_RL_42_8 : mV RL 42 8 yX9_block cX9_block 4 (some .int) 2 := ⟨RX9, TX9, 14, rfl, w4_73, w1_1, w4_71, Or.inl ⟨rfl, w4_70, w4_72, by decide +kernel, by decide +kernel, by decide +kernel⟩⟩
theorem mv_RL_45_8 : mV RL 45 8 yX9_live cX9_live 3 (some .int) 2 := ⟨RX9, TX9, 14, rfl, w4_81, w1_1, w4_79, Or.inl ⟨rfl, w4_78, w4_80, by decide +kernel, by decide +kernel, by decide +kernel⟩⟩
theorem mv_RL_48_8 : mV RL 48 8 yX9_conflicts cX9_conflicts 2 (some .int) 1 := ⟨RX9, TX9, 14, rfl, w4_89, w1_1, w4_87, Or.inl ⟨rfl, w4_86, w4_88, by decide +kernel, by decide +kernel, by decide +kernel⟩⟩
theorem mv_RL_51_8 : mV RL 51 8 yX9_loop cX9_loop 3 (some .int) 2 := ⟨RX9, TX9, 14, rfl, w4_96, w1_1, w4_94, Or.inl ⟨rfl, w4_93, w4_95, by decide +kernel, by decide +kernel, by decide +kernel⟩⟩
theorem mv_RL_54_8 : mV RL 54 8 yX9_cost cX9_cost 3 (some .int) 2 := ⟨RX9, TX9, 14, rfl, w4_118, w1_1, w4_116, Or.inl ⟨rfl, w4_115, w4_117, by decide +kernel, by decide +kernel, by decide +kernel⟩⟩
theorem mv_RL_60_8 : mV RL 60 8 yX9_plan cX9_plan 3 (some .int) 2 := ⟨RX9, TX9, 14, rfl, w4_157, w1_1, w4_155, Or.inl ⟨rfl, w4_154, w4_156, by decide +kernel, by decide +kernel, by decide +kernel⟩⟩
theorem mv_RL_63_8 : mV RL 63 8 yX9_home cX9_home 3 (some .int) 2 := ⟨RX9, TX9, 14, rfl, w5_17, w1_1, w5_15, Or.inl ⟨rfl, w5_14, w5_16, by decide +kernel, by decide +kernel, by decide +kernel⟩⟩
theorem mv_RL_66_8 : mV RL 66 8 yX9_promoted cX9_promoted 4 (some .int) 2 := ⟨RX9, TX9, 14, rfl, w5_30, w1_1, w5_28, Or.inl ⟨rfl, w5_27, w5_29, by decide +kernel, by decide +kernel, by decide +kernel⟩⟩
theorem mv_RL_69_8 : mV RL 69 8 yX9_planned cX9_planned 2 (some .int) 1 := ⟨RX9, TX9, 14, rfl, w5_38, w1_1, w5_36, Or.inl ⟨rfl, w5_35, w5_37, by decide +kernel, by decide +kernel, by decide +kernel⟩⟩
theorem mv_RL_72_8 : mV RL 72 8 yX9_run cX9_run 2 (some .int) 1 := ⟨RX9, TX9, 14, rfl, w5_68, w1_1, w5_66, Or.inl ⟨rfl, w5_65, w5_67, by decide +kernel, by decide +kernel, by decide +kernel⟩⟩
theorem mv_RL_77_8 : mV RL 77 8 yX9_runPlanned cX9_runPlanned 2 (some .int) 1 := ⟨RX9, TX9, 14, rfl, w5_179, w1_1, w5_177, Or.inl ⟨rfl, w5_176, w5_178, by decide +kernel, by decide +kernel, by decide +kernel⟩⟩
theorem mv_RL_7_8 : mV RL 7 8 yX9_clear cX9_clear 3 (some .int) 1 := ⟨RX9, TX9, 14, rfl, w3_91, w1_1, w3_89, Or.inl ⟨rfl, w3_88, w3_90, by decide +kernel, by decide +kernel, by decide +kernel⟩⟩
theorem mv_RL_80_8 : mV RL 80 8 yX9_executed cX9_executed 2 (some .int) 1 := ⟨RX9, TX9, 14, rfl, w5_186, w1_1, w5_184, Or.inl ⟨rfl, w5_183, w5_185, by decide +kernel, by decide +kernel, by decide +kernel⟩⟩
theorem mv_RL_83_8 : mV RL 83 8 yX9_visits cX9_visits 2 (some .int) 1 := ⟨RX9, TX9, 14, rfl, w5_194, w1_1, w5_192, Or.inl ⟨rfl, w5_191, w5_193, by decide +kernel, by decide +kernel, by decide +kernel⟩⟩
theorem mv_RL_86_8 : mV RL 86 8 yX9_feed cX9_feed 2 (some .int) 1 := ⟨RX9, TX9, 14, rfl, w5_201, w1_1, w5_199, Or.inl ⟨rfl, w5_198, w5_200, by decide +kernel, by decide +kernel, by decide +kernel⟩⟩
theorem mv_RL_90_8 : mV RL 90 8 yX9_read cX9_read 3 (some .int) 1 := ⟨RX9, TX9, 14, rfl, w5_209, w1_1, w5_207, Or.inl ⟨rfl, w5_206, w5_208, by decide +kernel, by decide +kernel, by decide +kernel⟩⟩
theorem mv_RL_93_8 : mV RL 93 8 yX9_restoreSnapshot cX9_restoreSnapshot 1 (some .int) 0 := ⟨RX9, TX9, 14, rfl, w6_90, w1_1, w6_88, Or.inl ⟨rfl, w6_87, w6_89, by decide +kernel, by decide +kernel, by decide +kernel⟩⟩
theorem mt_RL_15 : Cond.code yX9_append cX9_append 7 (some .int) ∈ GW ∧ Cond.initialized yX9_append.cls ∈ GW ∧ Cond.instanceMethod yX9_append ∈ GW ∧ Cond.methodLink RL 15 yX9_append ∈ GW ∧ Cond.selects RX9 yX9_append yX9_append ∈ GW ∧ yX9_append.cls ≠ "java/lang/invoke/MethodHandle" ∧ yX9_append.cls ≠ "java/lang/invoke/VarHandle" ∧ (parseMethodDescriptor yX9_append.desc).map (fun d => d.parameters.length) = some 5 := ⟨w3_201, w1_1, w3_199, w3_198, w3_200, by decide +kernel, by decide +kernel, by decide +kernel⟩
theorem mt_RL_23 : Cond.code yX9_removeLast cX9_removeLast 3 (some .int) ∈ GW ∧ Cond.initialized yX9_removeLast.cls ∈ GW ∧ Cond.instanceMethod yX9_removeLast ∈ GW ∧ Cond.methodLink RL 23 yX9_removeLast ∈ GW ∧ Cond.selects RX9 yX9_removeLast yX9_removeLast ∈ GW ∧ yX9_removeLast.cls ≠ "java/lang/invoke/MethodHandle" ∧ yX9_removeLast.cls ≠ "java/lang/invoke/VarHandle" ∧ (parseMethodDescriptor yX9_removeLast.desc).map (fun d => d.parameters.length) = some 1 := ⟨w4_13, w1_1, w4_11, w4_10, w4_12, by decide +kernel, by decide +kernel, by decide +kernel⟩
theorem mt_RL_28 : Cond.code yX9_setEnd cX9_setEnd 8 (some .int) ∈ GW ∧ Cond.initialized yX9_setEnd.cls ∈ GW ∧ Cond.instanceMethod yX9_setEnd ∈ GW ∧ Cond.methodLink RL 28 yX9_setEnd ∈ GW ∧ Cond.selects RX9 yX9_setEnd yX9_setEnd ∈ GW ∧ yX9_setEnd.cls ≠ "java/lang/invoke/MethodHandle" ∧ yX9_setEnd.cls ≠ "java/lang/invoke/VarHandle" ∧ (parseMethodDescriptor yX9_setEnd.desc).map (fun d => d.parameters.length) = some 5 := ⟨w4_36, w1_1, w4_34, w4_33, w4_35, by decide +kernel, by decide +kernel, by decide +kernel⟩
theorem mt_RL_31 : Cond.code yX9_setFrequency cX9_setFrequency 5 (some .int) ∈ GW ∧ Cond.initialized yX9_setFrequency.cls ∈ GW ∧ Cond.instanceMethod yX9_setFrequency ∈ GW ∧ Cond.methodLink RL 31 yX9_setFrequency ∈ GW ∧ Cond.selects RX9 yX9_setFrequency yX9_setFrequency ∈ GW ∧ yX9_setFrequency.cls ≠ "java/lang/invoke/MethodHandle" ∧ yX9_setFrequency.cls ≠ "java/lang/invoke/VarHandle" ∧ (parseMethodDescriptor yX9_setFrequency.desc).map (fun d => d.parameters.length) = some 2 := ⟨w4_50, w1_1, w4_48, w4_47, w4_49, by decide +kernel, by decide +kernel, by decide +kernel⟩
theorem mt_RL_35 : Cond.code yX9_setInitial cX9_setInitial 4 (some .int) ∈ GW ∧ Cond.initialized yX9_setInitial.cls ∈ GW ∧ Cond.instanceMethod yX9_setInitial ∈ GW ∧ Cond.methodLink RL 35 yX9_setInitial ∈ GW ∧ Cond.selects RX9 yX9_setInitial yX9_setInitial ∈ GW ∧ yX9_setInitial.cls ≠ "java/lang/invoke/MethodHandle" ∧ yX9_setInitial.cls ≠ "java/lang/invoke/VarHandle" ∧ (parseMethodDescriptor yX9_setInitial.desc).map (fun d => d.parameters.length) = some 2 := ⟨w4_58, w1_1, w4_56, w4_55, w4_57, by decide +kernel, by decide +kernel, by decide +kernel⟩
theorem mt_RL_38 : Cond.code yX9_instruction cX9_instruction 5 (some .int) ∈ GW ∧ Cond.initialized yX9_instruction.cls ∈ GW ∧ Cond.instanceMethod yX9_instruction ∈ GW ∧ Cond.methodLink RL 38 yX9_instruction ∈ GW ∧ Cond.selects RX9 yX9_instruction yX9_instruction ∈ GW ∧ yX9_instruction.cls ≠ "java/lang/invoke/MethodHandle" ∧ yX9_instruction.cls ≠ "java/lang/invoke/VarHandle" ∧ (parseMethodDescriptor yX9_instruction.desc).map (fun d => d.parameters.length) = some 3 := ⟨w4_65, w1_1, w4_63, w4_62, w4_64, by decide +kernel, by decide +kernel, by decide +kernel⟩
theorem mt_RL_42 : Cond.code yX9_block cX9_block 4 (some .int) ∈ GW ∧ Cond.initialized yX9_block.cls ∈ GW ∧ Cond.instanceMethod yX9_block ∈ GW ∧ Cond.methodLink RL 42 yX9_block ∈ GW ∧ Cond.selects RX9 yX9_block yX9_block ∈ GW ∧ yX9_block.cls ≠ "java/lang/invoke/MethodHandle" ∧ yX9_block.cls ≠ "java/lang/invoke/VarHandle" ∧ (parseMethodDescriptor yX9_block.desc).map (fun d => d.parameters.length) = some 2 := ⟨w4_73, w1_1, w4_71, w4_70, w4_72, by decide +kernel, by decide +kernel, by decide +kernel⟩
theorem mt_RL_45 : Cond.code yX9_live cX9_live 3 (some .int) ∈ GW ∧ Cond.initialized yX9_live.cls ∈ GW ∧ Cond.instanceMethod yX9_live ∈ GW ∧ Cond.methodLink RL 45 yX9_live ∈ GW ∧ Cond.selects RX9 yX9_live yX9_live ∈ GW ∧ yX9_live.cls ≠ "java/lang/invoke/MethodHandle" ∧ yX9_live.cls ≠ "java/lang/invoke/VarHandle" ∧ (parseMethodDescriptor yX9_live.desc).map (fun d => d.parameters.length) = some 2 := ⟨w4_81, w1_1, w4_79, w4_78, w4_80, by decide +kernel, by decide +kernel, by decide +kernel⟩
theorem mt_RL_48 : Cond.code yX9_conflicts cX9_conflicts 2 (some .int) ∈ GW ∧ Cond.initialized yX9_conflicts.cls ∈ GW ∧ Cond.instanceMethod yX9_conflicts ∈ GW ∧ Cond.methodLink RL 48 yX9_conflicts ∈ GW ∧ Cond.selects RX9 yX9_conflicts yX9_conflicts ∈ GW ∧ yX9_conflicts.cls ≠ "java/lang/invoke/MethodHandle" ∧ yX9_conflicts.cls ≠ "java/lang/invoke/VarHandle" ∧ (parseMethodDescriptor yX9_conflicts.desc).map (fun d => d.parameters.length) = some 1 := ⟨w4_89, w1_1, w4_87, w4_86, w4_88, by decide +kernel, by decide +kernel, by decide +kernel⟩
theorem mt_RL_51 : Cond.code yX9_loop cX9_loop 3 (some .int) ∈ GW ∧ Cond.initialized yX9_loop.cls ∈ GW ∧ Cond.instanceMethod yX9_loop ∈ GW ∧ Cond.methodLink RL 51 yX9_loop ∈ GW ∧ Cond.selects RX9 yX9_loop yX9_loop ∈ GW ∧ yX9_loop.cls ≠ "java/lang/invoke/MethodHandle" ∧ yX9_loop.cls ≠ "java/lang/invoke/VarHandle" ∧ (parseMethodDescriptor yX9_loop.desc).map (fun d => d.parameters.length) = some 2 := ⟨w4_96, w1_1, w4_94, w4_93, w4_95, by decide +kernel, by decide +kernel, by decide +kernel⟩
theorem mt_RL_54 : Cond.code yX9_cost cX9_cost 3 (some .int) ∈ GW ∧ Cond.initialized yX9_cost.cls ∈ GW ∧ Cond.instanceMethod yX9_cost ∈ GW ∧ Cond.methodLink RL 54 yX9_cost ∈ GW ∧ Cond.selects RX9 yX9_cost yX9_cost ∈ GW ∧ yX9_cost.cls ≠ "java/lang/invoke/MethodHandle" ∧ yX9_cost.cls ≠ "java/lang/invoke/VarHandle" ∧ (parseMethodDescriptor yX9_cost.desc).map (fun d => d.parameters.length) = some 2 := ⟨w4_118, w1_1, w4_116, w4_115, w4_117, by decide +kernel, by decide +kernel, by decide +kernel⟩
theorem mt_RL_60 : Cond.code yX9_plan cX9_plan 3 (some .int) ∈ GW ∧ Cond.initialized yX9_plan.cls ∈ GW ∧ Cond.instanceMethod yX9_plan ∈ GW ∧ Cond.methodLink RL 60 yX9_plan ∈ GW ∧ Cond.selects RX9 yX9_plan yX9_plan ∈ GW ∧ yX9_plan.cls ≠ "java/lang/invoke/MethodHandle" ∧ yX9_plan.cls ≠ "java/lang/invoke/VarHandle" ∧ (parseMethodDescriptor yX9_plan.desc).map (fun d => d.parameters.length) = some 2 := ⟨w4_157, w1_1, w4_155, w4_154, w4_156, by decide +kernel, by decide +kernel, by decide +kernel⟩
theorem mt_RL_63 : Cond.code yX9_home cX9_home 3 (some .int) ∈ GW ∧ Cond.initialized yX9_home.cls ∈ GW ∧ Cond.instanceMethod yX9_home ∈ GW ∧ Cond.methodLink RL 63 yX9_home ∈ GW ∧ Cond.selects RX9 yX9_home yX9_home ∈ GW ∧ yX9_home.cls ≠ "java/lang/invoke/MethodHandle" ∧ yX9_home.cls ≠ "java/lang/invoke/VarHandle" ∧ (parseMethodDescriptor yX9_home.desc).map (fun d => d.parameters.length) = some 2 := ⟨w5_17, w1_1, w5_15, w5_14, w5_16, by decide +kernel, by decide +kernel, by decide +kernel⟩
theorem mt_RL_66 : Cond.code yX9_promoted cX9_promoted 4 (some .int) ∈ GW ∧ Cond.initialized yX9_promoted.cls ∈ GW ∧ Cond.instanceMethod yX9_promoted ∈ GW ∧ Cond.methodLink RL 66 yX9_promoted ∈ GW ∧ Cond.selects RX9 yX9_promoted yX9_promoted ∈ GW ∧ yX9_promoted.cls ≠ "java/lang/invoke/MethodHandle" ∧ yX9_promoted.cls ≠ "java/lang/invoke/VarHandle" ∧ (parseMethodDescriptor yX9_promoted.desc).map (fun d => d.parameters.length) = some 2 := ⟨w5_30, w1_1, w5_28, w5_27, w5_29, by decide +kernel, by decide +kernel, by decide +kernel⟩
theorem mt_RL_69 : Cond.code yX9_planned cX9_planned 2 (some .int) ∈ GW ∧ Cond.initialized yX9_planned.cls ∈ GW ∧ Cond.instanceMethod yX9_planned ∈ GW ∧ Cond.methodLink RL 69 yX9_planned ∈ GW ∧ Cond.selects RX9 yX9_planned yX9_planned ∈ GW ∧ yX9_planned.cls ≠ "java/lang/invoke/MethodHandle" ∧ yX9_planned.cls ≠ "java/lang/invoke/VarHandle" ∧ (parseMethodDescriptor yX9_planned.desc).map (fun d => d.parameters.length) = some 1 := ⟨w5_38, w1_1, w5_36, w5_35, w5_37, by decide +kernel, by decide +kernel, by decide +kernel⟩
theorem mt_RL_7 : Cond.code yX9_clear cX9_clear 3 (some .int) ∈ GW ∧ Cond.initialized yX9_clear.cls ∈ GW ∧ Cond.instanceMethod yX9_clear ∈ GW ∧ Cond.methodLink RL 7 yX9_clear ∈ GW ∧ Cond.selects RX9 yX9_clear yX9_clear ∈ GW ∧ yX9_clear.cls ≠ "java/lang/invoke/MethodHandle" ∧ yX9_clear.cls ≠ "java/lang/invoke/VarHandle" ∧ (parseMethodDescriptor yX9_clear.desc).map (fun d => d.parameters.length) = some 1 := ⟨w3_91, w1_1, w3_89, w3_88, w3_90, by decide +kernel, by decide +kernel, by decide +kernel⟩
theorem mt_RL_72 : Cond.code yX9_run cX9_run 2 (some .int) ∈ GW ∧ Cond.initialized yX9_run.cls ∈ GW ∧ Cond.instanceMethod yX9_run ∈ GW ∧ Cond.methodLink RL 72 yX9_run ∈ GW ∧ Cond.selects RX9 yX9_run yX9_run ∈ GW ∧ yX9_run.cls ≠ "java/lang/invoke/MethodHandle" ∧ yX9_run.cls ≠ "java/lang/invoke/VarHandle" ∧ (parseMethodDescriptor yX9_run.desc).map (fun d => d.parameters.length) = some 1 := ⟨w5_68, w1_1, w5_66, w5_65, w5_67, by decide +kernel, by decide +kernel, by decide +kernel⟩
theorem mt_RL_77 : Cond.code yX9_runPlanned cX9_runPlanned 2 (some .int) ∈ GW ∧ Cond.initialized yX9_runPlanned.cls ∈ GW ∧ Cond.instanceMethod yX9_runPlanned ∈ GW ∧ Cond.methodLink RL 77 yX9_runPlanned ∈ GW ∧ Cond.selects RX9 yX9_runPlanned yX9_runPlanned ∈ GW ∧ yX9_runPlanned.cls ≠ "java/lang/invoke/MethodHandle" ∧ yX9_runPlanned.cls ≠ "java/lang/invoke/VarHandle" ∧ (parseMethodDescriptor yX9_runPlanned.desc).map (fun d => d.parameters.length) = some 1 := ⟨w5_179, w1_1, w5_177, w5_176, w5_178, by decide +kernel, by decide +kernel, by decide +kernel⟩
theorem mt_RL_80 : Cond.code yX9_executed cX9_executed 2 (some .int) ∈ GW ∧ Cond.initialized yX9_executed.cls ∈ GW ∧ Cond.instanceMethod yX9_executed ∈ GW ∧ Cond.methodLink RL 80 yX9_executed ∈ GW ∧ Cond.selects RX9 yX9_executed yX9_executed ∈ GW ∧ yX9_executed.cls ≠ "java/lang/invoke/MethodHandle" ∧ yX9_executed.cls ≠ "java/lang/invoke/VarHandle" ∧ (parseMethodDescriptor yX9_executed.desc).map (fun d => d.parameters.length) = some 1 := ⟨w5_186, w1_1, w5_184, w5_183, w5_185, by decide +kernel, by decide +kernel, by decide +kernel⟩
theorem mt_RL_83 : Cond.code yX9_visits cX9_visits 2 (some .int) ∈ GW ∧ Cond.initialized yX9_visits.cls ∈ GW ∧ Cond.instanceMethod yX9_visits ∈ GW ∧ Cond.methodLink RL 83 yX9_visits ∈ GW ∧ Cond.selects RX9 yX9_visits yX9_visits ∈ GW ∧ yX9_visits.cls ≠ "java/lang/invoke/MethodHandle" ∧ yX9_visits.cls ≠ "java/lang/invoke/VarHandle" ∧ (parseMethodDescriptor yX9_visits.desc).map (fun d => d.parameters.length) = some 1 := ⟨w5_194, w1_1, w5_192, w5_191, w5_193, by decide +kernel, by decide +kernel, by decide +kernel⟩
theorem mt_RL_86 : Cond.code yX9_feed cX9_feed 2 (some .int) ∈ GW ∧ Cond.initialized yX9_feed.cls ∈ GW ∧ Cond.instanceMethod yX9_feed ∈ GW ∧ Cond.methodLink RL 86 yX9_feed ∈ GW ∧ Cond.selects RX9 yX9_feed yX9_feed ∈ GW ∧ yX9_feed.cls ≠ "java/lang/invoke/MethodHandle" ∧ yX9_feed.cls ≠ "java/lang/invoke/VarHandle" ∧ (parseMethodDescriptor yX9_feed.desc).map (fun d => d.parameters.length) = some 1 := ⟨w5_201, w1_1, w5_199, w5_198, w5_200, by decide +kernel, by decide +kernel, by decide +kernel⟩
theorem mt_RL_90 : Cond.code yX9_read cX9_read 3 (some .int) ∈ GW ∧ Cond.initialized yX9_read.cls ∈ GW ∧ Cond.instanceMethod yX9_read ∈ GW ∧ Cond.methodLink RL 90 yX9_read ∈ GW ∧ Cond.selects RX9 yX9_read yX9_read ∈ GW ∧ yX9_read.cls ≠ "java/lang/invoke/MethodHandle" ∧ yX9_read.cls ≠ "java/lang/invoke/VarHandle" ∧ (parseMethodDescriptor yX9_read.desc).map (fun d => d.parameters.length) = some 1 := ⟨w5_209, w1_1, w5_207, w5_206, w5_208, by decide +kernel, by decide +kernel, by decide +kernel⟩
theorem mt_RL_93 : Cond.code yX9_restoreSnapshot cX9_restoreSnapshot 1 (some .int) ∈ GW ∧ Cond.initialized yX9_restoreSnapshot.cls ∈ GW ∧ Cond.instanceMethod yX9_restoreSnapshot ∈ GW ∧ Cond.methodLink RL 93 yX9_restoreSnapshot ∈ GW ∧ Cond.selects RX9 yX9_restoreSnapshot yX9_restoreSnapshot ∈ GW ∧ yX9_restoreSnapshot.cls ≠ "java/lang/invoke/MethodHandle" ∧ yX9_restoreSnapshot.cls ≠ "java/lang/invoke/VarHandle" ∧ (parseMethodDescriptor yX9_restoreSnapshot.desc).map (fun d => d.parameters.length) = some 0 := ⟨w6_90, w1_1, w6_88, w6_87, w6_89, by decide +kernel, by decide +kernel, by decide +kernel⟩
