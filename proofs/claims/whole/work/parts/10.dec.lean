theorem dX10_thrown_0 : decode cX10_thrown 0 = .ok (.aload_n 0, 1) := by decide +kernel
theorem dX10_thrown_1 : decode cX10_thrown 1 = .ok (.getfield 1, 3) := by decide +kernel
theorem dX10_thrown_4 : decode cX10_thrown 4 = .ok (.ireturn, 1) := by decide +kernel
theorem dX10_fails_0 : decode cX10_fails 0 = .ok (.aload_n 0, 1) := by decide +kernel
theorem dX10_fails_1 : decode cX10_fails 1 = .ok (.iload_n 1, 1) := by decide +kernel
theorem dX10_fails_2 : decode cX10_fails 2 = .ok (.putfield 1, 3) := by decide +kernel
theorem dX10_fails_5 : decode cX10_fails 5 = .ok (.iconst 0, 1) := by decide +kernel
theorem dX10_fails_6 : decode cX10_fails 6 = .ok (.ireturn, 1) := by decide +kernel
theorem dX10_empties_0 : decode cX10_empties 0 = .ok (.iconst 0, 1) := by decide +kernel
theorem dX10_empties_1 : decode cX10_empties 1 = .ok (.istore_n 1, 1) := by decide +kernel
theorem dX10_empties_2 : decode cX10_empties 2 = .ok (.iload_n 1, 1) := by decide +kernel
theorem dX10_empties_3 : decode cX10_empties 3 = .ok (.bipush 8, 2) := by decide +kernel
theorem dX10_empties_5 : decode cX10_empties 5 = .ok (.if_icmp .ge 37, 3) := by decide +kernel
theorem dX10_empties_8 : decode cX10_empties 8 = .ok (.aload_n 0, 1) := by decide +kernel
theorem dX10_empties_9 : decode cX10_empties 9 = .ok (.getfield 23, 3) := by decide +kernel
theorem dX10_empties_12 : decode cX10_empties 12 = .ok (.iload_n 1, 1) := by decide +kernel
theorem dX10_empties_13 : decode cX10_empties 13 = .ok (.iconst 0, 1) := by decide +kernel
theorem dX10_empties_14 : decode cX10_empties 14 = .ok (.iastore, 1) := by decide +kernel
theorem dX10_empties_15 : decode cX10_empties 15 = .ok (.aload_n 0, 1) := by decide +kernel
theorem dX10_empties_16 : decode cX10_empties 16 = .ok (.getfield 27, 3) := by decide +kernel
theorem dX10_empties_19 : decode cX10_empties 19 = .ok (.iload_n 1, 1) := by decide +kernel
theorem dX10_empties_20 : decode cX10_empties 20 = .ok (.iconst 2, 1) := by decide +kernel
theorem dX10_empties_21 : decode cX10_empties 21 = .ok (.iastore, 1) := by decide +kernel
theorem dX10_empties_22 : decode cX10_empties 22 = .ok (.aload_n 0, 1) := by decide +kernel
theorem dX10_empties_23 : decode cX10_empties 23 = .ok (.getfield 30, 3) := by decide +kernel
theorem dX10_empties_26 : decode cX10_empties 26 = .ok (.iload_n 1, 1) := by decide +kernel
theorem dX10_empties_27 : decode cX10_empties 27 = .ok (.iconst 0, 1) := by decide +kernel
theorem dX10_empties_28 : decode cX10_empties 28 = .ok (.iastore, 1) := by decide +kernel
theorem dX10_empties_29 : decode cX10_empties 29 = .ok (.aload_n 0, 1) := by decide +kernel
theorem dX10_empties_30 : decode cX10_empties 30 = .ok (.getfield 39, 3) := by decide +kernel
theorem dX10_empties_33 : decode cX10_empties 33 = .ok (.iload_n 1, 1) := by decide +kernel
theorem dX10_empties_34 : decode cX10_empties 34 = .ok (.iconst 1, 1) := by decide +kernel
theorem dX10_empties_35 : decode cX10_empties 35 = .ok (.iastore, 1) := by decide +kernel
theorem dX10_empties_36 : decode cX10_empties 36 = .ok (.iinc 1 1, 3) := by decide +kernel
theorem dX10_empties_39 : decode cX10_empties 39 = .ok (.goto (-37), 3) := by decide +kernel
theorem dX10_empties_42 : decode cX10_empties 42 = .ok (.iconst 0, 1) := by decide +kernel
theorem dX10_empties_43 : decode cX10_empties 43 = .ok (.istore_n 1, 1) := by decide +kernel
theorem dX10_empties_44 : decode cX10_empties 44 = .ok (.iload_n 1, 1) := by decide +kernel
theorem dX10_empties_45 : decode cX10_empties 45 = .ok (.bipush 12, 2) := by decide +kernel
theorem dX10_empties_47 : decode cX10_empties 47 = .ok (.if_icmp .ge 16, 3) := by decide +kernel
theorem dX10_empties_50 : decode cX10_empties 50 = .ok (.aload_n 0, 1) := by decide +kernel
theorem dX10_empties_51 : decode cX10_empties 51 = .ok (.getfield 54, 3) := by decide +kernel
theorem dX10_empties_54 : decode cX10_empties 54 = .ok (.iload_n 1, 1) := by decide +kernel
theorem dX10_empties_55 : decode cX10_empties 55 = .ok (.iconst 0, 1) := by decide +kernel
theorem dX10_empties_56 : decode cX10_empties 56 = .ok (.iastore, 1) := by decide +kernel
theorem dX10_empties_57 : decode cX10_empties 57 = .ok (.iinc 1 1, 3) := by decide +kernel
theorem dX10_empties_60 : decode cX10_empties 60 = .ok (.goto (-16), 3) := by decide +kernel
theorem dX10_empties_63 : decode cX10_empties 63 = .ok (.return_, 1) := by decide +kernel
theorem dX10_in_0 : decode cX10_in 0 = .ok (.iload_n 0, 1) := by decide +kernel
theorem dX10_in_1 : decode cX10_in 1 = .ok (.iload_n 1, 1) := by decide +kernel
theorem dX10_in_2 : decode cX10_in 2 = .ok (.if_icmp .lt 12, 3) := by decide +kernel
theorem dX10_in_5 : decode cX10_in 5 = .ok (.iload_n 0, 1) := by decide +kernel
theorem dX10_in_6 : decode cX10_in 6 = .ok (.iload_n 2, 1) := by decide +kernel
theorem dX10_in_7 : decode cX10_in 7 = .ok (.if_icmp .gt 7, 3) := by decide +kernel
theorem dX10_in_10 : decode cX10_in 10 = .ok (.iconst 1, 1) := by decide +kernel
theorem dX10_in_11 : decode cX10_in 11 = .ok (.goto 4, 3) := by decide +kernel
theorem dX10_in_14 : decode cX10_in 14 = .ok (.iconst 0, 1) := by decide +kernel
theorem dX10_in_15 : decode cX10_in 15 = .ok (.ireturn, 1) := by decide +kernel
theorem dX10_isBlock_0 : decode cX10_isBlock 0 = .ok (.iload_n 1, 1) := by decide +kernel
theorem dX10_isBlock_1 : decode cX10_isBlock 1 = .ok (.iconst 0, 1) := by decide +kernel
theorem dX10_isBlock_2 : decode cX10_isBlock 2 = .ok (.aload_n 0, 1) := by decide +kernel
theorem dX10_isBlock_3 : decode cX10_isBlock 3 = .ok (.getfield 17, 3) := by decide +kernel
theorem dX10_isBlock_6 : decode cX10_isBlock 6 = .ok (.iconst 1, 1) := by decide +kernel
theorem dX10_isBlock_7 : decode cX10_isBlock 7 = .ok (.isub, 1) := by decide +kernel
theorem dX10_isBlock_8 : decode cX10_isBlock 8 = .ok (.invokestatic 7, 3) := by decide +kernel
theorem dX10_isBlock_11 : decode cX10_isBlock 11 = .ok (.ireturn, 1) := by decide +kernel
theorem dX10_clear_0 : decode cX10_clear 0 = .ok (.aload_n 0, 1) := by decide +kernel
theorem dX10_clear_1 : decode cX10_clear 1 = .ok (.iconst 0, 1) := by decide +kernel
theorem dX10_clear_2 : decode cX10_clear 2 = .ok (.putfield 1, 3) := by decide +kernel
theorem dX10_clear_5 : decode cX10_clear 5 = .ok (.iload_n 1, 1) := by decide +kernel
theorem dX10_clear_6 : decode cX10_clear 6 = .ok (.iconst 1, 1) := by decide +kernel
theorem dX10_clear_7 : decode cX10_clear 7 = .ok (.bipush 8, 2) := by decide +kernel
theorem dX10_clear_9 : decode cX10_clear 9 = .ok (.invokestatic 7, 3) := by decide +kernel
theorem dX10_clear_12 : decode cX10_clear 12 = .ok (.ifCond .ne 9, 3) := by decide +kernel
theorem dX10_clear_15 : decode cX10_clear 15 = .ok (.aload_n 0, 1) := by decide +kernel
theorem dX10_clear_16 : decode cX10_clear 16 = .ok (.iconst 1, 1) := by decide +kernel
theorem dX10_clear_17 : decode cX10_clear 17 = .ok (.invokevirtual 217, 3) := by decide +kernel
theorem dX10_clear_20 : decode cX10_clear 20 = .ok (.ireturn, 1) := by decide +kernel
theorem dX10_clear_21 : decode cX10_clear 21 = .ok (.aload_n 0, 1) := by decide +kernel
theorem dX10_clear_22 : decode cX10_clear 22 = .ok (.getfield 17, 3) := by decide +kernel
theorem dX10_clear_25 : decode cX10_clear 25 = .ok (.istore_n 2, 1) := by decide +kernel
theorem dX10_clear_26 : decode cX10_clear 26 = .ok (.aload_n 0, 1) := by decide +kernel
theorem dX10_clear_27 : decode cX10_clear 27 = .ok (.iload_n 1, 1) := by decide +kernel
theorem dX10_clear_28 : decode cX10_clear 28 = .ok (.putfield 17, 3) := by decide +kernel
theorem dX10_clear_31 : decode cX10_clear 31 = .ok (.aload_n 0, 1) := by decide +kernel
theorem dX10_clear_32 : decode cX10_clear 32 = .ok (.invokevirtual 214, 3) := by decide +kernel
theorem dX10_clear_35 : decode cX10_clear 35 = .ok (.aload_n 0, 1) := by decide +kernel
theorem dX10_clear_36 : decode cX10_clear 36 = .ok (.iconst 0, 1) := by decide +kernel
theorem dX10_clear_37 : decode cX10_clear 37 = .ok (.putfield 57, 3) := by decide +kernel
theorem dX10_clear_40 : decode cX10_clear 40 = .ok (.iload_n 2, 1) := by decide +kernel
theorem dX10_clear_41 : decode cX10_clear 41 = .ok (.ireturn, 1) := by decide +kernel
theorem dX10_lays_0 : decode cX10_lays 0 = .ok (.bipush 8, 2) := by decide +kernel
theorem dX10_lays_2 : decode cX10_lays 2 = .ok (.iload_n 1, 1) := by decide +kernel
theorem dX10_lays_3 : decode cX10_lays 3 = .ok (.imul, 1) := by decide +kernel
theorem dX10_lays_4 : decode cX10_lays 4 = .ok (.aload_n 0, 1) := by decide +kernel
theorem dX10_lays_5 : decode cX10_lays 5 = .ok (.getfield 23, 3) := by decide +kernel
theorem dX10_lays_8 : decode cX10_lays 8 = .ok (.iload_n 1, 1) := by decide +kernel
theorem dX10_lays_9 : decode cX10_lays 9 = .ok (.iaload, 1) := by decide +kernel
theorem dX10_lays_10 : decode cX10_lays 10 = .ok (.iadd, 1) := by decide +kernel
theorem dX10_lays_11 : decode cX10_lays 11 = .ok (.istore 6, 2) := by decide +kernel
theorem dX10_lays_13 : decode cX10_lays 13 = .ok (.aload_n 0, 1) := by decide +kernel
theorem dX10_lays_14 : decode cX10_lays 14 = .ok (.getfield 42, 3) := by decide +kernel
theorem dX10_lays_17 : decode cX10_lays 17 = .ok (.iload 6, 2) := by decide +kernel
theorem dX10_lays_19 : decode cX10_lays 19 = .ok (.iload_n 2, 1) := by decide +kernel
theorem dX10_lays_20 : decode cX10_lays 20 = .ok (.iastore, 1) := by decide +kernel
theorem dX10_lays_21 : decode cX10_lays 21 = .ok (.aload_n 0, 1) := by decide +kernel
theorem dX10_lays_22 : decode cX10_lays 22 = .ok (.getfield 45, 3) := by decide +kernel
theorem dX10_lays_25 : decode cX10_lays 25 = .ok (.iload 6, 2) := by decide +kernel
theorem dX10_lays_27 : decode cX10_lays 27 = .ok (.iload_n 3, 1) := by decide +kernel
theorem dX10_lays_28 : decode cX10_lays 28 = .ok (.iastore, 1) := by decide +kernel
theorem dX10_lays_29 : decode cX10_lays 29 = .ok (.aload_n 0, 1) := by decide +kernel
theorem dX10_lays_30 : decode cX10_lays 30 = .ok (.getfield 48, 3) := by decide +kernel
theorem dX10_lays_33 : decode cX10_lays 33 = .ok (.iload 6, 2) := by decide +kernel
theorem dX10_lays_35 : decode cX10_lays 35 = .ok (.iload 4, 2) := by decide +kernel
theorem dX10_lays_37 : decode cX10_lays 37 = .ok (.iastore, 1) := by decide +kernel
theorem dX10_lays_38 : decode cX10_lays 38 = .ok (.aload_n 0, 1) := by decide +kernel
theorem dX10_lays_39 : decode cX10_lays 39 = .ok (.getfield 51, 3) := by decide +kernel
theorem dX10_lays_42 : decode cX10_lays 42 = .ok (.iload 6, 2) := by decide +kernel
theorem dX10_lays_44 : decode cX10_lays 44 = .ok (.iload_n 2, 1) := by decide +kernel
theorem dX10_lays_45 : decode cX10_lays 45 = .ok (.iconst 2, 1) := by decide +kernel
theorem dX10_lays_46 : decode cX10_lays 46 = .ok (.if_icmp .ge 7, 3) := by decide +kernel
theorem dX10_lays_49 : decode cX10_lays 49 = .ok (.iconst (-1), 1) := by decide +kernel
theorem dX10_lays_50 : decode cX10_lays 50 = .ok (.goto 5, 3) := by decide +kernel
theorem dX10_lays_53 : decode cX10_lays 53 = .ok (.iload 5, 2) := by decide +kernel
theorem dX10_lays_55 : decode cX10_lays 55 = .ok (.iastore, 1) := by decide +kernel
theorem dX10_lays_56 : decode cX10_lays 56 = .ok (.aload_n 0, 1) := by decide +kernel
theorem dX10_lays_57 : decode cX10_lays 57 = .ok (.getfield 23, 3) := by decide +kernel
theorem dX10_lays_60 : decode cX10_lays 60 = .ok (.iload_n 1, 1) := by decide +kernel
theorem dX10_lays_61 : decode cX10_lays 61 = .ok (.dup2, 1) := by decide +kernel
theorem dX10_lays_62 : decode cX10_lays 62 = .ok (.iaload, 1) := by decide +kernel
theorem dX10_lays_63 : decode cX10_lays 63 = .ok (.iconst 1, 1) := by decide +kernel
theorem dX10_lays_64 : decode cX10_lays 64 = .ok (.iadd, 1) := by decide +kernel
theorem dX10_lays_65 : decode cX10_lays 65 = .ok (.iastore, 1) := by decide +kernel
theorem dX10_lays_66 : decode cX10_lays 66 = .ok (.return_, 1) := by decide +kernel
theorem dX10_isVariable_0 : decode cX10_isVariable 0 = .ok (.iload_n 0, 1) := by decide +kernel
theorem dX10_isVariable_1 : decode cX10_isVariable 1 = .ok (.iconst 0, 1) := by decide +kernel
theorem dX10_isVariable_2 : decode cX10_isVariable 2 = .ok (.bipush 11, 2) := by decide +kernel
theorem dX10_isVariable_4 : decode cX10_isVariable 4 = .ok (.invokestatic 7, 3) := by decide +kernel
theorem dX10_isVariable_7 : decode cX10_isVariable 7 = .ok (.ireturn, 1) := by decide +kernel
theorem dX10_append_0 : decode cX10_append 0 = .ok (.aload_n 0, 1) := by decide +kernel
theorem dX10_append_1 : decode cX10_append 1 = .ok (.iconst 0, 1) := by decide +kernel
theorem dX10_append_2 : decode cX10_append 2 = .ok (.putfield 1, 3) := by decide +kernel
theorem dX10_append_5 : decode cX10_append 5 = .ok (.aload_n 0, 1) := by decide +kernel
theorem dX10_append_6 : decode cX10_append 6 = .ok (.iload_n 1, 1) := by decide +kernel
theorem dX10_append_7 : decode cX10_append 7 = .ok (.invokevirtual 221, 3) := by decide +kernel
theorem dX10_append_10 : decode cX10_append 10 = .ok (.ifCond .ne 9, 3) := by decide +kernel
theorem dX10_append_13 : decode cX10_append 13 = .ok (.aload_n 0, 1) := by decide +kernel
theorem dX10_append_14 : decode cX10_append 14 = .ok (.iconst 1, 1) := by decide +kernel
theorem dX10_append_15 : decode cX10_append 15 = .ok (.invokevirtual 217, 3) := by decide +kernel
theorem dX10_append_18 : decode cX10_append 18 = .ok (.ireturn, 1) := by decide +kernel
theorem dX10_append_19 : decode cX10_append 19 = .ok (.iload_n 2, 1) := by decide +kernel
theorem dX10_append_20 : decode cX10_append 20 = .ok (.iconst 0, 1) := by decide +kernel
theorem dX10_append_21 : decode cX10_append 21 = .ok (.iconst 4, 1) := by decide +kernel
theorem dX10_append_22 : decode cX10_append 22 = .ok (.invokestatic 7, 3) := by decide +kernel
theorem dX10_append_25 : decode cX10_append 25 = .ok (.ifCond .eq 52, 3) := by decide +kernel
theorem dX10_append_28 : decode cX10_append 28 = .ok (.iload_n 3, 1) := by decide +kernel
theorem dX10_append_29 : decode cX10_append 29 = .ok (.invokestatic 225, 3) := by decide +kernel
theorem dX10_append_32 : decode cX10_append 32 = .ok (.ifCond .eq 45, 3) := by decide +kernel
theorem dX10_append_35 : decode cX10_append 35 = .ok (.iload_n 2, 1) := by decide +kernel
theorem dX10_append_36 : decode cX10_append 36 = .ok (.ifCond .ne 20, 3) := by decide +kernel
theorem dX10_append_39 : decode cX10_append 39 = .ok (.iload 4, 2) := by decide +kernel
theorem dX10_append_41 : decode cX10_append 41 = .ok (.sipush (-999), 3) := by decide +kernel
theorem dX10_append_44 : decode cX10_append 44 = .ok (.sipush 999, 3) := by decide +kernel
theorem dX10_append_47 : decode cX10_append 47 = .ok (.invokestatic 7, 3) := by decide +kernel
theorem dX10_append_50 : decode cX10_append 50 = .ok (.ifCond .ne 14, 3) := by decide +kernel
theorem dX10_append_53 : decode cX10_append 53 = .ok (.goto 24, 3) := by decide +kernel
theorem dX10_append_56 : decode cX10_append 56 = .ok (.iload 4, 2) := by decide +kernel
theorem dX10_append_58 : decode cX10_append 58 = .ok (.invokestatic 225, 3) := by decide +kernel
theorem dX10_append_61 : decode cX10_append 61 = .ok (.ifCond .eq 16, 3) := by decide +kernel
theorem dX10_append_64 : decode cX10_append 64 = .ok (.iload_n 2, 1) := by decide +kernel
theorem dX10_append_65 : decode cX10_append 65 = .ok (.iconst 2, 1) := by decide +kernel
theorem dX10_append_66 : decode cX10_append 66 = .ok (.if_icmp .lt 17, 3) := by decide +kernel
theorem dX10_append_69 : decode cX10_append 69 = .ok (.iload 5, 2) := by decide +kernel
theorem dX10_append_71 : decode cX10_append 71 = .ok (.invokestatic 225, 3) := by decide +kernel
theorem dX10_append_74 : decode cX10_append 74 = .ok (.ifCond .ne 9, 3) := by decide +kernel
theorem dX10_append_77 : decode cX10_append 77 = .ok (.aload_n 0, 1) := by decide +kernel
theorem dX10_append_78 : decode cX10_append 78 = .ok (.iconst 2, 1) := by decide +kernel
theorem dX10_append_79 : decode cX10_append 79 = .ok (.invokevirtual 217, 3) := by decide +kernel
theorem dX10_append_82 : decode cX10_append 82 = .ok (.ireturn, 1) := by decide +kernel
theorem dX10_append_83 : decode cX10_append 83 = .ok (.aload_n 0, 1) := by decide +kernel
theorem dX10_append_84 : decode cX10_append 84 = .ok (.getfield 23, 3) := by decide +kernel
theorem dX10_append_87 : decode cX10_append 87 = .ok (.iload_n 1, 1) := by decide +kernel
theorem dX10_append_88 : decode cX10_append 88 = .ok (.iaload, 1) := by decide +kernel
theorem dX10_append_89 : decode cX10_append 89 = .ok (.bipush 8, 2) := by decide +kernel
theorem dX10_append_91 : decode cX10_append 91 = .ok (.if_icmp .ne 9, 3) := by decide +kernel
theorem dX10_append_94 : decode cX10_append 94 = .ok (.aload_n 0, 1) := by decide +kernel
theorem dX10_append_95 : decode cX10_append 95 = .ok (.iconst 3, 1) := by decide +kernel
theorem dX10_append_96 : decode cX10_append 96 = .ok (.invokevirtual 217, 3) := by decide +kernel
theorem dX10_append_99 : decode cX10_append 99 = .ok (.ireturn, 1) := by decide +kernel
theorem dX10_append_100 : decode cX10_append 100 = .ok (.aload_n 0, 1) := by decide +kernel
theorem dX10_append_101 : decode cX10_append 101 = .ok (.iload_n 1, 1) := by decide +kernel
theorem dX10_append_102 : decode cX10_append 102 = .ok (.iload_n 2, 1) := by decide +kernel
theorem dX10_append_103 : decode cX10_append 103 = .ok (.iload_n 3, 1) := by decide +kernel
theorem dX10_append_104 : decode cX10_append 104 = .ok (.iload 4, 2) := by decide +kernel
theorem dX10_append_106 : decode cX10_append 106 = .ok (.iload 5, 2) := by decide +kernel
theorem dX10_append_108 : decode cX10_append 108 = .ok (.invokevirtual 228, 3) := by decide +kernel
theorem dX10_append_111 : decode cX10_append 111 = .ok (.aload_n 0, 1) := by decide +kernel
theorem dX10_append_112 : decode cX10_append 112 = .ok (.iconst 0, 1) := by decide +kernel
theorem dX10_append_113 : decode cX10_append 113 = .ok (.putfield 57, 3) := by decide +kernel
theorem dX10_append_116 : decode cX10_append 116 = .ok (.aload_n 0, 1) := by decide +kernel
theorem dX10_append_117 : decode cX10_append 117 = .ok (.getfield 23, 3) := by decide +kernel
theorem dX10_append_120 : decode cX10_append 120 = .ok (.iload_n 1, 1) := by decide +kernel
theorem dX10_append_121 : decode cX10_append 121 = .ok (.iaload, 1) := by decide +kernel
theorem dX10_append_122 : decode cX10_append 122 = .ok (.ireturn, 1) := by decide +kernel
theorem dX10_removeLast_0 : decode cX10_removeLast 0 = .ok (.aload_n 0, 1) := by decide +kernel
theorem dX10_removeLast_1 : decode cX10_removeLast 1 = .ok (.iconst 0, 1) := by decide +kernel
theorem dX10_removeLast_2 : decode cX10_removeLast 2 = .ok (.putfield 1, 3) := by decide +kernel
theorem dX10_removeLast_5 : decode cX10_removeLast 5 = .ok (.aload_n 0, 1) := by decide +kernel
theorem dX10_removeLast_6 : decode cX10_removeLast 6 = .ok (.iload_n 1, 1) := by decide +kernel
theorem dX10_removeLast_7 : decode cX10_removeLast 7 = .ok (.invokevirtual 221, 3) := by decide +kernel
theorem dX10_removeLast_10 : decode cX10_removeLast 10 = .ok (.ifCond .ne 9, 3) := by decide +kernel
theorem dX10_removeLast_13 : decode cX10_removeLast 13 = .ok (.aload_n 0, 1) := by decide +kernel
theorem dX10_removeLast_14 : decode cX10_removeLast 14 = .ok (.iconst 1, 1) := by decide +kernel
theorem dX10_removeLast_15 : decode cX10_removeLast 15 = .ok (.invokevirtual 217, 3) := by decide +kernel
theorem dX10_removeLast_18 : decode cX10_removeLast 18 = .ok (.ireturn, 1) := by decide +kernel
theorem dX10_removeLast_19 : decode cX10_removeLast 19 = .ok (.aload_n 0, 1) := by decide +kernel
theorem dX10_removeLast_20 : decode cX10_removeLast 20 = .ok (.getfield 23, 3) := by decide +kernel
theorem dX10_removeLast_23 : decode cX10_removeLast 23 = .ok (.iload_n 1, 1) := by decide +kernel
theorem dX10_removeLast_24 : decode cX10_removeLast 24 = .ok (.iaload, 1) := by decide +kernel
theorem dX10_removeLast_25 : decode cX10_removeLast 25 = .ok (.ifCond .ne 9, 3) := by decide +kernel
theorem dX10_removeLast_28 : decode cX10_removeLast 28 = .ok (.aload_n 0, 1) := by decide +kernel
theorem dX10_removeLast_29 : decode cX10_removeLast 29 = .ok (.iconst 2, 1) := by decide +kernel
theorem dX10_removeLast_30 : decode cX10_removeLast 30 = .ok (.invokevirtual 217, 3) := by decide +kernel
theorem dX10_removeLast_33 : decode cX10_removeLast 33 = .ok (.ireturn, 1) := by decide +kernel
theorem dX10_removeLast_34 : decode cX10_removeLast 34 = .ok (.aload_n 0, 1) := by decide +kernel
theorem dX10_removeLast_35 : decode cX10_removeLast 35 = .ok (.getfield 23, 3) := by decide +kernel
theorem dX10_removeLast_38 : decode cX10_removeLast 38 = .ok (.iload_n 1, 1) := by decide +kernel
theorem dX10_removeLast_39 : decode cX10_removeLast 39 = .ok (.dup2, 1) := by decide +kernel
theorem dX10_removeLast_40 : decode cX10_removeLast 40 = .ok (.iaload, 1) := by decide +kernel
theorem dX10_removeLast_41 : decode cX10_removeLast 41 = .ok (.iconst 1, 1) := by decide +kernel
theorem dX10_removeLast_42 : decode cX10_removeLast 42 = .ok (.isub, 1) := by decide +kernel
theorem dX10_removeLast_43 : decode cX10_removeLast 43 = .ok (.iastore, 1) := by decide +kernel
theorem dX10_removeLast_44 : decode cX10_removeLast 44 = .ok (.aload_n 0, 1) := by decide +kernel
theorem dX10_removeLast_45 : decode cX10_removeLast 45 = .ok (.iconst 0, 1) := by decide +kernel
theorem dX10_removeLast_46 : decode cX10_removeLast 46 = .ok (.putfield 57, 3) := by decide +kernel
theorem dX10_removeLast_49 : decode cX10_removeLast 49 = .ok (.aload_n 0, 1) := by decide +kernel
theorem dX10_removeLast_50 : decode cX10_removeLast 50 = .ok (.getfield 42, 3) := by decide +kernel
theorem dX10_removeLast_53 : decode cX10_removeLast 53 = .ok (.bipush 8, 2) := by decide +kernel
theorem dX10_removeLast_55 : decode cX10_removeLast 55 = .ok (.iload_n 1, 1) := by decide +kernel
theorem dX10_removeLast_56 : decode cX10_removeLast 56 = .ok (.imul, 1) := by decide +kernel
theorem dX10_removeLast_57 : decode cX10_removeLast 57 = .ok (.aload_n 0, 1) := by decide +kernel
theorem dX10_removeLast_58 : decode cX10_removeLast 58 = .ok (.getfield 23, 3) := by decide +kernel
theorem dX10_removeLast_61 : decode cX10_removeLast 61 = .ok (.iload_n 1, 1) := by decide +kernel
theorem dX10_removeLast_62 : decode cX10_removeLast 62 = .ok (.iaload, 1) := by decide +kernel
theorem dX10_removeLast_63 : decode cX10_removeLast 63 = .ok (.iadd, 1) := by decide +kernel
theorem dX10_removeLast_64 : decode cX10_removeLast 64 = .ok (.iaload, 1) := by decide +kernel
theorem dX10_removeLast_65 : decode cX10_removeLast 65 = .ok (.ireturn, 1) := by decide +kernel
theorem dX10_ends_0 : decode cX10_ends 0 = .ok (.aload_n 0, 1) := by decide +kernel
theorem dX10_ends_1 : decode cX10_ends 1 = .ok (.getfield 27, 3) := by decide +kernel
theorem dX10_ends_4 : decode cX10_ends 4 = .ok (.iload_n 1, 1) := by decide +kernel
theorem dX10_ends_5 : decode cX10_ends 5 = .ok (.iload_n 2, 1) := by decide +kernel
theorem dX10_ends_6 : decode cX10_ends 6 = .ok (.iastore, 1) := by decide +kernel
theorem dX10_ends_7 : decode cX10_ends 7 = .ok (.aload_n 0, 1) := by decide +kernel
theorem dX10_ends_8 : decode cX10_ends 8 = .ok (.getfield 30, 3) := by decide +kernel
theorem dX10_ends_11 : decode cX10_ends 11 = .ok (.iload_n 1, 1) := by decide +kernel
theorem dX10_ends_12 : decode cX10_ends 12 = .ok (.iload_n 3, 1) := by decide +kernel
theorem dX10_ends_13 : decode cX10_ends 13 = .ok (.iastore, 1) := by decide +kernel
theorem dX10_ends_14 : decode cX10_ends 14 = .ok (.aload_n 0, 1) := by decide +kernel
theorem dX10_ends_15 : decode cX10_ends 15 = .ok (.getfield 33, 3) := by decide +kernel
theorem dX10_ends_18 : decode cX10_ends 18 = .ok (.iload_n 1, 1) := by decide +kernel
theorem dX10_ends_19 : decode cX10_ends 19 = .ok (.iload 4, 2) := by decide +kernel
theorem dX10_ends_21 : decode cX10_ends 21 = .ok (.iastore, 1) := by decide +kernel
theorem dX10_ends_22 : decode cX10_ends 22 = .ok (.aload_n 0, 1) := by decide +kernel
theorem dX10_ends_23 : decode cX10_ends 23 = .ok (.getfield 36, 3) := by decide +kernel
theorem dX10_ends_26 : decode cX10_ends 26 = .ok (.iload_n 1, 1) := by decide +kernel
theorem dX10_ends_27 : decode cX10_ends 27 = .ok (.iload 5, 2) := by decide +kernel
theorem dX10_ends_29 : decode cX10_ends 29 = .ok (.iastore, 1) := by decide +kernel
theorem dX10_ends_30 : decode cX10_ends 30 = .ok (.return_, 1) := by decide +kernel
theorem dX10_setEnd_0 : decode cX10_setEnd 0 = .ok (.aload_n 0, 1) := by decide +kernel
theorem dX10_setEnd_1 : decode cX10_setEnd 1 = .ok (.iconst 0, 1) := by decide +kernel
theorem dX10_setEnd_2 : decode cX10_setEnd 2 = .ok (.putfield 1, 3) := by decide +kernel
theorem dX10_setEnd_5 : decode cX10_setEnd 5 = .ok (.aload_n 0, 1) := by decide +kernel
theorem dX10_setEnd_6 : decode cX10_setEnd 6 = .ok (.iload_n 1, 1) := by decide +kernel
theorem dX10_setEnd_7 : decode cX10_setEnd 7 = .ok (.invokevirtual 221, 3) := by decide +kernel
theorem dX10_setEnd_10 : decode cX10_setEnd 10 = .ok (.ifCond .eq 35, 3) := by decide +kernel
theorem dX10_setEnd_13 : decode cX10_setEnd 13 = .ok (.iload_n 2, 1) := by decide +kernel
theorem dX10_setEnd_14 : decode cX10_setEnd 14 = .ok (.ifCond .eq 8, 3) := by decide +kernel
theorem dX10_setEnd_17 : decode cX10_setEnd 17 = .ok (.iload_n 2, 1) := by decide +kernel
theorem dX10_setEnd_18 : decode cX10_setEnd 18 = .ok (.iconst 1, 1) := by decide +kernel
theorem dX10_setEnd_19 : decode cX10_setEnd 19 = .ok (.if_icmp .ne 12, 3) := by decide +kernel
theorem dX10_setEnd_22 : decode cX10_setEnd 22 = .ok (.aload_n 0, 1) := by decide +kernel
theorem dX10_setEnd_23 : decode cX10_setEnd 23 = .ok (.iload 4, 2) := by decide +kernel
theorem dX10_setEnd_25 : decode cX10_setEnd 25 = .ok (.invokevirtual 221, 3) := by decide +kernel
theorem dX10_setEnd_28 : decode cX10_setEnd 28 = .ok (.ifCond .eq 17, 3) := by decide +kernel
theorem dX10_setEnd_31 : decode cX10_setEnd 31 = .ok (.iload_n 2, 1) := by decide +kernel
theorem dX10_setEnd_32 : decode cX10_setEnd 32 = .ok (.iconst 1, 1) := by decide +kernel
theorem dX10_setEnd_33 : decode cX10_setEnd 33 = .ok (.if_icmp .ne 18, 3) := by decide +kernel
theorem dX10_setEnd_36 : decode cX10_setEnd 36 = .ok (.aload_n 0, 1) := by decide +kernel
theorem dX10_setEnd_37 : decode cX10_setEnd 37 = .ok (.iload 5, 2) := by decide +kernel
theorem dX10_setEnd_39 : decode cX10_setEnd 39 = .ok (.invokevirtual 221, 3) := by decide +kernel
theorem dX10_setEnd_42 : decode cX10_setEnd 42 = .ok (.ifCond .ne 9, 3) := by decide +kernel
theorem dX10_setEnd_45 : decode cX10_setEnd 45 = .ok (.aload_n 0, 1) := by decide +kernel
theorem dX10_setEnd_46 : decode cX10_setEnd 46 = .ok (.iconst 1, 1) := by decide +kernel
theorem dX10_setEnd_47 : decode cX10_setEnd 47 = .ok (.invokevirtual 217, 3) := by decide +kernel
theorem dX10_setEnd_50 : decode cX10_setEnd 50 = .ok (.ireturn, 1) := by decide +kernel
theorem dX10_setEnd_51 : decode cX10_setEnd 51 = .ok (.iload_n 2, 1) := by decide +kernel
theorem dX10_setEnd_52 : decode cX10_setEnd 52 = .ok (.iconst 0, 1) := by decide +kernel
theorem dX10_setEnd_53 : decode cX10_setEnd 53 = .ok (.iconst 2, 1) := by decide +kernel
theorem dX10_setEnd_54 : decode cX10_setEnd 54 = .ok (.invokestatic 7, 3) := by decide +kernel
theorem dX10_setEnd_57 : decode cX10_setEnd 57 = .ok (.ifCond .eq 14, 3) := by decide +kernel
theorem dX10_setEnd_60 : decode cX10_setEnd 60 = .ok (.iload_n 2, 1) := by decide +kernel
theorem dX10_setEnd_61 : decode cX10_setEnd 61 = .ok (.ifCond .eq 16, 3) := by decide +kernel
theorem dX10_setEnd_64 : decode cX10_setEnd 64 = .ok (.iload_n 3, 1) := by decide +kernel
theorem dX10_setEnd_65 : decode cX10_setEnd 65 = .ok (.invokestatic 225, 3) := by decide +kernel
theorem dX10_setEnd_68 : decode cX10_setEnd 68 = .ok (.ifCond .ne 9, 3) := by decide +kernel
theorem dX10_setEnd_71 : decode cX10_setEnd 71 = .ok (.aload_n 0, 1) := by decide +kernel
theorem dX10_setEnd_72 : decode cX10_setEnd 72 = .ok (.iconst 2, 1) := by decide +kernel
theorem dX10_setEnd_73 : decode cX10_setEnd 73 = .ok (.invokevirtual 217, 3) := by decide +kernel
theorem dX10_setEnd_76 : decode cX10_setEnd 76 = .ok (.ireturn, 1) := by decide +kernel
theorem dX10_setEnd_77 : decode cX10_setEnd 77 = .ok (.aload_n 0, 1) := by decide +kernel
theorem dX10_setEnd_78 : decode cX10_setEnd 78 = .ok (.getfield 27, 3) := by decide +kernel
theorem dX10_setEnd_81 : decode cX10_setEnd 81 = .ok (.iload_n 1, 1) := by decide +kernel
theorem dX10_setEnd_82 : decode cX10_setEnd 82 = .ok (.iaload, 1) := by decide +kernel
theorem dX10_setEnd_83 : decode cX10_setEnd 83 = .ok (.istore 6, 2) := by decide +kernel
theorem dX10_setEnd_85 : decode cX10_setEnd 85 = .ok (.aload_n 0, 1) := by decide +kernel
theorem dX10_setEnd_86 : decode cX10_setEnd 86 = .ok (.iload_n 1, 1) := by decide +kernel
theorem dX10_setEnd_87 : decode cX10_setEnd 87 = .ok (.iload_n 2, 1) := by decide +kernel
theorem dX10_setEnd_88 : decode cX10_setEnd 88 = .ok (.iload_n 3, 1) := by decide +kernel
theorem dX10_setEnd_89 : decode cX10_setEnd 89 = .ok (.iload 4, 2) := by decide +kernel
theorem dX10_setEnd_91 : decode cX10_setEnd 91 = .ok (.iload 5, 2) := by decide +kernel
theorem dX10_setEnd_93 : decode cX10_setEnd 93 = .ok (.invokevirtual 232, 3) := by decide +kernel
theorem dX10_setEnd_96 : decode cX10_setEnd 96 = .ok (.aload_n 0, 1) := by decide +kernel
theorem dX10_setEnd_97 : decode cX10_setEnd 97 = .ok (.iconst 0, 1) := by decide +kernel
theorem dX10_setEnd_98 : decode cX10_setEnd 98 = .ok (.putfield 57, 3) := by decide +kernel
theorem dX10_setEnd_101 : decode cX10_setEnd 101 = .ok (.iload 6, 2) := by decide +kernel
theorem dX10_setEnd_103 : decode cX10_setEnd 103 = .ok (.ireturn, 1) := by decide +kernel
theorem dX10_setFrequency_0 : decode cX10_setFrequency 0 = .ok (.aload_n 0, 1) := by decide +kernel
theorem dX10_setFrequency_1 : decode cX10_setFrequency 1 = .ok (.iconst 0, 1) := by decide +kernel
theorem dX10_setFrequency_2 : decode cX10_setFrequency 2 = .ok (.putfield 1, 3) := by decide +kernel
theorem dX10_setFrequency_5 : decode cX10_setFrequency 5 = .ok (.aload_n 0, 1) := by decide +kernel
theorem dX10_setFrequency_6 : decode cX10_setFrequency 6 = .ok (.iload_n 1, 1) := by decide +kernel
theorem dX10_setFrequency_7 : decode cX10_setFrequency 7 = .ok (.invokevirtual 221, 3) := by decide +kernel
theorem dX10_setFrequency_10 : decode cX10_setFrequency 10 = .ok (.ifCond .ne 9, 3) := by decide +kernel
theorem dX10_setFrequency_13 : decode cX10_setFrequency 13 = .ok (.aload_n 0, 1) := by decide +kernel
theorem dX10_setFrequency_14 : decode cX10_setFrequency 14 = .ok (.iconst 1, 1) := by decide +kernel
theorem dX10_setFrequency_15 : decode cX10_setFrequency 15 = .ok (.invokevirtual 217, 3) := by decide +kernel
theorem dX10_setFrequency_18 : decode cX10_setFrequency 18 = .ok (.ireturn, 1) := by decide +kernel
theorem dX10_setFrequency_19 : decode cX10_setFrequency 19 = .ok (.iload_n 2, 1) := by decide +kernel
theorem dX10_setFrequency_20 : decode cX10_setFrequency 20 = .ok (.iconst 1, 1) := by decide +kernel
theorem dX10_setFrequency_21 : decode cX10_setFrequency 21 = .ok (.sipush 9999, 3) := by decide +kernel
theorem dX10_setFrequency_24 : decode cX10_setFrequency 24 = .ok (.invokestatic 7, 3) := by decide +kernel
theorem dX10_setFrequency_27 : decode cX10_setFrequency 27 = .ok (.ifCond .ne 9, 3) := by decide +kernel
theorem dX10_setFrequency_30 : decode cX10_setFrequency 30 = .ok (.aload_n 0, 1) := by decide +kernel
theorem dX10_setFrequency_31 : decode cX10_setFrequency 31 = .ok (.iconst 2, 1) := by decide +kernel
theorem dX10_setFrequency_32 : decode cX10_setFrequency 32 = .ok (.invokevirtual 217, 3) := by decide +kernel
theorem dX10_setFrequency_35 : decode cX10_setFrequency 35 = .ok (.ireturn, 1) := by decide +kernel
theorem dX10_setFrequency_36 : decode cX10_setFrequency 36 = .ok (.aload_n 0, 1) := by decide +kernel
theorem dX10_setFrequency_37 : decode cX10_setFrequency 37 = .ok (.getfield 39, 3) := by decide +kernel
theorem dX10_setFrequency_40 : decode cX10_setFrequency 40 = .ok (.iload_n 1, 1) := by decide +kernel
theorem dX10_setFrequency_41 : decode cX10_setFrequency 41 = .ok (.iaload, 1) := by decide +kernel
theorem dX10_setFrequency_42 : decode cX10_setFrequency 42 = .ok (.istore_n 3, 1) := by decide +kernel
theorem dX10_setFrequency_43 : decode cX10_setFrequency 43 = .ok (.aload_n 0, 1) := by decide +kernel
theorem dX10_setFrequency_44 : decode cX10_setFrequency 44 = .ok (.getfield 39, 3) := by decide +kernel
theorem dX10_setFrequency_47 : decode cX10_setFrequency 47 = .ok (.iload_n 1, 1) := by decide +kernel
theorem dX10_setFrequency_48 : decode cX10_setFrequency 48 = .ok (.iload_n 2, 1) := by decide +kernel
theorem dX10_setFrequency_49 : decode cX10_setFrequency 49 = .ok (.iastore, 1) := by decide +kernel
theorem dX10_setFrequency_50 : decode cX10_setFrequency 50 = .ok (.aload_n 0, 1) := by decide +kernel
theorem dX10_setFrequency_51 : decode cX10_setFrequency 51 = .ok (.iconst 0, 1) := by decide +kernel
theorem dX10_setFrequency_52 : decode cX10_setFrequency 52 = .ok (.putfield 57, 3) := by decide +kernel
theorem dX10_setFrequency_55 : decode cX10_setFrequency 55 = .ok (.iload_n 3, 1) := by decide +kernel
theorem dX10_setFrequency_56 : decode cX10_setFrequency 56 = .ok (.ireturn, 1) := by decide +kernel
theorem dX10_setInitial_0 : decode cX10_setInitial 0 = .ok (.aload_n 0, 1) := by decide +kernel
theorem dX10_setInitial_1 : decode cX10_setInitial 1 = .ok (.iconst 0, 1) := by decide +kernel
theorem dX10_setInitial_2 : decode cX10_setInitial 2 = .ok (.putfield 1, 3) := by decide +kernel
theorem dX10_setInitial_5 : decode cX10_setInitial 5 = .ok (.iload_n 1, 1) := by decide +kernel
theorem dX10_setInitial_6 : decode cX10_setInitial 6 = .ok (.invokestatic 225, 3) := by decide +kernel
theorem dX10_setInitial_9 : decode cX10_setInitial 9 = .ok (.ifCond .ne 9, 3) := by decide +kernel
theorem dX10_setInitial_12 : decode cX10_setInitial 12 = .ok (.aload_n 0, 1) := by decide +kernel
theorem dX10_setInitial_13 : decode cX10_setInitial 13 = .ok (.iconst 1, 1) := by decide +kernel
theorem dX10_setInitial_14 : decode cX10_setInitial 14 = .ok (.invokevirtual 217, 3) := by decide +kernel
theorem dX10_setInitial_17 : decode cX10_setInitial 17 = .ok (.ireturn, 1) := by decide +kernel
theorem dX10_setInitial_18 : decode cX10_setInitial 18 = .ok (.aload_n 0, 1) := by decide +kernel
theorem dX10_setInitial_19 : decode cX10_setInitial 19 = .ok (.getfield 54, 3) := by decide +kernel
theorem dX10_setInitial_22 : decode cX10_setInitial 22 = .ok (.iload_n 1, 1) := by decide +kernel
theorem dX10_setInitial_23 : decode cX10_setInitial 23 = .ok (.iaload, 1) := by decide +kernel
theorem dX10_setInitial_24 : decode cX10_setInitial 24 = .ok (.istore_n 3, 1) := by decide +kernel
theorem dX10_setInitial_25 : decode cX10_setInitial 25 = .ok (.aload_n 0, 1) := by decide +kernel
theorem dX10_setInitial_26 : decode cX10_setInitial 26 = .ok (.getfield 54, 3) := by decide +kernel
theorem dX10_setInitial_29 : decode cX10_setInitial 29 = .ok (.iload_n 1, 1) := by decide +kernel
theorem dX10_setInitial_30 : decode cX10_setInitial 30 = .ok (.iload_n 2, 1) := by decide +kernel
theorem dX10_setInitial_31 : decode cX10_setInitial 31 = .ok (.iastore, 1) := by decide +kernel
theorem dX10_setInitial_32 : decode cX10_setInitial 32 = .ok (.aload_n 0, 1) := by decide +kernel
theorem dX10_setInitial_33 : decode cX10_setInitial 33 = .ok (.iconst 0, 1) := by decide +kernel
theorem dX10_setInitial_34 : decode cX10_setInitial 34 = .ok (.putfield 57, 3) := by decide +kernel
theorem dX10_setInitial_37 : decode cX10_setInitial 37 = .ok (.iload_n 3, 1) := by decide +kernel
theorem dX10_setInitial_38 : decode cX10_setInitial 38 = .ok (.ireturn, 1) := by decide +kernel
theorem dX10_instruction_0 : decode cX10_instruction 0 = .ok (.aload_n 0, 1) := by decide +kernel
theorem dX10_instruction_1 : decode cX10_instruction 1 = .ok (.iconst 0, 1) := by decide +kernel
theorem dX10_instruction_2 : decode cX10_instruction 2 = .ok (.putfield 1, 3) := by decide +kernel
theorem dX10_instruction_5 : decode cX10_instruction 5 = .ok (.aload_n 0, 1) := by decide +kernel
theorem dX10_instruction_6 : decode cX10_instruction 6 = .ok (.iload_n 1, 1) := by decide +kernel
theorem dX10_instruction_7 : decode cX10_instruction 7 = .ok (.invokevirtual 221, 3) := by decide +kernel
theorem dX10_instruction_10 : decode cX10_instruction 10 = .ok (.ifCond .eq 19, 3) := by decide +kernel
theorem dX10_instruction_13 : decode cX10_instruction 13 = .ok (.iload_n 2, 1) := by decide +kernel
theorem dX10_instruction_14 : decode cX10_instruction 14 = .ok (.iconst 0, 1) := by decide +kernel
theorem dX10_instruction_15 : decode cX10_instruction 15 = .ok (.aload_n 0, 1) := by decide +kernel
theorem dX10_instruction_16 : decode cX10_instruction 16 = .ok (.getfield 23, 3) := by decide +kernel
theorem dX10_instruction_19 : decode cX10_instruction 19 = .ok (.iload_n 1, 1) := by decide +kernel
theorem dX10_instruction_20 : decode cX10_instruction 20 = .ok (.iaload, 1) := by decide +kernel
theorem dX10_instruction_21 : decode cX10_instruction 21 = .ok (.iconst 1, 1) := by decide +kernel
theorem dX10_instruction_22 : decode cX10_instruction 22 = .ok (.isub, 1) := by decide +kernel
theorem dX10_instruction_23 : decode cX10_instruction 23 = .ok (.invokestatic 7, 3) := by decide +kernel
theorem dX10_instruction_26 : decode cX10_instruction 26 = .ok (.ifCond .ne 9, 3) := by decide +kernel
theorem dX10_instruction_29 : decode cX10_instruction 29 = .ok (.aload_n 0, 1) := by decide +kernel
theorem dX10_instruction_30 : decode cX10_instruction 30 = .ok (.iconst 1, 1) := by decide +kernel
theorem dX10_instruction_31 : decode cX10_instruction 31 = .ok (.invokevirtual 217, 3) := by decide +kernel
theorem dX10_instruction_34 : decode cX10_instruction 34 = .ok (.ireturn, 1) := by decide +kernel
theorem dX10_instruction_35 : decode cX10_instruction 35 = .ok (.bipush 8, 2) := by decide +kernel
theorem dX10_instruction_37 : decode cX10_instruction 37 = .ok (.iload_n 1, 1) := by decide +kernel
theorem dX10_instruction_38 : decode cX10_instruction 38 = .ok (.imul, 1) := by decide +kernel
theorem dX10_instruction_39 : decode cX10_instruction 39 = .ok (.iload_n 2, 1) := by decide +kernel
theorem dX10_instruction_40 : decode cX10_instruction 40 = .ok (.iadd, 1) := by decide +kernel
theorem dX10_instruction_41 : decode cX10_instruction 41 = .ok (.istore 4, 2) := by decide +kernel
theorem dX10_instruction_43 : decode cX10_instruction 43 = .ok (.iload_n 3, 1) := by decide +kernel
theorem dX10_instruction_44 : decode cX10_instruction 44 = .ok (.tableswitch 64 0 3 #[32, 40, 48, 56], 32) := by decide +kernel
theorem dX10_instruction_76 : decode cX10_instruction 76 = .ok (.aload_n 0, 1) := by decide +kernel
theorem dX10_instruction_77 : decode cX10_instruction 77 = .ok (.getfield 42, 3) := by decide +kernel
theorem dX10_instruction_80 : decode cX10_instruction 80 = .ok (.iload 4, 2) := by decide +kernel
theorem dX10_instruction_82 : decode cX10_instruction 82 = .ok (.iaload, 1) := by decide +kernel
theorem dX10_instruction_83 : decode cX10_instruction 83 = .ok (.ireturn, 1) := by decide +kernel
theorem dX10_instruction_84 : decode cX10_instruction 84 = .ok (.aload_n 0, 1) := by decide +kernel
theorem dX10_instruction_85 : decode cX10_instruction 85 = .ok (.getfield 45, 3) := by decide +kernel
theorem dX10_instruction_88 : decode cX10_instruction 88 = .ok (.iload 4, 2) := by decide +kernel
theorem dX10_instruction_90 : decode cX10_instruction 90 = .ok (.iaload, 1) := by decide +kernel
theorem dX10_instruction_91 : decode cX10_instruction 91 = .ok (.ireturn, 1) := by decide +kernel
theorem dX10_instruction_92 : decode cX10_instruction 92 = .ok (.aload_n 0, 1) := by decide +kernel
theorem dX10_instruction_93 : decode cX10_instruction 93 = .ok (.getfield 48, 3) := by decide +kernel
theorem dX10_instruction_96 : decode cX10_instruction 96 = .ok (.iload 4, 2) := by decide +kernel
theorem dX10_instruction_98 : decode cX10_instruction 98 = .ok (.iaload, 1) := by decide +kernel
theorem dX10_instruction_99 : decode cX10_instruction 99 = .ok (.ireturn, 1) := by decide +kernel
theorem dX10_instruction_100 : decode cX10_instruction 100 = .ok (.aload_n 0, 1) := by decide +kernel
theorem dX10_instruction_101 : decode cX10_instruction 101 = .ok (.getfield 51, 3) := by decide +kernel
theorem dX10_instruction_104 : decode cX10_instruction 104 = .ok (.iload 4, 2) := by decide +kernel
theorem dX10_instruction_106 : decode cX10_instruction 106 = .ok (.iaload, 1) := by decide +kernel
theorem dX10_instruction_107 : decode cX10_instruction 107 = .ok (.ireturn, 1) := by decide +kernel
theorem dX10_instruction_108 : decode cX10_instruction 108 = .ok (.aload_n 0, 1) := by decide +kernel
theorem dX10_instruction_109 : decode cX10_instruction 109 = .ok (.iconst 2, 1) := by decide +kernel
theorem dX10_instruction_110 : decode cX10_instruction 110 = .ok (.invokevirtual 217, 3) := by decide +kernel
theorem dX10_instruction_113 : decode cX10_instruction 113 = .ok (.ireturn, 1) := by decide +kernel
theorem dX10_block_0 : decode cX10_block 0 = .ok (.aload_n 0, 1) := by decide +kernel
theorem dX10_block_1 : decode cX10_block 1 = .ok (.iconst 0, 1) := by decide +kernel
theorem dX10_block_2 : decode cX10_block 2 = .ok (.putfield 1, 3) := by decide +kernel
theorem dX10_block_5 : decode cX10_block 5 = .ok (.aload_n 0, 1) := by decide +kernel
theorem dX10_block_6 : decode cX10_block 6 = .ok (.iload_n 1, 1) := by decide +kernel
theorem dX10_block_7 : decode cX10_block 7 = .ok (.invokevirtual 221, 3) := by decide +kernel
theorem dX10_block_10 : decode cX10_block 10 = .ok (.ifCond .ne 9, 3) := by decide +kernel
theorem dX10_block_13 : decode cX10_block 13 = .ok (.aload_n 0, 1) := by decide +kernel
theorem dX10_block_14 : decode cX10_block 14 = .ok (.iconst 1, 1) := by decide +kernel
theorem dX10_block_15 : decode cX10_block 15 = .ok (.invokevirtual 217, 3) := by decide +kernel
theorem dX10_block_18 : decode cX10_block 18 = .ok (.ireturn, 1) := by decide +kernel
theorem dX10_block_19 : decode cX10_block 19 = .ok (.iload_n 2, 1) := by decide +kernel
theorem dX10_block_20 : decode cX10_block 20 = .ok (.tableswitch 123 0 5 #[40, 47, 54, 74, 95, 116], 40) := by decide +kernel
theorem dX10_block_60 : decode cX10_block 60 = .ok (.aload_n 0, 1) := by decide +kernel
theorem dX10_block_61 : decode cX10_block 61 = .ok (.getfield 23, 3) := by decide +kernel
theorem dX10_block_64 : decode cX10_block 64 = .ok (.iload_n 1, 1) := by decide +kernel
theorem dX10_block_65 : decode cX10_block 65 = .ok (.iaload, 1) := by decide +kernel
theorem dX10_block_66 : decode cX10_block 66 = .ok (.ireturn, 1) := by decide +kernel
theorem dX10_block_67 : decode cX10_block 67 = .ok (.aload_n 0, 1) := by decide +kernel
theorem dX10_block_68 : decode cX10_block 68 = .ok (.getfield 27, 3) := by decide +kernel
theorem dX10_block_71 : decode cX10_block 71 = .ok (.iload_n 1, 1) := by decide +kernel
theorem dX10_block_72 : decode cX10_block 72 = .ok (.iaload, 1) := by decide +kernel
theorem dX10_block_73 : decode cX10_block 73 = .ok (.ireturn, 1) := by decide +kernel
theorem dX10_block_74 : decode cX10_block 74 = .ok (.aload_n 0, 1) := by decide +kernel
theorem dX10_block_75 : decode cX10_block 75 = .ok (.getfield 27, 3) := by decide +kernel
theorem dX10_block_78 : decode cX10_block 78 = .ok (.iload_n 1, 1) := by decide +kernel
theorem dX10_block_79 : decode cX10_block 79 = .ok (.iaload, 1) := by decide +kernel
theorem dX10_block_80 : decode cX10_block 80 = .ok (.ifCond .ne 7, 3) := by decide +kernel
theorem dX10_block_83 : decode cX10_block 83 = .ok (.iconst (-1), 1) := by decide +kernel
theorem dX10_block_84 : decode cX10_block 84 = .ok (.goto 9, 3) := by decide +kernel
theorem dX10_block_87 : decode cX10_block 87 = .ok (.aload_n 0, 1) := by decide +kernel
theorem dX10_block_88 : decode cX10_block 88 = .ok (.getfield 30, 3) := by decide +kernel
theorem dX10_block_91 : decode cX10_block 91 = .ok (.iload_n 1, 1) := by decide +kernel
theorem dX10_block_92 : decode cX10_block 92 = .ok (.iaload, 1) := by decide +kernel
theorem dX10_block_93 : decode cX10_block 93 = .ok (.ireturn, 1) := by decide +kernel
theorem dX10_block_94 : decode cX10_block 94 = .ok (.aload_n 0, 1) := by decide +kernel
theorem dX10_block_95 : decode cX10_block 95 = .ok (.getfield 27, 3) := by decide +kernel
theorem dX10_block_98 : decode cX10_block 98 = .ok (.iload_n 1, 1) := by decide +kernel
theorem dX10_block_99 : decode cX10_block 99 = .ok (.iaload, 1) := by decide +kernel
theorem dX10_block_100 : decode cX10_block 100 = .ok (.iconst 2, 1) := by decide +kernel
theorem dX10_block_101 : decode cX10_block 101 = .ok (.if_icmp .ne 7, 3) := by decide +kernel
theorem dX10_block_104 : decode cX10_block 104 = .ok (.iconst (-1), 1) := by decide +kernel
theorem dX10_block_105 : decode cX10_block 105 = .ok (.goto 9, 3) := by decide +kernel
theorem dX10_block_108 : decode cX10_block 108 = .ok (.aload_n 0, 1) := by decide +kernel
theorem dX10_block_109 : decode cX10_block 109 = .ok (.getfield 33, 3) := by decide +kernel
theorem dX10_block_112 : decode cX10_block 112 = .ok (.iload_n 1, 1) := by decide +kernel
theorem dX10_block_113 : decode cX10_block 113 = .ok (.iaload, 1) := by decide +kernel
theorem dX10_block_114 : decode cX10_block 114 = .ok (.ireturn, 1) := by decide +kernel
theorem dX10_block_115 : decode cX10_block 115 = .ok (.aload_n 0, 1) := by decide +kernel
theorem dX10_block_116 : decode cX10_block 116 = .ok (.getfield 27, 3) := by decide +kernel
theorem dX10_block_119 : decode cX10_block 119 = .ok (.iload_n 1, 1) := by decide +kernel
theorem dX10_block_120 : decode cX10_block 120 = .ok (.iaload, 1) := by decide +kernel
theorem dX10_block_121 : decode cX10_block 121 = .ok (.iconst 1, 1) := by decide +kernel
theorem dX10_block_122 : decode cX10_block 122 = .ok (.if_icmp .ne 12, 3) := by decide +kernel
theorem dX10_block_125 : decode cX10_block 125 = .ok (.aload_n 0, 1) := by decide +kernel
theorem dX10_block_126 : decode cX10_block 126 = .ok (.getfield 36, 3) := by decide +kernel
theorem dX10_block_129 : decode cX10_block 129 = .ok (.iload_n 1, 1) := by decide +kernel
theorem dX10_block_130 : decode cX10_block 130 = .ok (.iaload, 1) := by decide +kernel
theorem dX10_block_131 : decode cX10_block 131 = .ok (.goto 4, 3) := by decide +kernel
theorem dX10_block_134 : decode cX10_block 134 = .ok (.iconst (-1), 1) := by decide +kernel
theorem dX10_block_135 : decode cX10_block 135 = .ok (.ireturn, 1) := by decide +kernel
theorem dX10_block_136 : decode cX10_block 136 = .ok (.aload_n 0, 1) := by decide +kernel
theorem dX10_block_137 : decode cX10_block 137 = .ok (.getfield 39, 3) := by decide +kernel
theorem dX10_block_140 : decode cX10_block 140 = .ok (.iload_n 1, 1) := by decide +kernel
theorem dX10_block_141 : decode cX10_block 141 = .ok (.iaload, 1) := by decide +kernel
theorem dX10_block_142 : decode cX10_block 142 = .ok (.ireturn, 1) := by decide +kernel
theorem dX10_block_143 : decode cX10_block 143 = .ok (.aload_n 0, 1) := by decide +kernel
theorem dX10_block_144 : decode cX10_block 144 = .ok (.iconst 2, 1) := by decide +kernel
theorem dX10_block_145 : decode cX10_block 145 = .ok (.invokevirtual 217, 3) := by decide +kernel
theorem dX10_block_148 : decode cX10_block 148 = .ok (.ireturn, 1) := by decide +kernel
theorem dX10_usesOf_0 : decode cX10_usesOf 0 = .ok (.aload_n 0, 1) := by decide +kernel
theorem dX10_usesOf_1 : decode cX10_usesOf 1 = .ok (.getfield 42, 3) := by decide +kernel
theorem dX10_usesOf_4 : decode cX10_usesOf 4 = .ok (.iload_n 1, 1) := by decide +kernel
theorem dX10_usesOf_5 : decode cX10_usesOf 5 = .ok (.iaload, 1) := by decide +kernel
theorem dX10_usesOf_6 : decode cX10_usesOf 6 = .ok (.ifCond .ne 5, 3) := by decide +kernel
theorem dX10_usesOf_9 : decode cX10_usesOf 9 = .ok (.iconst 0, 1) := by decide +kernel
theorem dX10_usesOf_10 : decode cX10_usesOf 10 = .ok (.ireturn, 1) := by decide +kernel
theorem dX10_usesOf_11 : decode cX10_usesOf 11 = .ok (.iconst 1, 1) := by decide +kernel
theorem dX10_usesOf_12 : decode cX10_usesOf 12 = .ok (.aload_n 0, 1) := by decide +kernel
theorem dX10_usesOf_13 : decode cX10_usesOf 13 = .ok (.getfield 48, 3) := by decide +kernel
theorem dX10_usesOf_16 : decode cX10_usesOf 16 = .ok (.iload_n 1, 1) := by decide +kernel
theorem dX10_usesOf_17 : decode cX10_usesOf 17 = .ok (.iaload, 1) := by decide +kernel
theorem dX10_usesOf_18 : decode cX10_usesOf 18 = .ok (.ishl, 1) := by decide +kernel
theorem dX10_usesOf_19 : decode cX10_usesOf 19 = .ok (.aload_n 0, 1) := by decide +kernel
theorem dX10_usesOf_20 : decode cX10_usesOf 20 = .ok (.getfield 42, 3) := by decide +kernel
theorem dX10_usesOf_23 : decode cX10_usesOf 23 = .ok (.iload_n 1, 1) := by decide +kernel
theorem dX10_usesOf_24 : decode cX10_usesOf 24 = .ok (.iaload, 1) := by decide +kernel
theorem dX10_usesOf_25 : decode cX10_usesOf 25 = .ok (.iconst 2, 1) := by decide +kernel
theorem dX10_usesOf_26 : decode cX10_usesOf 26 = .ok (.if_icmp .lt 14, 3) := by decide +kernel
theorem dX10_usesOf_29 : decode cX10_usesOf 29 = .ok (.iconst 1, 1) := by decide +kernel
theorem dX10_usesOf_30 : decode cX10_usesOf 30 = .ok (.aload_n 0, 1) := by decide +kernel
theorem dX10_usesOf_31 : decode cX10_usesOf 31 = .ok (.getfield 51, 3) := by decide +kernel
theorem dX10_usesOf_34 : decode cX10_usesOf 34 = .ok (.iload_n 1, 1) := by decide +kernel
theorem dX10_usesOf_35 : decode cX10_usesOf 35 = .ok (.iaload, 1) := by decide +kernel
theorem dX10_usesOf_36 : decode cX10_usesOf 36 = .ok (.ishl, 1) := by decide +kernel
theorem dX10_usesOf_37 : decode cX10_usesOf 37 = .ok (.goto 4, 3) := by decide +kernel
theorem dX10_usesOf_40 : decode cX10_usesOf 40 = .ok (.iconst 0, 1) := by decide +kernel
theorem dX10_usesOf_41 : decode cX10_usesOf 41 = .ok (.ior, 1) := by decide +kernel
theorem dX10_usesOf_42 : decode cX10_usesOf 42 = .ok (.ireturn, 1) := by decide +kernel
theorem dX10_endUse_0 : decode cX10_endUse 0 = .ok (.aload_n 0, 1) := by decide +kernel
theorem dX10_endUse_1 : decode cX10_endUse 1 = .ok (.getfield 27, 3) := by decide +kernel
theorem dX10_endUse_4 : decode cX10_endUse 4 = .ok (.iload_n 1, 1) := by decide +kernel
theorem dX10_endUse_5 : decode cX10_endUse 5 = .ok (.iaload, 1) := by decide +kernel
theorem dX10_endUse_6 : decode cX10_endUse 6 = .ok (.ifCond .ne 7, 3) := by decide +kernel
theorem dX10_endUse_9 : decode cX10_endUse 9 = .ok (.iconst 0, 1) := by decide +kernel
theorem dX10_endUse_10 : decode cX10_endUse 10 = .ok (.goto 11, 3) := by decide +kernel
theorem dX10_endUse_13 : decode cX10_endUse 13 = .ok (.iconst 1, 1) := by decide +kernel
theorem dX10_endUse_14 : decode cX10_endUse 14 = .ok (.aload_n 0, 1) := by decide +kernel
theorem dX10_endUse_15 : decode cX10_endUse 15 = .ok (.getfield 30, 3) := by decide +kernel
theorem dX10_endUse_18 : decode cX10_endUse 18 = .ok (.iload_n 1, 1) := by decide +kernel
theorem dX10_endUse_19 : decode cX10_endUse 19 = .ok (.iaload, 1) := by decide +kernel
theorem dX10_endUse_20 : decode cX10_endUse 20 = .ok (.ishl, 1) := by decide +kernel
theorem dX10_endUse_21 : decode cX10_endUse 21 = .ok (.ireturn, 1) := by decide +kernel
theorem dX10_goesTo_0 : decode cX10_goesTo 0 = .ok (.aload_n 0, 1) := by decide +kernel
theorem dX10_goesTo_1 : decode cX10_goesTo 1 = .ok (.getfield 27, 3) := by decide +kernel
theorem dX10_goesTo_4 : decode cX10_goesTo 4 = .ok (.iload_n 1, 1) := by decide +kernel
theorem dX10_goesTo_5 : decode cX10_goesTo 5 = .ok (.iaload, 1) := by decide +kernel
theorem dX10_goesTo_6 : decode cX10_goesTo 6 = .ok (.iconst 2, 1) := by decide +kernel
theorem dX10_goesTo_7 : decode cX10_goesTo 7 = .ok (.if_icmp .eq 13, 3) := by decide +kernel
theorem dX10_goesTo_10 : decode cX10_goesTo 10 = .ok (.aload_n 0, 1) := by decide +kernel
theorem dX10_goesTo_11 : decode cX10_goesTo 11 = .ok (.getfield 33, 3) := by decide +kernel
theorem dX10_goesTo_14 : decode cX10_goesTo 14 = .ok (.iload_n 1, 1) := by decide +kernel
theorem dX10_goesTo_15 : decode cX10_goesTo 15 = .ok (.iaload, 1) := by decide +kernel
theorem dX10_goesTo_16 : decode cX10_goesTo 16 = .ok (.iload_n 2, 1) := by decide +kernel
theorem dX10_goesTo_17 : decode cX10_goesTo 17 = .ok (.if_icmp .eq 23, 3) := by decide +kernel
theorem dX10_goesTo_20 : decode cX10_goesTo 20 = .ok (.aload_n 0, 1) := by decide +kernel
theorem dX10_goesTo_21 : decode cX10_goesTo 21 = .ok (.getfield 27, 3) := by decide +kernel
theorem dX10_goesTo_24 : decode cX10_goesTo 24 = .ok (.iload_n 1, 1) := by decide +kernel
theorem dX10_goesTo_25 : decode cX10_goesTo 25 = .ok (.iaload, 1) := by decide +kernel
theorem dX10_goesTo_26 : decode cX10_goesTo 26 = .ok (.iconst 1, 1) := by decide +kernel
theorem dX10_goesTo_27 : decode cX10_goesTo 27 = .ok (.if_icmp .ne 17, 3) := by decide +kernel
theorem dX10_goesTo_30 : decode cX10_goesTo 30 = .ok (.aload_n 0, 1) := by decide +kernel
theorem dX10_goesTo_31 : decode cX10_goesTo 31 = .ok (.getfield 36, 3) := by decide +kernel
theorem dX10_goesTo_34 : decode cX10_goesTo 34 = .ok (.iload_n 1, 1) := by decide +kernel
theorem dX10_goesTo_35 : decode cX10_goesTo 35 = .ok (.iaload, 1) := by decide +kernel
theorem dX10_goesTo_36 : decode cX10_goesTo 36 = .ok (.iload_n 2, 1) := by decide +kernel
theorem dX10_goesTo_37 : decode cX10_goesTo 37 = .ok (.if_icmp .ne 7, 3) := by decide +kernel
theorem dX10_goesTo_40 : decode cX10_goesTo 40 = .ok (.iconst 1, 1) := by decide +kernel
theorem dX10_goesTo_41 : decode cX10_goesTo 41 = .ok (.goto 4, 3) := by decide +kernel
theorem dX10_goesTo_44 : decode cX10_goesTo 44 = .ok (.iconst 0, 1) := by decide +kernel
theorem dX10_goesTo_45 : decode cX10_goesTo 45 = .ok (.ireturn, 1) := by decide +kernel
theorem dX10_liveBehind_0 : decode cX10_liveBehind 0 = .ok (.iconst 0, 1) := by decide +kernel
theorem dX10_liveBehind_1 : decode cX10_liveBehind 1 = .ok (.istore_n 2, 1) := by decide +kernel
theorem dX10_liveBehind_2 : decode cX10_liveBehind 2 = .ok (.iconst 0, 1) := by decide +kernel
theorem dX10_liveBehind_3 : decode cX10_liveBehind 3 = .ok (.istore_n 3, 1) := by decide +kernel
theorem dX10_liveBehind_4 : decode cX10_liveBehind 4 = .ok (.iload_n 3, 1) := by decide +kernel
theorem dX10_liveBehind_5 : decode cX10_liveBehind 5 = .ok (.aload_n 0, 1) := by decide +kernel
theorem dX10_liveBehind_6 : decode cX10_liveBehind 6 = .ok (.getfield 17, 3) := by decide +kernel
theorem dX10_liveBehind_9 : decode cX10_liveBehind 9 = .ok (.if_icmp .ge 27, 3) := by decide +kernel
theorem dX10_liveBehind_12 : decode cX10_liveBehind 12 = .ok (.aload_n 0, 1) := by decide +kernel
theorem dX10_liveBehind_13 : decode cX10_liveBehind 13 = .ok (.iload_n 1, 1) := by decide +kernel
theorem dX10_liveBehind_14 : decode cX10_liveBehind 14 = .ok (.iload_n 3, 1) := by decide +kernel
theorem dX10_liveBehind_15 : decode cX10_liveBehind 15 = .ok (.invokevirtual 235, 3) := by decide +kernel
theorem dX10_liveBehind_18 : decode cX10_liveBehind 18 = .ok (.ifCond .eq 12, 3) := by decide +kernel
theorem dX10_liveBehind_21 : decode cX10_liveBehind 21 = .ok (.iload_n 2, 1) := by decide +kernel
theorem dX10_liveBehind_22 : decode cX10_liveBehind 22 = .ok (.aload_n 0, 1) := by decide +kernel
theorem dX10_liveBehind_23 : decode cX10_liveBehind 23 = .ok (.getfield 61, 3) := by decide +kernel
theorem dX10_liveBehind_26 : decode cX10_liveBehind 26 = .ok (.iload_n 3, 1) := by decide +kernel
theorem dX10_liveBehind_27 : decode cX10_liveBehind 27 = .ok (.iaload, 1) := by decide +kernel
theorem dX10_liveBehind_28 : decode cX10_liveBehind 28 = .ok (.ior, 1) := by decide +kernel
theorem dX10_liveBehind_29 : decode cX10_liveBehind 29 = .ok (.istore_n 2, 1) := by decide +kernel
theorem dX10_liveBehind_30 : decode cX10_liveBehind 30 = .ok (.iinc 3 1, 3) := by decide +kernel
theorem dX10_liveBehind_33 : decode cX10_liveBehind 33 = .ok (.goto (-29), 3) := by decide +kernel
theorem dX10_liveBehind_36 : decode cX10_liveBehind 36 = .ok (.iload_n 2, 1) := by decide +kernel
theorem dX10_liveBehind_37 : decode cX10_liveBehind 37 = .ok (.ireturn, 1) := by decide +kernel
theorem dX10_liveOf_0 : decode cX10_liveOf 0 = .ok (.aload_n 0, 1) := by decide +kernel
theorem dX10_liveOf_1 : decode cX10_liveOf 1 = .ok (.iload_n 1, 1) := by decide +kernel
theorem dX10_liveOf_2 : decode cX10_liveOf 2 = .ok (.invokevirtual 239, 3) := by decide +kernel
theorem dX10_liveOf_5 : decode cX10_liveOf 5 = .ok (.aload_n 0, 1) := by decide +kernel
theorem dX10_liveOf_6 : decode cX10_liveOf 6 = .ok (.iload_n 1, 1) := by decide +kernel
theorem dX10_liveOf_7 : decode cX10_liveOf 7 = .ok (.invokevirtual 242, 3) := by decide +kernel
theorem dX10_liveOf_10 : decode cX10_liveOf 10 = .ok (.ior, 1) := by decide +kernel
theorem dX10_liveOf_11 : decode cX10_liveOf 11 = .ok (.istore_n 3, 1) := by decide +kernel
theorem dX10_liveOf_12 : decode cX10_liveOf 12 = .ok (.aload_n 0, 1) := by decide +kernel
theorem dX10_liveOf_13 : decode cX10_liveOf 13 = .ok (.getfield 23, 3) := by decide +kernel
theorem dX10_liveOf_16 : decode cX10_liveOf 16 = .ok (.iload_n 1, 1) := by decide +kernel
theorem dX10_liveOf_17 : decode cX10_liveOf 17 = .ok (.iaload, 1) := by decide +kernel
theorem dX10_liveOf_18 : decode cX10_liveOf 18 = .ok (.iconst 1, 1) := by decide +kernel
theorem dX10_liveOf_19 : decode cX10_liveOf 19 = .ok (.isub, 1) := by decide +kernel
theorem dX10_liveOf_20 : decode cX10_liveOf 20 = .ok (.istore 4, 2) := by decide +kernel
theorem dX10_liveOf_22 : decode cX10_liveOf 22 = .ok (.iload 4, 2) := by decide +kernel
theorem dX10_liveOf_24 : decode cX10_liveOf 24 = .ok (.iload_n 2, 1) := by decide +kernel
theorem dX10_liveOf_25 : decode cX10_liveOf 25 = .ok (.if_icmp .lt 40, 3) := by decide +kernel
theorem dX10_liveOf_28 : decode cX10_liveOf 28 = .ok (.iload_n 3, 1) := by decide +kernel
theorem dX10_liveOf_29 : decode cX10_liveOf 29 = .ok (.iconst 1, 1) := by decide +kernel
theorem dX10_liveOf_30 : decode cX10_liveOf 30 = .ok (.aload_n 0, 1) := by decide +kernel
theorem dX10_liveOf_31 : decode cX10_liveOf 31 = .ok (.getfield 45, 3) := by decide +kernel
theorem dX10_liveOf_34 : decode cX10_liveOf 34 = .ok (.bipush 8, 2) := by decide +kernel
theorem dX10_liveOf_36 : decode cX10_liveOf 36 = .ok (.iload_n 1, 1) := by decide +kernel
theorem dX10_liveOf_37 : decode cX10_liveOf 37 = .ok (.imul, 1) := by decide +kernel
theorem dX10_liveOf_38 : decode cX10_liveOf 38 = .ok (.iload 4, 2) := by decide +kernel
theorem dX10_liveOf_40 : decode cX10_liveOf 40 = .ok (.iadd, 1) := by decide +kernel
theorem dX10_liveOf_41 : decode cX10_liveOf 41 = .ok (.iaload, 1) := by decide +kernel
theorem dX10_liveOf_42 : decode cX10_liveOf 42 = .ok (.ishl, 1) := by decide +kernel
theorem dX10_liveOf_43 : decode cX10_liveOf 43 = .ok (.iconst (-1), 1) := by decide +kernel
theorem dX10_liveOf_44 : decode cX10_liveOf 44 = .ok (.ixor, 1) := by decide +kernel
theorem dX10_liveOf_45 : decode cX10_liveOf 45 = .ok (.iand, 1) := by decide +kernel
theorem dX10_liveOf_46 : decode cX10_liveOf 46 = .ok (.aload_n 0, 1) := by decide +kernel
theorem dX10_liveOf_47 : decode cX10_liveOf 47 = .ok (.bipush 8, 2) := by decide +kernel
theorem dX10_liveOf_49 : decode cX10_liveOf 49 = .ok (.iload_n 1, 1) := by decide +kernel
theorem dX10_liveOf_50 : decode cX10_liveOf 50 = .ok (.imul, 1) := by decide +kernel
theorem dX10_liveOf_51 : decode cX10_liveOf 51 = .ok (.iload 4, 2) := by decide +kernel
theorem dX10_liveOf_53 : decode cX10_liveOf 53 = .ok (.iadd, 1) := by decide +kernel
theorem dX10_liveOf_54 : decode cX10_liveOf 54 = .ok (.invokevirtual 245, 3) := by decide +kernel
theorem dX10_liveOf_57 : decode cX10_liveOf 57 = .ok (.ior, 1) := by decide +kernel
theorem dX10_liveOf_58 : decode cX10_liveOf 58 = .ok (.istore_n 3, 1) := by decide +kernel
theorem dX10_liveOf_59 : decode cX10_liveOf 59 = .ok (.iinc 4 (-1), 3) := by decide +kernel
theorem dX10_liveOf_62 : decode cX10_liveOf 62 = .ok (.goto (-40), 3) := by decide +kernel
theorem dX10_liveOf_65 : decode cX10_liveOf 65 = .ok (.iload_n 3, 1) := by decide +kernel
theorem dX10_liveOf_66 : decode cX10_liveOf 66 = .ok (.ireturn, 1) := by decide +kernel
theorem dX10_layLive_0 : decode cX10_layLive 0 = .ok (.iconst 0, 1) := by decide +kernel
theorem dX10_layLive_1 : decode cX10_layLive 1 = .ok (.istore_n 1, 1) := by decide +kernel
theorem dX10_layLive_2 : decode cX10_layLive 2 = .ok (.iload_n 1, 1) := by decide +kernel
theorem dX10_layLive_3 : decode cX10_layLive 3 = .ok (.aload_n 0, 1) := by decide +kernel
theorem dX10_layLive_4 : decode cX10_layLive 4 = .ok (.getfield 17, 3) := by decide +kernel
theorem dX10_layLive_7 : decode cX10_layLive 7 = .ok (.if_icmp .ge 16, 3) := by decide +kernel
theorem dX10_layLive_10 : decode cX10_layLive 10 = .ok (.aload_n 0, 1) := by decide +kernel
theorem dX10_layLive_11 : decode cX10_layLive 11 = .ok (.getfield 61, 3) := by decide +kernel
theorem dX10_layLive_14 : decode cX10_layLive 14 = .ok (.iload_n 1, 1) := by decide +kernel
theorem dX10_layLive_15 : decode cX10_layLive 15 = .ok (.iconst 0, 1) := by decide +kernel
theorem dX10_layLive_16 : decode cX10_layLive 16 = .ok (.iastore, 1) := by decide +kernel
theorem dX10_layLive_17 : decode cX10_layLive 17 = .ok (.iinc 1 1, 3) := by decide +kernel
theorem dX10_layLive_20 : decode cX10_layLive 20 = .ok (.goto (-18), 3) := by decide +kernel
theorem dX10_layLive_23 : decode cX10_layLive 23 = .ok (.iconst 1, 1) := by decide +kernel
theorem dX10_layLive_24 : decode cX10_layLive 24 = .ok (.istore_n 1, 1) := by decide +kernel
theorem dX10_layLive_25 : decode cX10_layLive 25 = .ok (.iload_n 1, 1) := by decide +kernel
theorem dX10_layLive_26 : decode cX10_layLive 26 = .ok (.ifCond .eq 56, 3) := by decide +kernel
theorem dX10_layLive_29 : decode cX10_layLive 29 = .ok (.iconst 0, 1) := by decide +kernel
theorem dX10_layLive_30 : decode cX10_layLive 30 = .ok (.istore_n 1, 1) := by decide +kernel
theorem dX10_layLive_31 : decode cX10_layLive 31 = .ok (.iconst 0, 1) := by decide +kernel
theorem dX10_layLive_32 : decode cX10_layLive 32 = .ok (.istore_n 2, 1) := by decide +kernel
theorem dX10_layLive_33 : decode cX10_layLive 33 = .ok (.iload_n 2, 1) := by decide +kernel
theorem dX10_layLive_34 : decode cX10_layLive 34 = .ok (.aload_n 0, 1) := by decide +kernel
theorem dX10_layLive_35 : decode cX10_layLive 35 = .ok (.getfield 17, 3) := by decide +kernel
theorem dX10_layLive_38 : decode cX10_layLive 38 = .ok (.if_icmp .ge 41, 3) := by decide +kernel
theorem dX10_layLive_41 : decode cX10_layLive 41 = .ok (.aload_n 0, 1) := by decide +kernel
theorem dX10_layLive_42 : decode cX10_layLive 42 = .ok (.iload_n 2, 1) := by decide +kernel
theorem dX10_layLive_43 : decode cX10_layLive 43 = .ok (.iconst 0, 1) := by decide +kernel
theorem dX10_layLive_44 : decode cX10_layLive 44 = .ok (.invokevirtual 248, 3) := by decide +kernel
theorem dX10_layLive_47 : decode cX10_layLive 47 = .ok (.istore_n 3, 1) := by decide +kernel
theorem dX10_layLive_48 : decode cX10_layLive 48 = .ok (.iload_n 1, 1) := by decide +kernel
theorem dX10_layLive_49 : decode cX10_layLive 49 = .ok (.iload_n 3, 1) := by decide +kernel
theorem dX10_layLive_50 : decode cX10_layLive 50 = .ok (.aload_n 0, 1) := by decide +kernel
theorem dX10_layLive_51 : decode cX10_layLive 51 = .ok (.getfield 61, 3) := by decide +kernel
theorem dX10_layLive_54 : decode cX10_layLive 54 = .ok (.iload_n 2, 1) := by decide +kernel
theorem dX10_layLive_55 : decode cX10_layLive 55 = .ok (.iaload, 1) := by decide +kernel
theorem dX10_layLive_56 : decode cX10_layLive 56 = .ok (.if_icmp .eq 7, 3) := by decide +kernel
theorem dX10_layLive_59 : decode cX10_layLive 59 = .ok (.iconst 1, 1) := by decide +kernel
theorem dX10_layLive_60 : decode cX10_layLive 60 = .ok (.goto 4, 3) := by decide +kernel
theorem dX10_layLive_63 : decode cX10_layLive 63 = .ok (.iconst 0, 1) := by decide +kernel
theorem dX10_layLive_64 : decode cX10_layLive 64 = .ok (.ior, 1) := by decide +kernel
theorem dX10_layLive_65 : decode cX10_layLive 65 = .ok (.istore_n 1, 1) := by decide +kernel
theorem dX10_layLive_66 : decode cX10_layLive 66 = .ok (.aload_n 0, 1) := by decide +kernel
theorem dX10_layLive_67 : decode cX10_layLive 67 = .ok (.getfield 61, 3) := by decide +kernel
theorem dX10_layLive_70 : decode cX10_layLive 70 = .ok (.iload_n 2, 1) := by decide +kernel
theorem dX10_layLive_71 : decode cX10_layLive 71 = .ok (.iload_n 3, 1) := by decide +kernel
theorem dX10_layLive_72 : decode cX10_layLive 72 = .ok (.iastore, 1) := by decide +kernel
theorem dX10_layLive_73 : decode cX10_layLive 73 = .ok (.iinc 2 1, 3) := by decide +kernel
theorem dX10_layLive_76 : decode cX10_layLive 76 = .ok (.goto (-43), 3) := by decide +kernel
theorem dX10_layLive_79 : decode cX10_layLive 79 = .ok (.goto (-54), 3) := by decide +kernel
theorem dX10_layLive_82 : decode cX10_layLive 82 = .ok (.return_, 1) := by decide +kernel
theorem dX10_live_0 : decode cX10_live 0 = .ok (.aload_n 0, 1) := by decide +kernel
theorem dX10_live_1 : decode cX10_live 1 = .ok (.iconst 0, 1) := by decide +kernel
theorem dX10_live_2 : decode cX10_live 2 = .ok (.putfield 1, 3) := by decide +kernel
theorem dX10_live_5 : decode cX10_live 5 = .ok (.aload_n 0, 1) := by decide +kernel
theorem dX10_live_6 : decode cX10_live 6 = .ok (.iload_n 1, 1) := by decide +kernel
theorem dX10_live_7 : decode cX10_live 7 = .ok (.invokevirtual 221, 3) := by decide +kernel
theorem dX10_live_10 : decode cX10_live 10 = .ok (.ifCond .eq 17, 3) := by decide +kernel
theorem dX10_live_13 : decode cX10_live 13 = .ok (.iload_n 2, 1) := by decide +kernel
theorem dX10_live_14 : decode cX10_live 14 = .ok (.iconst 0, 1) := by decide +kernel
theorem dX10_live_15 : decode cX10_live 15 = .ok (.aload_n 0, 1) := by decide +kernel
theorem dX10_live_16 : decode cX10_live 16 = .ok (.getfield 23, 3) := by decide +kernel
theorem dX10_live_19 : decode cX10_live 19 = .ok (.iload_n 1, 1) := by decide +kernel
theorem dX10_live_20 : decode cX10_live 20 = .ok (.iaload, 1) := by decide +kernel
theorem dX10_live_21 : decode cX10_live 21 = .ok (.invokestatic 7, 3) := by decide +kernel
theorem dX10_live_24 : decode cX10_live 24 = .ok (.ifCond .ne 9, 3) := by decide +kernel
theorem dX10_live_27 : decode cX10_live 27 = .ok (.aload_n 0, 1) := by decide +kernel
theorem dX10_live_28 : decode cX10_live 28 = .ok (.iconst 1, 1) := by decide +kernel
theorem dX10_live_29 : decode cX10_live 29 = .ok (.invokevirtual 217, 3) := by decide +kernel
theorem dX10_live_32 : decode cX10_live 32 = .ok (.ireturn, 1) := by decide +kernel
theorem dX10_live_33 : decode cX10_live 33 = .ok (.aload_n 0, 1) := by decide +kernel
theorem dX10_live_34 : decode cX10_live 34 = .ok (.invokevirtual 252, 3) := by decide +kernel
theorem dX10_live_37 : decode cX10_live 37 = .ok (.aload_n 0, 1) := by decide +kernel
theorem dX10_live_38 : decode cX10_live 38 = .ok (.iload_n 1, 1) := by decide +kernel
theorem dX10_live_39 : decode cX10_live 39 = .ok (.iload_n 2, 1) := by decide +kernel
theorem dX10_live_40 : decode cX10_live 40 = .ok (.invokevirtual 248, 3) := by decide +kernel
theorem dX10_live_43 : decode cX10_live 43 = .ok (.ireturn, 1) := by decide +kernel
theorem dX10_has_0 : decode cX10_has 0 = .ok (.iload_n 0, 1) := by decide +kernel
theorem dX10_has_1 : decode cX10_has 1 = .ok (.iload_n 1, 1) := by decide +kernel
theorem dX10_has_2 : decode cX10_has 2 = .ok (.ishr, 1) := by decide +kernel
theorem dX10_has_3 : decode cX10_has 3 = .ok (.iconst 1, 1) := by decide +kernel
theorem dX10_has_4 : decode cX10_has 4 = .ok (.iand, 1) := by decide +kernel
theorem dX10_has_5 : decode cX10_has 5 = .ok (.iconst 1, 1) := by decide +kernel
theorem dX10_has_6 : decode cX10_has 6 = .ok (.if_icmp .ne 7, 3) := by decide +kernel
theorem dX10_has_9 : decode cX10_has 9 = .ok (.iconst 1, 1) := by decide +kernel
theorem dX10_has_10 : decode cX10_has 10 = .ok (.goto 4, 3) := by decide +kernel
theorem dX10_has_13 : decode cX10_has 13 = .ok (.iconst 0, 1) := by decide +kernel
theorem dX10_has_14 : decode cX10_has 14 = .ok (.ireturn, 1) := by decide +kernel
theorem dX10_conflict_0 : decode cX10_conflict 0 = .ok (.aload_n 0, 1) := by decide +kernel
theorem dX10_conflict_1 : decode cX10_conflict 1 = .ok (.getfield 64, 3) := by decide +kernel
theorem dX10_conflict_4 : decode cX10_conflict 4 = .ok (.iload_n 1, 1) := by decide +kernel
theorem dX10_conflict_5 : decode cX10_conflict 5 = .ok (.dup2, 1) := by decide +kernel
theorem dX10_conflict_6 : decode cX10_conflict 6 = .ok (.iaload, 1) := by decide +kernel
theorem dX10_conflict_7 : decode cX10_conflict 7 = .ok (.iload_n 2, 1) := by decide +kernel
theorem dX10_conflict_8 : decode cX10_conflict 8 = .ok (.iconst 1, 1) := by decide +kernel
theorem dX10_conflict_9 : decode cX10_conflict 9 = .ok (.iload_n 1, 1) := by decide +kernel
theorem dX10_conflict_10 : decode cX10_conflict 10 = .ok (.ishl, 1) := by decide +kernel
theorem dX10_conflict_11 : decode cX10_conflict 11 = .ok (.iconst (-1), 1) := by decide +kernel
theorem dX10_conflict_12 : decode cX10_conflict 12 = .ok (.ixor, 1) := by decide +kernel
theorem dX10_conflict_13 : decode cX10_conflict 13 = .ok (.iand, 1) := by decide +kernel
theorem dX10_conflict_14 : decode cX10_conflict 14 = .ok (.ior, 1) := by decide +kernel
theorem dX10_conflict_15 : decode cX10_conflict 15 = .ok (.iastore, 1) := by decide +kernel
theorem dX10_conflict_16 : decode cX10_conflict 16 = .ok (.iconst 0, 1) := by decide +kernel
theorem dX10_conflict_17 : decode cX10_conflict 17 = .ok (.istore_n 3, 1) := by decide +kernel
theorem dX10_conflict_18 : decode cX10_conflict 18 = .ok (.iload_n 3, 1) := by decide +kernel
theorem dX10_conflict_19 : decode cX10_conflict 19 = .ok (.bipush 12, 2) := by decide +kernel
theorem dX10_conflict_21 : decode cX10_conflict 21 = .ok (.if_icmp .ge 34, 3) := by decide +kernel
theorem dX10_conflict_24 : decode cX10_conflict 24 = .ok (.iload_n 3, 1) := by decide +kernel
theorem dX10_conflict_25 : decode cX10_conflict 25 = .ok (.iload_n 1, 1) := by decide +kernel
theorem dX10_conflict_26 : decode cX10_conflict 26 = .ok (.if_icmp .eq 23, 3) := by decide +kernel
theorem dX10_conflict_29 : decode cX10_conflict 29 = .ok (.iload_n 2, 1) := by decide +kernel
theorem dX10_conflict_30 : decode cX10_conflict 30 = .ok (.iload_n 3, 1) := by decide +kernel
theorem dX10_conflict_31 : decode cX10_conflict 31 = .ok (.invokestatic 255, 3) := by decide +kernel
theorem dX10_conflict_34 : decode cX10_conflict 34 = .ok (.ifCond .eq 15, 3) := by decide +kernel
theorem dX10_conflict_37 : decode cX10_conflict 37 = .ok (.aload_n 0, 1) := by decide +kernel
theorem dX10_conflict_38 : decode cX10_conflict 38 = .ok (.getfield 64, 3) := by decide +kernel
theorem dX10_conflict_41 : decode cX10_conflict 41 = .ok (.iload_n 3, 1) := by decide +kernel
theorem dX10_conflict_42 : decode cX10_conflict 42 = .ok (.dup2, 1) := by decide +kernel
theorem dX10_conflict_43 : decode cX10_conflict 43 = .ok (.iaload, 1) := by decide +kernel
theorem dX10_conflict_44 : decode cX10_conflict 44 = .ok (.iconst 1, 1) := by decide +kernel
theorem dX10_conflict_45 : decode cX10_conflict 45 = .ok (.iload_n 1, 1) := by decide +kernel
theorem dX10_conflict_46 : decode cX10_conflict 46 = .ok (.ishl, 1) := by decide +kernel
theorem dX10_conflict_47 : decode cX10_conflict 47 = .ok (.ior, 1) := by decide +kernel
theorem dX10_conflict_48 : decode cX10_conflict 48 = .ok (.iastore, 1) := by decide +kernel
theorem dX10_conflict_49 : decode cX10_conflict 49 = .ok (.iinc 3 1, 3) := by decide +kernel
theorem dX10_conflict_52 : decode cX10_conflict 52 = .ok (.goto (-34), 3) := by decide +kernel
theorem dX10_conflict_55 : decode cX10_conflict 55 = .ok (.return_, 1) := by decide +kernel
theorem dX10_layConflicts_0 : decode cX10_layConflicts 0 = .ok (.aload_n 0, 1) := by decide +kernel
theorem dX10_layConflicts_1 : decode cX10_layConflicts 1 = .ok (.invokevirtual 252, 3) := by decide +kernel
theorem dX10_layConflicts_4 : decode cX10_layConflicts 4 = .ok (.iconst 0, 1) := by decide +kernel
theorem dX10_layConflicts_5 : decode cX10_layConflicts 5 = .ok (.istore_n 1, 1) := by decide +kernel
theorem dX10_layConflicts_6 : decode cX10_layConflicts 6 = .ok (.iload_n 1, 1) := by decide +kernel
theorem dX10_layConflicts_7 : decode cX10_layConflicts 7 = .ok (.bipush 12, 2) := by decide +kernel
theorem dX10_layConflicts_9 : decode cX10_layConflicts 9 = .ok (.if_icmp .ge 16, 3) := by decide +kernel
theorem dX10_layConflicts_12 : decode cX10_layConflicts 12 = .ok (.aload_n 0, 1) := by decide +kernel
theorem dX10_layConflicts_13 : decode cX10_layConflicts 13 = .ok (.getfield 64, 3) := by decide +kernel
theorem dX10_layConflicts_16 : decode cX10_layConflicts 16 = .ok (.iload_n 1, 1) := by decide +kernel
theorem dX10_layConflicts_17 : decode cX10_layConflicts 17 = .ok (.iconst 0, 1) := by decide +kernel
theorem dX10_layConflicts_18 : decode cX10_layConflicts 18 = .ok (.iastore, 1) := by decide +kernel
theorem dX10_layConflicts_19 : decode cX10_layConflicts 19 = .ok (.iinc 1 1, 3) := by decide +kernel
theorem dX10_layConflicts_22 : decode cX10_layConflicts 22 = .ok (.goto (-16), 3) := by decide +kernel
theorem dX10_layConflicts_25 : decode cX10_layConflicts 25 = .ok (.iconst 0, 1) := by decide +kernel
theorem dX10_layConflicts_26 : decode cX10_layConflicts 26 = .ok (.istore_n 1, 1) := by decide +kernel
theorem dX10_layConflicts_27 : decode cX10_layConflicts 27 = .ok (.iload_n 1, 1) := by decide +kernel
theorem dX10_layConflicts_28 : decode cX10_layConflicts 28 = .ok (.aload_n 0, 1) := by decide +kernel
theorem dX10_layConflicts_29 : decode cX10_layConflicts 29 = .ok (.getfield 17, 3) := by decide +kernel
theorem dX10_layConflicts_32 : decode cX10_layConflicts 32 = .ok (.if_icmp .ge 50, 3) := by decide +kernel
theorem dX10_layConflicts_35 : decode cX10_layConflicts 35 = .ok (.iconst 0, 1) := by decide +kernel
theorem dX10_layConflicts_36 : decode cX10_layConflicts 36 = .ok (.istore_n 2, 1) := by decide +kernel
theorem dX10_layConflicts_37 : decode cX10_layConflicts 37 = .ok (.iload_n 2, 1) := by decide +kernel
theorem dX10_layConflicts_38 : decode cX10_layConflicts 38 = .ok (.aload_n 0, 1) := by decide +kernel
theorem dX10_layConflicts_39 : decode cX10_layConflicts 39 = .ok (.getfield 23, 3) := by decide +kernel
theorem dX10_layConflicts_42 : decode cX10_layConflicts 42 = .ok (.iload_n 1, 1) := by decide +kernel
theorem dX10_layConflicts_43 : decode cX10_layConflicts 43 = .ok (.iaload, 1) := by decide +kernel
theorem dX10_layConflicts_44 : decode cX10_layConflicts 44 = .ok (.if_icmp .ge 32, 3) := by decide +kernel
theorem dX10_layConflicts_47 : decode cX10_layConflicts 47 = .ok (.aload_n 0, 1) := by decide +kernel
theorem dX10_layConflicts_48 : decode cX10_layConflicts 48 = .ok (.aload_n 0, 1) := by decide +kernel
theorem dX10_layConflicts_49 : decode cX10_layConflicts 49 = .ok (.getfield 45, 3) := by decide +kernel
theorem dX10_layConflicts_52 : decode cX10_layConflicts 52 = .ok (.bipush 8, 2) := by decide +kernel
theorem dX10_layConflicts_54 : decode cX10_layConflicts 54 = .ok (.iload_n 1, 1) := by decide +kernel
theorem dX10_layConflicts_55 : decode cX10_layConflicts 55 = .ok (.imul, 1) := by decide +kernel
theorem dX10_layConflicts_56 : decode cX10_layConflicts 56 = .ok (.iload_n 2, 1) := by decide +kernel
theorem dX10_layConflicts_57 : decode cX10_layConflicts 57 = .ok (.iadd, 1) := by decide +kernel
theorem dX10_layConflicts_58 : decode cX10_layConflicts 58 = .ok (.iaload, 1) := by decide +kernel
theorem dX10_layConflicts_59 : decode cX10_layConflicts 59 = .ok (.aload_n 0, 1) := by decide +kernel
theorem dX10_layConflicts_60 : decode cX10_layConflicts 60 = .ok (.iload_n 1, 1) := by decide +kernel
theorem dX10_layConflicts_61 : decode cX10_layConflicts 61 = .ok (.iload_n 2, 1) := by decide +kernel
theorem dX10_layConflicts_62 : decode cX10_layConflicts 62 = .ok (.iconst 1, 1) := by decide +kernel
theorem dX10_layConflicts_63 : decode cX10_layConflicts 63 = .ok (.iadd, 1) := by decide +kernel
theorem dX10_layConflicts_64 : decode cX10_layConflicts 64 = .ok (.invokevirtual 248, 3) := by decide +kernel
theorem dX10_layConflicts_67 : decode cX10_layConflicts 67 = .ok (.invokevirtual 258, 3) := by decide +kernel
theorem dX10_layConflicts_70 : decode cX10_layConflicts 70 = .ok (.iinc 2 1, 3) := by decide +kernel
theorem dX10_layConflicts_73 : decode cX10_layConflicts 73 = .ok (.goto (-36), 3) := by decide +kernel
theorem dX10_layConflicts_76 : decode cX10_layConflicts 76 = .ok (.iinc 1 1, 3) := by decide +kernel
theorem dX10_layConflicts_79 : decode cX10_layConflicts 79 = .ok (.goto (-52), 3) := by decide +kernel
theorem dX10_layConflicts_82 : decode cX10_layConflicts 82 = .ok (.iconst 0, 1) := by decide +kernel
theorem dX10_layConflicts_83 : decode cX10_layConflicts 83 = .ok (.istore_n 1, 1) := by decide +kernel
theorem dX10_layConflicts_84 : decode cX10_layConflicts 84 = .ok (.iload_n 1, 1) := by decide +kernel
theorem dX10_layConflicts_85 : decode cX10_layConflicts 85 = .ok (.bipush 12, 2) := by decide +kernel
theorem dX10_layConflicts_87 : decode cX10_layConflicts 87 = .ok (.if_icmp .ge 33, 3) := by decide +kernel
theorem dX10_layConflicts_90 : decode cX10_layConflicts 90 = .ok (.aload_n 0, 1) := by decide +kernel
theorem dX10_layConflicts_91 : decode cX10_layConflicts 91 = .ok (.getfield 61, 3) := by decide +kernel
theorem dX10_layConflicts_94 : decode cX10_layConflicts 94 = .ok (.iconst 0, 1) := by decide +kernel
theorem dX10_layConflicts_95 : decode cX10_layConflicts 95 = .ok (.iaload, 1) := by decide +kernel
theorem dX10_layConflicts_96 : decode cX10_layConflicts 96 = .ok (.iload_n 1, 1) := by decide +kernel
theorem dX10_layConflicts_97 : decode cX10_layConflicts 97 = .ok (.invokestatic 255, 3) := by decide +kernel
theorem dX10_layConflicts_100 : decode cX10_layConflicts 100 = .ok (.ifCond .eq 14, 3) := by decide +kernel
theorem dX10_layConflicts_103 : decode cX10_layConflicts 103 = .ok (.aload_n 0, 1) := by decide +kernel
theorem dX10_layConflicts_104 : decode cX10_layConflicts 104 = .ok (.iload_n 1, 1) := by decide +kernel
theorem dX10_layConflicts_105 : decode cX10_layConflicts 105 = .ok (.aload_n 0, 1) := by decide +kernel
theorem dX10_layConflicts_106 : decode cX10_layConflicts 106 = .ok (.getfield 61, 3) := by decide +kernel
theorem dX10_layConflicts_109 : decode cX10_layConflicts 109 = .ok (.iconst 0, 1) := by decide +kernel
theorem dX10_layConflicts_110 : decode cX10_layConflicts 110 = .ok (.iaload, 1) := by decide +kernel
theorem dX10_layConflicts_111 : decode cX10_layConflicts 111 = .ok (.invokevirtual 258, 3) := by decide +kernel
theorem dX10_layConflicts_114 : decode cX10_layConflicts 114 = .ok (.iinc 1 1, 3) := by decide +kernel
theorem dX10_layConflicts_117 : decode cX10_layConflicts 117 = .ok (.goto (-33), 3) := by decide +kernel
theorem dX10_layConflicts_120 : decode cX10_layConflicts 120 = .ok (.return_, 1) := by decide +kernel
theorem dX10_conflicts_0 : decode cX10_conflicts 0 = .ok (.aload_n 0, 1) := by decide +kernel
theorem dX10_conflicts_1 : decode cX10_conflicts 1 = .ok (.iconst 0, 1) := by decide +kernel
theorem dX10_conflicts_2 : decode cX10_conflicts 2 = .ok (.putfield 1, 3) := by decide +kernel
theorem dX10_conflicts_5 : decode cX10_conflicts 5 = .ok (.iload_n 1, 1) := by decide +kernel
theorem dX10_conflicts_6 : decode cX10_conflicts 6 = .ok (.invokestatic 225, 3) := by decide +kernel
theorem dX10_conflicts_9 : decode cX10_conflicts 9 = .ok (.ifCond .ne 9, 3) := by decide +kernel
theorem dX10_conflicts_12 : decode cX10_conflicts 12 = .ok (.aload_n 0, 1) := by decide +kernel
theorem dX10_conflicts_13 : decode cX10_conflicts 13 = .ok (.iconst 1, 1) := by decide +kernel
theorem dX10_conflicts_14 : decode cX10_conflicts 14 = .ok (.invokevirtual 217, 3) := by decide +kernel
theorem dX10_conflicts_17 : decode cX10_conflicts 17 = .ok (.ireturn, 1) := by decide +kernel
theorem dX10_conflicts_18 : decode cX10_conflicts 18 = .ok (.aload_n 0, 1) := by decide +kernel
theorem dX10_conflicts_19 : decode cX10_conflicts 19 = .ok (.invokevirtual 262, 3) := by decide +kernel
theorem dX10_conflicts_22 : decode cX10_conflicts 22 = .ok (.aload_n 0, 1) := by decide +kernel
theorem dX10_conflicts_23 : decode cX10_conflicts 23 = .ok (.getfield 64, 3) := by decide +kernel
theorem dX10_conflicts_26 : decode cX10_conflicts 26 = .ok (.iload_n 1, 1) := by decide +kernel
theorem dX10_conflicts_27 : decode cX10_conflicts 27 = .ok (.iaload, 1) := by decide +kernel
theorem dX10_conflicts_28 : decode cX10_conflicts 28 = .ok (.ireturn, 1) := by decide +kernel
theorem dX10_bits_0 : decode cX10_bits 0 = .ok (.iconst 0, 1) := by decide +kernel
theorem dX10_bits_1 : decode cX10_bits 1 = .ok (.istore_n 1, 1) := by decide +kernel
theorem dX10_bits_2 : decode cX10_bits 2 = .ok (.iconst 0, 1) := by decide +kernel
theorem dX10_bits_3 : decode cX10_bits 3 = .ok (.istore_n 2, 1) := by decide +kernel
theorem dX10_bits_4 : decode cX10_bits 4 = .ok (.iload_n 2, 1) := by decide +kernel
theorem dX10_bits_5 : decode cX10_bits 5 = .ok (.bipush 12, 2) := by decide +kernel
theorem dX10_bits_7 : decode cX10_bits 7 = .ok (.if_icmp .ge 17, 3) := by decide +kernel
theorem dX10_bits_10 : decode cX10_bits 10 = .ok (.iload_n 1, 1) := by decide +kernel
theorem dX10_bits_11 : decode cX10_bits 11 = .ok (.iload_n 0, 1) := by decide +kernel
theorem dX10_bits_12 : decode cX10_bits 12 = .ok (.iload_n 2, 1) := by decide +kernel
theorem dX10_bits_13 : decode cX10_bits 13 = .ok (.ishr, 1) := by decide +kernel
theorem dX10_bits_14 : decode cX10_bits 14 = .ok (.iconst 1, 1) := by decide +kernel
theorem dX10_bits_15 : decode cX10_bits 15 = .ok (.iand, 1) := by decide +kernel
theorem dX10_bits_16 : decode cX10_bits 16 = .ok (.iadd, 1) := by decide +kernel
theorem dX10_bits_17 : decode cX10_bits 17 = .ok (.istore_n 1, 1) := by decide +kernel
theorem dX10_bits_18 : decode cX10_bits 18 = .ok (.iinc 2 1, 3) := by decide +kernel
theorem dX10_bits_21 : decode cX10_bits 21 = .ok (.goto (-17), 3) := by decide +kernel
theorem dX10_bits_24 : decode cX10_bits 24 = .ok (.iload_n 1, 1) := by decide +kernel
theorem dX10_bits_25 : decode cX10_bits 25 = .ok (.ireturn, 1) := by decide +kernel
theorem dX10_pressure_0 : decode cX10_pressure 0 = .ok (.aload_n 0, 1) := by decide +kernel
theorem dX10_pressure_1 : decode cX10_pressure 1 = .ok (.invokevirtual 252, 3) := by decide +kernel
theorem dX10_pressure_4 : decode cX10_pressure 4 = .ok (.iconst 0, 1) := by decide +kernel
theorem dX10_pressure_5 : decode cX10_pressure 5 = .ok (.istore_n 1, 1) := by decide +kernel
theorem dX10_pressure_6 : decode cX10_pressure 6 = .ok (.iconst 0, 1) := by decide +kernel
theorem dX10_pressure_7 : decode cX10_pressure 7 = .ok (.istore_n 2, 1) := by decide +kernel
theorem dX10_pressure_8 : decode cX10_pressure 8 = .ok (.iload_n 2, 1) := by decide +kernel
theorem dX10_pressure_9 : decode cX10_pressure 9 = .ok (.aload_n 0, 1) := by decide +kernel
theorem dX10_pressure_10 : decode cX10_pressure 10 = .ok (.getfield 17, 3) := by decide +kernel
theorem dX10_pressure_13 : decode cX10_pressure 13 = .ok (.if_icmp .ge 41, 3) := by decide +kernel
theorem dX10_pressure_16 : decode cX10_pressure 16 = .ok (.iconst 0, 1) := by decide +kernel
theorem dX10_pressure_17 : decode cX10_pressure 17 = .ok (.istore_n 3, 1) := by decide +kernel
theorem dX10_pressure_18 : decode cX10_pressure 18 = .ok (.iload_n 3, 1) := by decide +kernel
theorem dX10_pressure_19 : decode cX10_pressure 19 = .ok (.aload_n 0, 1) := by decide +kernel
theorem dX10_pressure_20 : decode cX10_pressure 20 = .ok (.getfield 23, 3) := by decide +kernel
theorem dX10_pressure_23 : decode cX10_pressure 23 = .ok (.iload_n 2, 1) := by decide +kernel
theorem dX10_pressure_24 : decode cX10_pressure 24 = .ok (.iaload, 1) := by decide +kernel
theorem dX10_pressure_25 : decode cX10_pressure 25 = .ok (.if_icmp .gt 23, 3) := by decide +kernel
theorem dX10_pressure_28 : decode cX10_pressure 28 = .ok (.iload_n 1, 1) := by decide +kernel
theorem dX10_pressure_29 : decode cX10_pressure 29 = .ok (.aload_n 0, 1) := by decide +kernel
theorem dX10_pressure_30 : decode cX10_pressure 30 = .ok (.iload_n 2, 1) := by decide +kernel
theorem dX10_pressure_31 : decode cX10_pressure 31 = .ok (.iload_n 3, 1) := by decide +kernel
theorem dX10_pressure_32 : decode cX10_pressure 32 = .ok (.invokevirtual 248, 3) := by decide +kernel
theorem dX10_pressure_35 : decode cX10_pressure 35 = .ok (.invokestatic 265, 3) := by decide +kernel
theorem dX10_pressure_38 : decode cX10_pressure 38 = .ok (.invokestatic 268, 3) := by decide +kernel
theorem dX10_pressure_41 : decode cX10_pressure 41 = .ok (.istore_n 1, 1) := by decide +kernel
theorem dX10_pressure_42 : decode cX10_pressure 42 = .ok (.iinc 3 1, 3) := by decide +kernel
theorem dX10_pressure_45 : decode cX10_pressure 45 = .ok (.goto (-27), 3) := by decide +kernel
theorem dX10_pressure_48 : decode cX10_pressure 48 = .ok (.iinc 2 1, 3) := by decide +kernel
theorem dX10_pressure_51 : decode cX10_pressure 51 = .ok (.goto (-43), 3) := by decide +kernel
theorem dX10_pressure_54 : decode cX10_pressure 54 = .ok (.iload_n 1, 1) := by decide +kernel
theorem dX10_pressure_55 : decode cX10_pressure 55 = .ok (.ireturn, 1) := by decide +kernel
theorem dX10_reached_0 : decode cX10_reached 0 = .ok (.iload_n 1, 1) := by decide +kernel
theorem dX10_reached_1 : decode cX10_reached 1 = .ok (.ifCond .ne 7, 3) := by decide +kernel
theorem dX10_reached_4 : decode cX10_reached 4 = .ok (.iconst 0, 1) := by decide +kernel
theorem dX10_reached_5 : decode cX10_reached 5 = .ok (.goto 4, 3) := by decide +kernel
theorem dX10_reached_8 : decode cX10_reached 8 = .ok (.iconst 1, 1) := by decide +kernel
theorem dX10_reached_9 : decode cX10_reached 9 = .ok (.istore_n 2, 1) := by decide +kernel
theorem dX10_reached_10 : decode cX10_reached 10 = .ok (.iconst 0, 1) := by decide +kernel
theorem dX10_reached_11 : decode cX10_reached 11 = .ok (.istore_n 3, 1) := by decide +kernel
theorem dX10_reached_12 : decode cX10_reached 12 = .ok (.iload_n 3, 1) := by decide +kernel
theorem dX10_reached_13 : decode cX10_reached 13 = .ok (.aload_n 0, 1) := by decide +kernel
theorem dX10_reached_14 : decode cX10_reached 14 = .ok (.getfield 17, 3) := by decide +kernel
theorem dX10_reached_17 : decode cX10_reached 17 = .ok (.if_icmp .ge 78, 3) := by decide +kernel
theorem dX10_reached_20 : decode cX10_reached 20 = .ok (.iconst 0, 1) := by decide +kernel
theorem dX10_reached_21 : decode cX10_reached 21 = .ok (.istore 4, 2) := by decide +kernel
theorem dX10_reached_23 : decode cX10_reached 23 = .ok (.iload 4, 2) := by decide +kernel
theorem dX10_reached_25 : decode cX10_reached 25 = .ok (.aload_n 0, 1) := by decide +kernel
theorem dX10_reached_26 : decode cX10_reached 26 = .ok (.getfield 17, 3) := by decide +kernel
theorem dX10_reached_29 : decode cX10_reached 29 = .ok (.if_icmp .ge 60, 3) := by decide +kernel
theorem dX10_reached_32 : decode cX10_reached 32 = .ok (.iconst 0, 1) := by decide +kernel
theorem dX10_reached_33 : decode cX10_reached 33 = .ok (.istore 5, 2) := by decide +kernel
theorem dX10_reached_35 : decode cX10_reached 35 = .ok (.iload 5, 2) := by decide +kernel
theorem dX10_reached_37 : decode cX10_reached 37 = .ok (.aload_n 0, 1) := by decide +kernel
theorem dX10_reached_38 : decode cX10_reached 38 = .ok (.getfield 17, 3) := by decide +kernel
theorem dX10_reached_41 : decode cX10_reached 41 = .ok (.if_icmp .ge 42, 3) := by decide +kernel
theorem dX10_reached_44 : decode cX10_reached 44 = .ok (.iload_n 2, 1) := by decide +kernel
theorem dX10_reached_45 : decode cX10_reached 45 = .ok (.iload 4, 2) := by decide +kernel
theorem dX10_reached_47 : decode cX10_reached 47 = .ok (.invokestatic 255, 3) := by decide +kernel
theorem dX10_reached_50 : decode cX10_reached 50 = .ok (.ifCond .eq 27, 3) := by decide +kernel
theorem dX10_reached_53 : decode cX10_reached 53 = .ok (.aload_n 0, 1) := by decide +kernel
theorem dX10_reached_54 : decode cX10_reached 54 = .ok (.iload 4, 2) := by decide +kernel
theorem dX10_reached_56 : decode cX10_reached 56 = .ok (.iload 5, 2) := by decide +kernel
theorem dX10_reached_58 : decode cX10_reached 58 = .ok (.invokevirtual 235, 3) := by decide +kernel
theorem dX10_reached_61 : decode cX10_reached 61 = .ok (.ifCond .eq 16, 3) := by decide +kernel
theorem dX10_reached_64 : decode cX10_reached 64 = .ok (.iload 5, 2) := by decide +kernel
theorem dX10_reached_66 : decode cX10_reached 66 = .ok (.iload_n 1, 1) := by decide +kernel
theorem dX10_reached_67 : decode cX10_reached 67 = .ok (.if_icmp .eq 10, 3) := by decide +kernel
theorem dX10_reached_70 : decode cX10_reached 70 = .ok (.iload_n 2, 1) := by decide +kernel
theorem dX10_reached_71 : decode cX10_reached 71 = .ok (.iconst 1, 1) := by decide +kernel
theorem dX10_reached_72 : decode cX10_reached 72 = .ok (.iload 5, 2) := by decide +kernel
theorem dX10_reached_74 : decode cX10_reached 74 = .ok (.ishl, 1) := by decide +kernel
theorem dX10_reached_75 : decode cX10_reached 75 = .ok (.ior, 1) := by decide +kernel
theorem dX10_reached_76 : decode cX10_reached 76 = .ok (.istore_n 2, 1) := by decide +kernel
theorem dX10_reached_77 : decode cX10_reached 77 = .ok (.iinc 5 1, 3) := by decide +kernel
theorem dX10_reached_80 : decode cX10_reached 80 = .ok (.goto (-45), 3) := by decide +kernel
theorem dX10_reached_83 : decode cX10_reached 83 = .ok (.iinc 4 1, 3) := by decide +kernel
theorem dX10_reached_86 : decode cX10_reached 86 = .ok (.goto (-63), 3) := by decide +kernel
theorem dX10_reached_89 : decode cX10_reached 89 = .ok (.iinc 3 1, 3) := by decide +kernel
theorem dX10_reached_92 : decode cX10_reached 92 = .ok (.goto (-80), 3) := by decide +kernel
theorem dX10_reached_95 : decode cX10_reached 95 = .ok (.iload_n 2, 1) := by decide +kernel
theorem dX10_reached_96 : decode cX10_reached 96 = .ok (.ireturn, 1) := by decide +kernel
theorem dX10_layLoops_0 : decode cX10_layLoops 0 = .ok (.aload_n 0, 1) := by decide +kernel
theorem dX10_layLoops_1 : decode cX10_layLoops 1 = .ok (.iconst 0, 1) := by decide +kernel
theorem dX10_layLoops_2 : decode cX10_layLoops 2 = .ok (.putfield 67, 3) := by decide +kernel
theorem dX10_layLoops_5 : decode cX10_layLoops 5 = .ok (.aload_n 0, 1) := by decide +kernel
theorem dX10_layLoops_6 : decode cX10_layLoops 6 = .ok (.iconst (-1), 1) := by decide +kernel
theorem dX10_layLoops_7 : decode cX10_layLoops 7 = .ok (.invokevirtual 273, 3) := by decide +kernel
theorem dX10_layLoops_10 : decode cX10_layLoops 10 = .ok (.istore_n 1, 1) := by decide +kernel
theorem dX10_layLoops_11 : decode cX10_layLoops 11 = .ok (.iconst 0, 1) := by decide +kernel
theorem dX10_layLoops_12 : decode cX10_layLoops 12 = .ok (.istore_n 2, 1) := by decide +kernel
theorem dX10_layLoops_13 : decode cX10_layLoops 13 = .ok (.iload_n 2, 1) := by decide +kernel
theorem dX10_layLoops_14 : decode cX10_layLoops 14 = .ok (.aload_n 0, 1) := by decide +kernel
theorem dX10_layLoops_15 : decode cX10_layLoops 15 = .ok (.getfield 17, 3) := by decide +kernel
theorem dX10_layLoops_18 : decode cX10_layLoops 18 = .ok (.if_icmp .ge 230, 3) := by decide +kernel
theorem dX10_layLoops_21 : decode cX10_layLoops 21 = .ok (.iload_n 1, 1) := by decide +kernel
theorem dX10_layLoops_22 : decode cX10_layLoops 22 = .ok (.iload_n 2, 1) := by decide +kernel
theorem dX10_layLoops_23 : decode cX10_layLoops 23 = .ok (.invokestatic 255, 3) := by decide +kernel
theorem dX10_layLoops_26 : decode cX10_layLoops 26 = .ok (.ifCond .ne 6, 3) := by decide +kernel
theorem dX10_layLoops_29 : decode cX10_layLoops 29 = .ok (.goto 213, 3) := by decide +kernel
theorem dX10_layLoops_32 : decode cX10_layLoops 32 = .ok (.aload_n 0, 1) := by decide +kernel
theorem dX10_layLoops_33 : decode cX10_layLoops 33 = .ok (.iload_n 2, 1) := by decide +kernel
theorem dX10_layLoops_34 : decode cX10_layLoops 34 = .ok (.invokevirtual 273, 3) := by decide +kernel
theorem dX10_layLoops_37 : decode cX10_layLoops 37 = .ok (.istore_n 3, 1) := by decide +kernel
theorem dX10_layLoops_38 : decode cX10_layLoops 38 = .ok (.iconst 0, 1) := by decide +kernel
theorem dX10_layLoops_39 : decode cX10_layLoops 39 = .ok (.istore 4, 2) := by decide +kernel
theorem dX10_layLoops_41 : decode cX10_layLoops 41 = .ok (.iconst 0, 1) := by decide +kernel
theorem dX10_layLoops_42 : decode cX10_layLoops 42 = .ok (.istore 5, 2) := by decide +kernel
theorem dX10_layLoops_44 : decode cX10_layLoops 44 = .ok (.iload 5, 2) := by decide +kernel
theorem dX10_layLoops_46 : decode cX10_layLoops 46 = .ok (.aload_n 0, 1) := by decide +kernel
theorem dX10_layLoops_47 : decode cX10_layLoops 47 = .ok (.getfield 17, 3) := by decide +kernel
theorem dX10_layLoops_50 : decode cX10_layLoops 50 = .ok (.if_icmp .ge 46, 3) := by decide +kernel
theorem dX10_layLoops_53 : decode cX10_layLoops 53 = .ok (.iload_n 1, 1) := by decide +kernel
theorem dX10_layLoops_54 : decode cX10_layLoops 54 = .ok (.iload 5, 2) := by decide +kernel
theorem dX10_layLoops_56 : decode cX10_layLoops 56 = .ok (.invokestatic 255, 3) := by decide +kernel
theorem dX10_layLoops_59 : decode cX10_layLoops 59 = .ok (.ifCond .eq 31, 3) := by decide +kernel
theorem dX10_layLoops_62 : decode cX10_layLoops 62 = .ok (.iload_n 3, 1) := by decide +kernel
theorem dX10_layLoops_63 : decode cX10_layLoops 63 = .ok (.iload 5, 2) := by decide +kernel
