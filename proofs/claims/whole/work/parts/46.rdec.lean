theorem dX8_signAt_0 : decode cX8_signAt 0 = .ok (.iload_n 1, 1) := by decide +kernel
theorem dX8_signAt_1 : decode cX8_signAt 1 = .ok (.aload_n 0, 1) := by decide +kernel
theorem dX8_signAt_2 : decode cX8_signAt 2 = .ok (.getfield 42, 3) := by decide +kernel
theorem dX8_signAt_5 : decode cX8_signAt 5 = .ok (.if_icmp .ge 12, 3) := by decide +kernel
theorem dX8_signAt_8 : decode cX8_signAt 8 = .ok (.aload_n 0, 1) := by decide +kernel
theorem dX8_signAt_9 : decode cX8_signAt 9 = .ok (.getfield 9, 3) := by decide +kernel
theorem dX8_signAt_12 : decode cX8_signAt 12 = .ok (.iload_n 1, 1) := by decide +kernel
theorem dX8_signAt_13 : decode cX8_signAt 13 = .ok (.caload, 1) := by decide +kernel
theorem dX8_signAt_14 : decode cX8_signAt 14 = .ok (.goto 4, 3) := by decide +kernel
theorem dX8_signAt_17 : decode cX8_signAt 17 = .ok (.iconst 0, 1) := by decide +kernel
theorem dX8_signAt_18 : decode cX8_signAt 18 = .ok (.ireturn, 1) := by decide +kernel
theorem dX8_take_0 : decode cX8_take 0 = .ok (.aload_n 0, 1) := by decide +kernel
theorem dX8_take_1 : decode cX8_take 1 = .ok (.getfield 26, 3) := by decide +kernel
theorem dX8_take_4 : decode cX8_take 4 = .ok (.aload_n 0, 1) := by decide +kernel
theorem dX8_take_5 : decode cX8_take 5 = .ok (.getfield 42, 3) := by decide +kernel
theorem dX8_take_8 : decode cX8_take 8 = .ok (.if_icmp .ge 16, 3) := by decide +kernel
theorem dX8_take_11 : decode cX8_take 11 = .ok (.aload_n 0, 1) := by decide +kernel
theorem dX8_take_12 : decode cX8_take 12 = .ok (.getfield 9, 3) := by decide +kernel
theorem dX8_take_15 : decode cX8_take 15 = .ok (.aload_n 0, 1) := by decide +kernel
theorem dX8_take_16 : decode cX8_take 16 = .ok (.getfield 26, 3) := by decide +kernel
theorem dX8_take_19 : decode cX8_take 19 = .ok (.caload, 1) := by decide +kernel
theorem dX8_take_20 : decode cX8_take 20 = .ok (.iload_n 1, 1) := by decide +kernel
theorem dX8_take_21 : decode cX8_take 21 = .ok (.if_icmp .eq 5, 3) := by decide +kernel
theorem dX8_take_24 : decode cX8_take 24 = .ok (.iconst 0, 1) := by decide +kernel
theorem dX8_take_25 : decode cX8_take 25 = .ok (.ireturn, 1) := by decide +kernel
theorem dX8_take_26 : decode cX8_take 26 = .ok (.aload_n 0, 1) := by decide +kernel
theorem dX8_take_27 : decode cX8_take 27 = .ok (.dup, 1) := by decide +kernel
theorem dX8_take_28 : decode cX8_take 28 = .ok (.getfield 26, 3) := by decide +kernel
theorem dX8_take_31 : decode cX8_take 31 = .ok (.iconst 1, 1) := by decide +kernel
theorem dX8_take_32 : decode cX8_take 32 = .ok (.iadd, 1) := by decide +kernel
theorem dX8_take_33 : decode cX8_take 33 = .ok (.putfield 26, 3) := by decide +kernel
theorem dX8_take_36 : decode cX8_take 36 = .ok (.iconst 1, 1) := by decide +kernel
theorem dX8_take_37 : decode cX8_take 37 = .ok (.ireturn, 1) := by decide +kernel
theorem dX8_takeWord_0 : decode cX8_takeWord 0 = .ok (.iconst 0, 1) := by decide +kernel
theorem dX8_takeWord_1 : decode cX8_takeWord 1 = .ok (.istore_n 2, 1) := by decide +kernel
theorem dX8_takeWord_2 : decode cX8_takeWord 2 = .ok (.iload_n 2, 1) := by decide +kernel
theorem dX8_takeWord_3 : decode cX8_takeWord 3 = .ok (.aload_n 1, 1) := by decide +kernel
theorem dX8_takeWord_4 : decode cX8_takeWord 4 = .ok (.invokevirtual 97, 3) := by decide +kernel
theorem dX8_takeWord_7 : decode cX8_takeWord 7 = .ok (.if_icmp .ge 23, 3) := by decide +kernel
theorem dX8_takeWord_10 : decode cX8_takeWord 10 = .ok (.aload_n 0, 1) := by decide +kernel
theorem dX8_takeWord_11 : decode cX8_takeWord 11 = .ok (.aload_n 1, 1) := by decide +kernel
theorem dX8_takeWord_12 : decode cX8_takeWord 12 = .ok (.iload_n 2, 1) := by decide +kernel
theorem dX8_takeWord_13 : decode cX8_takeWord 13 = .ok (.invokevirtual 101, 3) := by decide +kernel
theorem dX8_takeWord_16 : decode cX8_takeWord 16 = .ok (.invokevirtual 53, 3) := by decide +kernel
theorem dX8_takeWord_19 : decode cX8_takeWord 19 = .ok (.ifCond .ne 5, 3) := by decide +kernel
theorem dX8_takeWord_22 : decode cX8_takeWord 22 = .ok (.iconst 0, 1) := by decide +kernel
theorem dX8_takeWord_23 : decode cX8_takeWord 23 = .ok (.ireturn, 1) := by decide +kernel
theorem dX8_takeWord_24 : decode cX8_takeWord 24 = .ok (.iinc 2 1, 3) := by decide +kernel
theorem dX8_takeWord_27 : decode cX8_takeWord 27 = .ok (.goto (-25), 3) := by decide +kernel
theorem dX8_takeWord_30 : decode cX8_takeWord 30 = .ok (.iconst 1, 1) := by decide +kernel
theorem dX8_takeWord_31 : decode cX8_takeWord 31 = .ok (.ireturn, 1) := by decide +kernel
theorem dX8_takeVariable_0 : decode cX8_takeVariable 0 = .ok (.aload_n 0, 1) := by decide +kernel
theorem dX8_takeVariable_1 : decode cX8_takeVariable 1 = .ok (.aload_n 0, 1) := by decide +kernel
theorem dX8_takeVariable_2 : decode cX8_takeVariable 2 = .ok (.getfield 26, 3) := by decide +kernel
theorem dX8_takeVariable_5 : decode cX8_takeVariable 5 = .ok (.invokevirtual 45, 3) := by decide +kernel
theorem dX8_takeVariable_8 : decode cX8_takeVariable 8 = .ok (.istore_n 1, 1) := by decide +kernel
theorem dX8_takeVariable_9 : decode cX8_takeVariable 9 = .ok (.iload_n 1, 1) := by decide +kernel
theorem dX8_takeVariable_10 : decode cX8_takeVariable 10 = .ok (.bipush 97, 2) := by decide +kernel
theorem dX8_takeVariable_12 : decode cX8_takeVariable 12 = .ok (.if_icmp .lt 9, 3) := by decide +kernel
theorem dX8_takeVariable_15 : decode cX8_takeVariable 15 = .ok (.iload_n 1, 1) := by decide +kernel
theorem dX8_takeVariable_16 : decode cX8_takeVariable 16 = .ok (.bipush 108, 2) := by decide +kernel
theorem dX8_takeVariable_18 : decode cX8_takeVariable 18 = .ok (.if_icmp .le 5, 3) := by decide +kernel
theorem dX8_takeVariable_21 : decode cX8_takeVariable 21 = .ok (.iconst (-1), 1) := by decide +kernel
theorem dX8_takeVariable_22 : decode cX8_takeVariable 22 = .ok (.ireturn, 1) := by decide +kernel
theorem dX8_takeVariable_23 : decode cX8_takeVariable 23 = .ok (.aload_n 0, 1) := by decide +kernel
theorem dX8_takeVariable_24 : decode cX8_takeVariable 24 = .ok (.dup, 1) := by decide +kernel
theorem dX8_takeVariable_25 : decode cX8_takeVariable 25 = .ok (.getfield 26, 3) := by decide +kernel
theorem dX8_takeVariable_28 : decode cX8_takeVariable 28 = .ok (.iconst 1, 1) := by decide +kernel
theorem dX8_takeVariable_29 : decode cX8_takeVariable 29 = .ok (.iadd, 1) := by decide +kernel
theorem dX8_takeVariable_30 : decode cX8_takeVariable 30 = .ok (.putfield 26, 3) := by decide +kernel
theorem dX8_takeVariable_33 : decode cX8_takeVariable 33 = .ok (.iload_n 1, 1) := by decide +kernel
theorem dX8_takeVariable_34 : decode cX8_takeVariable 34 = .ok (.bipush 97, 2) := by decide +kernel
theorem dX8_takeVariable_36 : decode cX8_takeVariable 36 = .ok (.isub, 1) := by decide +kernel
theorem dX8_takeVariable_37 : decode cX8_takeVariable 37 = .ok (.ireturn, 1) := by decide +kernel
theorem dX8_finishDraft_0 : decode cX8_finishDraft 0 = .ok (.iload_n 1, 1) := by decide +kernel
theorem dX8_finishDraft_1 : decode cX8_finishDraft 1 = .ok (.ifCond .eq 12, 3) := by decide +kernel
theorem dX8_finishDraft_4 : decode cX8_finishDraft 4 = .ok (.iload_n 2, 1) := by decide +kernel
theorem dX8_finishDraft_5 : decode cX8_finishDraft 5 = .ok (.iconst (-1), 1) := by decide +kernel
theorem dX8_finishDraft_6 : decode cX8_finishDraft 6 = .ok (.if_icmp .ne 7, 3) := by decide +kernel
theorem dX8_finishDraft_9 : decode cX8_finishDraft 9 = .ok (.iconst 1, 1) := by decide +kernel
theorem dX8_finishDraft_10 : decode cX8_finishDraft 10 = .ok (.goto 4, 3) := by decide +kernel
theorem dX8_finishDraft_13 : decode cX8_finishDraft 13 = .ok (.iconst 0, 1) := by decide +kernel
theorem dX8_finishDraft_14 : decode cX8_finishDraft 14 = .ok (.istore 5, 2) := by decide +kernel
theorem dX8_finishDraft_16 : decode cX8_finishDraft 16 = .ok (.iload_n 1, 1) := by decide +kernel
theorem dX8_finishDraft_17 : decode cX8_finishDraft 17 = .ok (.iconst 2, 1) := by decide +kernel
theorem dX8_finishDraft_18 : decode cX8_finishDraft 18 = .ok (.if_icmp .eq 12, 3) := by decide +kernel
theorem dX8_finishDraft_21 : decode cX8_finishDraft 21 = .ok (.iload_n 3, 1) := by decide +kernel
theorem dX8_finishDraft_22 : decode cX8_finishDraft 22 = .ok (.iconst (-1), 1) := by decide +kernel
theorem dX8_finishDraft_23 : decode cX8_finishDraft 23 = .ok (.if_icmp .ne 7, 3) := by decide +kernel
theorem dX8_finishDraft_26 : decode cX8_finishDraft 26 = .ok (.iconst 1, 1) := by decide +kernel
theorem dX8_finishDraft_27 : decode cX8_finishDraft 27 = .ok (.goto 4, 3) := by decide +kernel
theorem dX8_finishDraft_30 : decode cX8_finishDraft 30 = .ok (.iconst 0, 1) := by decide +kernel
theorem dX8_finishDraft_31 : decode cX8_finishDraft 31 = .ok (.istore 6, 2) := by decide +kernel
theorem dX8_finishDraft_33 : decode cX8_finishDraft 33 = .ok (.iload_n 1, 1) := by decide +kernel
theorem dX8_finishDraft_34 : decode cX8_finishDraft 34 = .ok (.iconst 1, 1) := by decide +kernel
theorem dX8_finishDraft_35 : decode cX8_finishDraft 35 = .ok (.if_icmp .ne 13, 3) := by decide +kernel
theorem dX8_finishDraft_38 : decode cX8_finishDraft 38 = .ok (.iload 4, 2) := by decide +kernel
theorem dX8_finishDraft_40 : decode cX8_finishDraft 40 = .ok (.iconst (-1), 1) := by decide +kernel
theorem dX8_finishDraft_41 : decode cX8_finishDraft 41 = .ok (.if_icmp .ne 7, 3) := by decide +kernel
theorem dX8_finishDraft_44 : decode cX8_finishDraft 44 = .ok (.iconst 1, 1) := by decide +kernel
theorem dX8_finishDraft_45 : decode cX8_finishDraft 45 = .ok (.goto 4, 3) := by decide +kernel
theorem dX8_finishDraft_48 : decode cX8_finishDraft 48 = .ok (.iconst 0, 1) := by decide +kernel
theorem dX8_finishDraft_49 : decode cX8_finishDraft 49 = .ok (.istore 7, 2) := by decide +kernel
theorem dX8_finishDraft_51 : decode cX8_finishDraft 51 = .ok (.iload 5, 2) := by decide +kernel
theorem dX8_finishDraft_53 : decode cX8_finishDraft 53 = .ok (.ifCond .ne 13, 3) := by decide +kernel
theorem dX8_finishDraft_56 : decode cX8_finishDraft 56 = .ok (.iload 6, 2) := by decide +kernel
theorem dX8_finishDraft_58 : decode cX8_finishDraft 58 = .ok (.ifCond .ne 8, 3) := by decide +kernel
theorem dX8_finishDraft_61 : decode cX8_finishDraft 61 = .ok (.iload 7, 2) := by decide +kernel
theorem dX8_finishDraft_63 : decode cX8_finishDraft 63 = .ok (.ifCond .eq 5, 3) := by decide +kernel
theorem dX8_finishDraft_66 : decode cX8_finishDraft 66 = .ok (.iconst 0, 1) := by decide +kernel
theorem dX8_finishDraft_67 : decode cX8_finishDraft 67 = .ok (.ireturn, 1) := by decide +kernel
theorem dX8_finishDraft_68 : decode cX8_finishDraft 68 = .ok (.aload_n 0, 1) := by decide +kernel
theorem dX8_finishDraft_69 : decode cX8_finishDraft 69 = .ok (.getfield 18, 3) := by decide +kernel
theorem dX8_finishDraft_72 : decode cX8_finishDraft 72 = .ok (.iload_n 1, 1) := by decide +kernel
theorem dX8_finishDraft_73 : decode cX8_finishDraft 73 = .ok (.iload_n 2, 1) := by decide +kernel
theorem dX8_finishDraft_74 : decode cX8_finishDraft 74 = .ok (.iload_n 3, 1) := by decide +kernel
theorem dX8_finishDraft_75 : decode cX8_finishDraft 75 = .ok (.iload 4, 2) := by decide +kernel
theorem dX8_finishDraft_77 : decode cX8_finishDraft 77 = .ok (.invokevirtual 94, 3) := by decide +kernel
theorem dX8_finishDraft_80 : decode cX8_finishDraft 80 = .ok (.iconst 1, 1) := by decide +kernel
theorem dX8_finishDraft_81 : decode cX8_finishDraft 81 = .ok (.ireturn, 1) := by decide +kernel
theorem dX8_isDigit_0 : decode cX8_isDigit 0 = .ok (.iload_n 0, 1) := by decide +kernel
theorem dX8_isDigit_1 : decode cX8_isDigit 1 = .ok (.bipush 48, 2) := by decide +kernel
theorem dX8_isDigit_3 : decode cX8_isDigit 3 = .ok (.if_icmp .lt 13, 3) := by decide +kernel
theorem dX8_isDigit_6 : decode cX8_isDigit 6 = .ok (.iload_n 0, 1) := by decide +kernel
theorem dX8_isDigit_7 : decode cX8_isDigit 7 = .ok (.bipush 57, 2) := by decide +kernel
theorem dX8_isDigit_9 : decode cX8_isDigit 9 = .ok (.if_icmp .gt 7, 3) := by decide +kernel
theorem dX8_isDigit_12 : decode cX8_isDigit 12 = .ok (.iconst 1, 1) := by decide +kernel
theorem dX8_isDigit_13 : decode cX8_isDigit 13 = .ok (.goto 4, 3) := by decide +kernel
theorem dX8_isDigit_16 : decode cX8_isDigit 16 = .ok (.iconst 0, 1) := by decide +kernel
theorem dX8_isDigit_17 : decode cX8_isDigit 17 = .ok (.ireturn, 1) := by decide +kernel
theorem dX8_takeBlock_0 : decode cX8_takeBlock 0 = .ok (.aload_n 0, 1) := by decide +kernel
theorem dX8_takeBlock_1 : decode cX8_takeBlock 1 = .ok (.aload_n 0, 1) := by decide +kernel
theorem dX8_takeBlock_2 : decode cX8_takeBlock 2 = .ok (.getfield 26, 3) := by decide +kernel
theorem dX8_takeBlock_5 : decode cX8_takeBlock 5 = .ok (.invokevirtual 45, 3) := by decide +kernel
theorem dX8_takeBlock_8 : decode cX8_takeBlock 8 = .ok (.istore_n 1, 1) := by decide +kernel
theorem dX8_takeBlock_9 : decode cX8_takeBlock 9 = .ok (.iload_n 1, 1) := by decide +kernel
theorem dX8_takeBlock_10 : decode cX8_takeBlock 10 = .ok (.invokestatic 57, 3) := by decide +kernel
theorem dX8_takeBlock_13 : decode cX8_takeBlock 13 = .ok (.ifCond .eq 14, 3) := by decide +kernel
theorem dX8_takeBlock_16 : decode cX8_takeBlock 16 = .ok (.iload_n 1, 1) := by decide +kernel
theorem dX8_takeBlock_17 : decode cX8_takeBlock 17 = .ok (.bipush 48, 2) := by decide +kernel
theorem dX8_takeBlock_19 : decode cX8_takeBlock 19 = .ok (.isub, 1) := by decide +kernel
theorem dX8_takeBlock_20 : decode cX8_takeBlock 20 = .ok (.aload_n 0, 1) := by decide +kernel
theorem dX8_takeBlock_21 : decode cX8_takeBlock 21 = .ok (.getfield 22, 3) := by decide +kernel
theorem dX8_takeBlock_24 : decode cX8_takeBlock 24 = .ok (.if_icmp .lt 5, 3) := by decide +kernel
theorem dX8_takeBlock_27 : decode cX8_takeBlock 27 = .ok (.iconst (-1), 1) := by decide +kernel
theorem dX8_takeBlock_28 : decode cX8_takeBlock 28 = .ok (.ireturn, 1) := by decide +kernel
theorem dX8_takeBlock_29 : decode cX8_takeBlock 29 = .ok (.aload_n 0, 1) := by decide +kernel
theorem dX8_takeBlock_30 : decode cX8_takeBlock 30 = .ok (.dup, 1) := by decide +kernel
theorem dX8_takeBlock_31 : decode cX8_takeBlock 31 = .ok (.getfield 26, 3) := by decide +kernel
theorem dX8_takeBlock_34 : decode cX8_takeBlock 34 = .ok (.iconst 1, 1) := by decide +kernel
theorem dX8_takeBlock_35 : decode cX8_takeBlock 35 = .ok (.iadd, 1) := by decide +kernel
theorem dX8_takeBlock_36 : decode cX8_takeBlock 36 = .ok (.putfield 26, 3) := by decide +kernel
theorem dX8_takeBlock_39 : decode cX8_takeBlock 39 = .ok (.iload_n 1, 1) := by decide +kernel
theorem dX8_takeBlock_40 : decode cX8_takeBlock 40 = .ok (.bipush 48, 2) := by decide +kernel
theorem dX8_takeBlock_42 : decode cX8_takeBlock 42 = .ok (.isub, 1) := by decide +kernel
theorem dX8_takeBlock_43 : decode cX8_takeBlock 43 = .ok (.ireturn, 1) := by decide +kernel
theorem dX8_parseBranch_0 : decode cX8_parseBranch 0 = .ok (.aload_n 0, 1) := by decide +kernel
theorem dX8_parseBranch_1 : decode cX8_parseBranch 1 = .ok (.invokevirtual 49, 3) := by decide +kernel
theorem dX8_parseBranch_4 : decode cX8_parseBranch 4 = .ok (.istore_n 1, 1) := by decide +kernel
theorem dX8_parseBranch_5 : decode cX8_parseBranch 5 = .ok (.iload_n 1, 1) := by decide +kernel
theorem dX8_parseBranch_6 : decode cX8_parseBranch 6 = .ok (.iconst (-1), 1) := by decide +kernel
theorem dX8_parseBranch_7 : decode cX8_parseBranch 7 = .ok (.if_icmp .eq 12, 3) := by decide +kernel
theorem dX8_parseBranch_10 : decode cX8_parseBranch 10 = .ok (.aload_n 0, 1) := by decide +kernel
theorem dX8_parseBranch_11 : decode cX8_parseBranch 11 = .ok (.bipush 32, 2) := by decide +kernel
theorem dX8_parseBranch_13 : decode cX8_parseBranch 13 = .ok (.invokevirtual 53, 3) := by decide +kernel
theorem dX8_parseBranch_16 : decode cX8_parseBranch 16 = .ok (.ifCond .ne 5, 3) := by decide +kernel
theorem dX8_parseBranch_19 : decode cX8_parseBranch 19 = .ok (.iconst 0, 1) := by decide +kernel
theorem dX8_parseBranch_20 : decode cX8_parseBranch 20 = .ok (.ireturn, 1) := by decide +kernel
theorem dX8_parseBranch_21 : decode cX8_parseBranch 21 = .ok (.aload_n 0, 1) := by decide +kernel
theorem dX8_parseBranch_22 : decode cX8_parseBranch 22 = .ok (.invokevirtual 80, 3) := by decide +kernel
theorem dX8_parseBranch_25 : decode cX8_parseBranch 25 = .ok (.istore_n 2, 1) := by decide +kernel
theorem dX8_parseBranch_26 : decode cX8_parseBranch 26 = .ok (.iload_n 2, 1) := by decide +kernel
theorem dX8_parseBranch_27 : decode cX8_parseBranch 27 = .ok (.iconst (-1), 1) := by decide +kernel
theorem dX8_parseBranch_28 : decode cX8_parseBranch 28 = .ok (.if_icmp .eq 12, 3) := by decide +kernel
theorem dX8_parseBranch_31 : decode cX8_parseBranch 31 = .ok (.aload_n 0, 1) := by decide +kernel
theorem dX8_parseBranch_32 : decode cX8_parseBranch 32 = .ok (.bipush 32, 2) := by decide +kernel
theorem dX8_parseBranch_34 : decode cX8_parseBranch 34 = .ok (.invokevirtual 53, 3) := by decide +kernel
theorem dX8_parseBranch_37 : decode cX8_parseBranch 37 = .ok (.ifCond .ne 5, 3) := by decide +kernel
theorem dX8_parseBranch_40 : decode cX8_parseBranch 40 = .ok (.iconst 0, 1) := by decide +kernel
theorem dX8_parseBranch_41 : decode cX8_parseBranch 41 = .ok (.ireturn, 1) := by decide +kernel
theorem dX8_parseBranch_42 : decode cX8_parseBranch 42 = .ok (.aload_n 0, 1) := by decide +kernel
theorem dX8_parseBranch_43 : decode cX8_parseBranch 43 = .ok (.iconst 1, 1) := by decide +kernel
theorem dX8_parseBranch_44 : decode cX8_parseBranch 44 = .ok (.iload_n 1, 1) := by decide +kernel
theorem dX8_parseBranch_45 : decode cX8_parseBranch 45 = .ok (.iload_n 2, 1) := by decide +kernel
theorem dX8_parseBranch_46 : decode cX8_parseBranch 46 = .ok (.aload_n 0, 1) := by decide +kernel
theorem dX8_parseBranch_47 : decode cX8_parseBranch 47 = .ok (.invokevirtual 80, 3) := by decide +kernel
theorem dX8_parseBranch_50 : decode cX8_parseBranch 50 = .ok (.invokevirtual 83, 3) := by decide +kernel
theorem dX8_parseBranch_53 : decode cX8_parseBranch 53 = .ok (.ireturn, 1) := by decide +kernel
theorem dX8_parseEnding_0 : decode cX8_parseEnding 0 = .ok (.aload_n 0, 1) := by decide +kernel
theorem dX8_parseEnding_1 : decode cX8_parseEnding 1 = .ok (.aload_n 0, 1) := by decide +kernel
theorem dX8_parseEnding_2 : decode cX8_parseEnding 2 = .ok (.getfield 26, 3) := by decide +kernel
theorem dX8_parseEnding_5 : decode cX8_parseEnding 5 = .ok (.invokevirtual 45, 3) := by decide +kernel
theorem dX8_parseEnding_8 : decode cX8_parseEnding 8 = .ok (.bipush 103, 2) := by decide +kernel
theorem dX8_parseEnding_10 : decode cX8_parseEnding 10 = .ok (.if_icmp .ne 32, 3) := by decide +kernel
theorem dX8_parseEnding_13 : decode cX8_parseEnding 13 = .ok (.aload_n 0, 1) := by decide +kernel
theorem dX8_parseEnding_14 : decode cX8_parseEnding 14 = .ok (.ldc 74, 2) := by decide +kernel
theorem dX8_parseEnding_16 : decode cX8_parseEnding 16 = .ok (.invokevirtual 76, 3) := by decide +kernel
theorem dX8_parseEnding_19 : decode cX8_parseEnding 19 = .ok (.ifCond .eq 21, 3) := by decide +kernel
theorem dX8_parseEnding_22 : decode cX8_parseEnding 22 = .ok (.aload_n 0, 1) := by decide +kernel
theorem dX8_parseEnding_23 : decode cX8_parseEnding 23 = .ok (.iconst 0, 1) := by decide +kernel
theorem dX8_parseEnding_24 : decode cX8_parseEnding 24 = .ok (.iconst (-1), 1) := by decide +kernel
theorem dX8_parseEnding_25 : decode cX8_parseEnding 25 = .ok (.aload_n 0, 1) := by decide +kernel
theorem dX8_parseEnding_26 : decode cX8_parseEnding 26 = .ok (.invokevirtual 80, 3) := by decide +kernel
theorem dX8_parseEnding_29 : decode cX8_parseEnding 29 = .ok (.iconst (-1), 1) := by decide +kernel
theorem dX8_parseEnding_30 : decode cX8_parseEnding 30 = .ok (.invokevirtual 83, 3) := by decide +kernel
theorem dX8_parseEnding_33 : decode cX8_parseEnding 33 = .ok (.ifCond .eq 7, 3) := by decide +kernel
theorem dX8_parseEnding_36 : decode cX8_parseEnding 36 = .ok (.iconst 1, 1) := by decide +kernel
theorem dX8_parseEnding_37 : decode cX8_parseEnding 37 = .ok (.goto 4, 3) := by decide +kernel
theorem dX8_parseEnding_40 : decode cX8_parseEnding 40 = .ok (.iconst 0, 1) := by decide +kernel
theorem dX8_parseEnding_41 : decode cX8_parseEnding 41 = .ok (.ireturn, 1) := by decide +kernel
theorem dX8_parseEnding_42 : decode cX8_parseEnding 42 = .ok (.aload_n 0, 1) := by decide +kernel
theorem dX8_parseEnding_43 : decode cX8_parseEnding 43 = .ok (.aload_n 0, 1) := by decide +kernel
theorem dX8_parseEnding_44 : decode cX8_parseEnding 44 = .ok (.getfield 26, 3) := by decide +kernel
theorem dX8_parseEnding_47 : decode cX8_parseEnding 47 = .ok (.invokevirtual 45, 3) := by decide +kernel
theorem dX8_parseEnding_50 : decode cX8_parseEnding 50 = .ok (.bipush 105, 2) := by decide +kernel
theorem dX8_parseEnding_52 : decode cX8_parseEnding 52 = .ok (.if_icmp .ne 25, 3) := by decide +kernel
theorem dX8_parseEnding_55 : decode cX8_parseEnding 55 = .ok (.aload_n 0, 1) := by decide +kernel
theorem dX8_parseEnding_56 : decode cX8_parseEnding 56 = .ok (.ldc 87, 2) := by decide +kernel
theorem dX8_parseEnding_58 : decode cX8_parseEnding 58 = .ok (.invokevirtual 76, 3) := by decide +kernel
theorem dX8_parseEnding_61 : decode cX8_parseEnding 61 = .ok (.ifCond .eq 14, 3) := by decide +kernel
theorem dX8_parseEnding_64 : decode cX8_parseEnding 64 = .ok (.aload_n 0, 1) := by decide +kernel
theorem dX8_parseEnding_65 : decode cX8_parseEnding 65 = .ok (.invokevirtual 89, 3) := by decide +kernel
theorem dX8_parseEnding_68 : decode cX8_parseEnding 68 = .ok (.ifCond .eq 7, 3) := by decide +kernel
theorem dX8_parseEnding_71 : decode cX8_parseEnding 71 = .ok (.iconst 1, 1) := by decide +kernel
theorem dX8_parseEnding_72 : decode cX8_parseEnding 72 = .ok (.goto 4, 3) := by decide +kernel
theorem dX8_parseEnding_75 : decode cX8_parseEnding 75 = .ok (.iconst 0, 1) := by decide +kernel
theorem dX8_parseEnding_76 : decode cX8_parseEnding 76 = .ok (.ireturn, 1) := by decide +kernel
theorem dX8_parseEnding_77 : decode cX8_parseEnding 77 = .ok (.aload_n 0, 1) := by decide +kernel
theorem dX8_parseEnding_78 : decode cX8_parseEnding 78 = .ok (.ldc 92, 2) := by decide +kernel
theorem dX8_parseEnding_80 : decode cX8_parseEnding 80 = .ok (.invokevirtual 76, 3) := by decide +kernel
theorem dX8_parseEnding_83 : decode cX8_parseEnding 83 = .ok (.ifCond .eq 21, 3) := by decide +kernel
theorem dX8_parseEnding_86 : decode cX8_parseEnding 86 = .ok (.aload_n 0, 1) := by decide +kernel
theorem dX8_parseEnding_87 : decode cX8_parseEnding 87 = .ok (.iconst 2, 1) := by decide +kernel
theorem dX8_parseEnding_88 : decode cX8_parseEnding 88 = .ok (.aload_n 0, 1) := by decide +kernel
theorem dX8_parseEnding_89 : decode cX8_parseEnding 89 = .ok (.invokevirtual 49, 3) := by decide +kernel
theorem dX8_parseEnding_92 : decode cX8_parseEnding 92 = .ok (.iconst (-1), 1) := by decide +kernel
theorem dX8_parseEnding_93 : decode cX8_parseEnding 93 = .ok (.iconst (-1), 1) := by decide +kernel
theorem dX8_parseEnding_94 : decode cX8_parseEnding 94 = .ok (.invokevirtual 83, 3) := by decide +kernel
theorem dX8_parseEnding_97 : decode cX8_parseEnding 97 = .ok (.ifCond .eq 7, 3) := by decide +kernel
theorem dX8_parseEnding_100 : decode cX8_parseEnding 100 = .ok (.iconst 1, 1) := by decide +kernel
theorem dX8_parseEnding_101 : decode cX8_parseEnding 101 = .ok (.goto 4, 3) := by decide +kernel
theorem dX8_parseEnding_104 : decode cX8_parseEnding 104 = .ok (.iconst 0, 1) := by decide +kernel
theorem dX8_parseEnding_105 : decode cX8_parseEnding 105 = .ok (.ireturn, 1) := by decide +kernel
theorem dX8_startsInstruction_0 : decode cX8_startsInstruction 0 = .ok (.aload_n 0, 1) := by decide +kernel
theorem dX8_startsInstruction_1 : decode cX8_startsInstruction 1 = .ok (.aload_n 0, 1) := by decide +kernel
theorem dX8_startsInstruction_2 : decode cX8_startsInstruction 2 = .ok (.getfield 26, 3) := by decide +kernel
theorem dX8_startsInstruction_5 : decode cX8_startsInstruction 5 = .ok (.invokevirtual 45, 3) := by decide +kernel
theorem dX8_startsInstruction_8 : decode cX8_startsInstruction 8 = .ok (.istore_n 1, 1) := by decide +kernel
theorem dX8_startsInstruction_9 : decode cX8_startsInstruction 9 = .ok (.aload_n 0, 1) := by decide +kernel
theorem dX8_startsInstruction_10 : decode cX8_startsInstruction 10 = .ok (.aload_n 0, 1) := by decide +kernel
theorem dX8_startsInstruction_11 : decode cX8_startsInstruction 11 = .ok (.getfield 26, 3) := by decide +kernel
theorem dX8_startsInstruction_14 : decode cX8_startsInstruction 14 = .ok (.iconst 1, 1) := by decide +kernel
theorem dX8_startsInstruction_15 : decode cX8_startsInstruction 15 = .ok (.iadd, 1) := by decide +kernel
theorem dX8_startsInstruction_16 : decode cX8_startsInstruction 16 = .ok (.invokevirtual 45, 3) := by decide +kernel
theorem dX8_startsInstruction_19 : decode cX8_startsInstruction 19 = .ok (.istore_n 2, 1) := by decide +kernel
theorem dX8_startsInstruction_20 : decode cX8_startsInstruction 20 = .ok (.iload_n 1, 1) := by decide +kernel
theorem dX8_startsInstruction_21 : decode cX8_startsInstruction 21 = .ok (.bipush 103, 2) := by decide +kernel
theorem dX8_startsInstruction_23 : decode cX8_startsInstruction 23 = .ok (.if_icmp .ne 9, 3) := by decide +kernel
theorem dX8_startsInstruction_26 : decode cX8_startsInstruction 26 = .ok (.iload_n 2, 1) := by decide +kernel
theorem dX8_startsInstruction_27 : decode cX8_startsInstruction 27 = .ok (.bipush 111, 2) := by decide +kernel
theorem dX8_startsInstruction_29 : decode cX8_startsInstruction 29 = .ok (.if_icmp .eq 15, 3) := by decide +kernel
theorem dX8_startsInstruction_32 : decode cX8_startsInstruction 32 = .ok (.iload_n 1, 1) := by decide +kernel
theorem dX8_startsInstruction_33 : decode cX8_startsInstruction 33 = .ok (.bipush 105, 2) := by decide +kernel
theorem dX8_startsInstruction_35 : decode cX8_startsInstruction 35 = .ok (.if_icmp .ne 13, 3) := by decide +kernel
theorem dX8_startsInstruction_38 : decode cX8_startsInstruction 38 = .ok (.iload_n 2, 1) := by decide +kernel
theorem dX8_startsInstruction_39 : decode cX8_startsInstruction 39 = .ok (.bipush 102, 2) := by decide +kernel
theorem dX8_startsInstruction_41 : decode cX8_startsInstruction 41 = .ok (.if_icmp .ne 7, 3) := by decide +kernel
theorem dX8_startsInstruction_44 : decode cX8_startsInstruction 44 = .ok (.iconst 1, 1) := by decide +kernel
theorem dX8_startsInstruction_45 : decode cX8_startsInstruction 45 = .ok (.goto 4, 3) := by decide +kernel
theorem dX8_startsInstruction_48 : decode cX8_startsInstruction 48 = .ok (.iconst 0, 1) := by decide +kernel
theorem dX8_startsInstruction_49 : decode cX8_startsInstruction 49 = .ok (.istore_n 3, 1) := by decide +kernel
theorem dX8_startsInstruction_50 : decode cX8_startsInstruction 50 = .ok (.iload_n 1, 1) := by decide +kernel
theorem dX8_startsInstruction_51 : decode cX8_startsInstruction 51 = .ok (.bipush 97, 2) := by decide +kernel
theorem dX8_startsInstruction_53 : decode cX8_startsInstruction 53 = .ok (.if_icmp .lt 17, 3) := by decide +kernel
theorem dX8_startsInstruction_56 : decode cX8_startsInstruction 56 = .ok (.iload_n 1, 1) := by decide +kernel
theorem dX8_startsInstruction_57 : decode cX8_startsInstruction 57 = .ok (.bipush 108, 2) := by decide +kernel
theorem dX8_startsInstruction_59 : decode cX8_startsInstruction 59 = .ok (.if_icmp .gt 11, 3) := by decide +kernel
theorem dX8_startsInstruction_62 : decode cX8_startsInstruction 62 = .ok (.iload_n 3, 1) := by decide +kernel
theorem dX8_startsInstruction_63 : decode cX8_startsInstruction 63 = .ok (.ifCond .ne 7, 3) := by decide +kernel
theorem dX8_startsInstruction_66 : decode cX8_startsInstruction 66 = .ok (.iconst 1, 1) := by decide +kernel
theorem dX8_startsInstruction_67 : decode cX8_startsInstruction 67 = .ok (.goto 4, 3) := by decide +kernel
theorem dX8_startsInstruction_70 : decode cX8_startsInstruction 70 = .ok (.iconst 0, 1) := by decide +kernel
theorem dX8_startsInstruction_71 : decode cX8_startsInstruction 71 = .ok (.ireturn, 1) := by decide +kernel
theorem dX8_parseConstant_0 : decode cX8_parseConstant 0 = .ok (.aload_n 0, 1) := by decide +kernel
theorem dX8_parseConstant_1 : decode cX8_parseConstant 1 = .ok (.bipush 45, 2) := by decide +kernel
theorem dX8_parseConstant_3 : decode cX8_parseConstant 3 = .ok (.invokevirtual 53, 3) := by decide +kernel
theorem dX8_parseConstant_6 : decode cX8_parseConstant 6 = .ok (.istore_n 2, 1) := by decide +kernel
theorem dX8_parseConstant_7 : decode cX8_parseConstant 7 = .ok (.iconst 0, 1) := by decide +kernel
theorem dX8_parseConstant_8 : decode cX8_parseConstant 8 = .ok (.istore_n 3, 1) := by decide +kernel
theorem dX8_parseConstant_9 : decode cX8_parseConstant 9 = .ok (.iconst 0, 1) := by decide +kernel
theorem dX8_parseConstant_10 : decode cX8_parseConstant 10 = .ok (.istore 4, 2) := by decide +kernel
theorem dX8_parseConstant_12 : decode cX8_parseConstant 12 = .ok (.iload 4, 2) := by decide +kernel
theorem dX8_parseConstant_14 : decode cX8_parseConstant 14 = .ok (.iconst 3, 1) := by decide +kernel
theorem dX8_parseConstant_15 : decode cX8_parseConstant 15 = .ok (.if_icmp .ge 50, 3) := by decide +kernel
theorem dX8_parseConstant_18 : decode cX8_parseConstant 18 = .ok (.aload_n 0, 1) := by decide +kernel
theorem dX8_parseConstant_19 : decode cX8_parseConstant 19 = .ok (.aload_n 0, 1) := by decide +kernel
theorem dX8_parseConstant_20 : decode cX8_parseConstant 20 = .ok (.getfield 26, 3) := by decide +kernel
theorem dX8_parseConstant_23 : decode cX8_parseConstant 23 = .ok (.invokevirtual 45, 3) := by decide +kernel
theorem dX8_parseConstant_26 : decode cX8_parseConstant 26 = .ok (.invokestatic 57, 3) := by decide +kernel
theorem dX8_parseConstant_29 : decode cX8_parseConstant 29 = .ok (.ifCond .eq 36, 3) := by decide +kernel
theorem dX8_parseConstant_32 : decode cX8_parseConstant 32 = .ok (.iload_n 3, 1) := by decide +kernel
theorem dX8_parseConstant_33 : decode cX8_parseConstant 33 = .ok (.bipush 10, 2) := by decide +kernel
theorem dX8_parseConstant_35 : decode cX8_parseConstant 35 = .ok (.imul, 1) := by decide +kernel
theorem dX8_parseConstant_36 : decode cX8_parseConstant 36 = .ok (.aload_n 0, 1) := by decide +kernel
theorem dX8_parseConstant_37 : decode cX8_parseConstant 37 = .ok (.aload_n 0, 1) := by decide +kernel
theorem dX8_parseConstant_38 : decode cX8_parseConstant 38 = .ok (.getfield 26, 3) := by decide +kernel
theorem dX8_parseConstant_41 : decode cX8_parseConstant 41 = .ok (.invokevirtual 45, 3) := by decide +kernel
theorem dX8_parseConstant_44 : decode cX8_parseConstant 44 = .ok (.bipush 48, 2) := by decide +kernel
theorem dX8_parseConstant_46 : decode cX8_parseConstant 46 = .ok (.isub, 1) := by decide +kernel
theorem dX8_parseConstant_47 : decode cX8_parseConstant 47 = .ok (.iadd, 1) := by decide +kernel
theorem dX8_parseConstant_48 : decode cX8_parseConstant 48 = .ok (.istore_n 3, 1) := by decide +kernel
theorem dX8_parseConstant_49 : decode cX8_parseConstant 49 = .ok (.aload_n 0, 1) := by decide +kernel
theorem dX8_parseConstant_50 : decode cX8_parseConstant 50 = .ok (.dup, 1) := by decide +kernel
theorem dX8_parseConstant_51 : decode cX8_parseConstant 51 = .ok (.getfield 26, 3) := by decide +kernel
theorem dX8_parseConstant_54 : decode cX8_parseConstant 54 = .ok (.iconst 1, 1) := by decide +kernel
theorem dX8_parseConstant_55 : decode cX8_parseConstant 55 = .ok (.iadd, 1) := by decide +kernel
theorem dX8_parseConstant_56 : decode cX8_parseConstant 56 = .ok (.putfield 26, 3) := by decide +kernel
theorem dX8_parseConstant_59 : decode cX8_parseConstant 59 = .ok (.iinc 4 1, 3) := by decide +kernel
theorem dX8_parseConstant_62 : decode cX8_parseConstant 62 = .ok (.goto (-50), 3) := by decide +kernel
theorem dX8_parseConstant_65 : decode cX8_parseConstant 65 = .ok (.aload_n 0, 1) := by decide +kernel
theorem dX8_parseConstant_66 : decode cX8_parseConstant 66 = .ok (.getfield 18, 3) := by decide +kernel
theorem dX8_parseConstant_69 : decode cX8_parseConstant 69 = .ok (.iconst 0, 1) := by decide +kernel
theorem dX8_parseConstant_70 : decode cX8_parseConstant 70 = .ok (.iload_n 1, 1) := by decide +kernel
theorem dX8_parseConstant_71 : decode cX8_parseConstant 71 = .ok (.iload_n 2, 1) := by decide +kernel
theorem dX8_parseConstant_72 : decode cX8_parseConstant 72 = .ok (.ifCond .eq 8, 3) := by decide +kernel
theorem dX8_parseConstant_75 : decode cX8_parseConstant 75 = .ok (.iload_n 3, 1) := by decide +kernel
theorem dX8_parseConstant_76 : decode cX8_parseConstant 76 = .ok (.ineg, 1) := by decide +kernel
theorem dX8_parseConstant_77 : decode cX8_parseConstant 77 = .ok (.goto 4, 3) := by decide +kernel
theorem dX8_parseConstant_80 : decode cX8_parseConstant 80 = .ok (.iload_n 3, 1) := by decide +kernel
theorem dX8_parseConstant_81 : decode cX8_parseConstant 81 = .ok (.iconst (-1), 1) := by decide +kernel
theorem dX8_parseConstant_82 : decode cX8_parseConstant 82 = .ok (.invokevirtual 67, 3) := by decide +kernel
theorem dX8_parseConstant_85 : decode cX8_parseConstant 85 = .ok (.iload 4, 2) := by decide +kernel
theorem dX8_parseConstant_87 : decode cX8_parseConstant 87 = .ok (.ifCond .le 7, 3) := by decide +kernel
theorem dX8_parseConstant_90 : decode cX8_parseConstant 90 = .ok (.iconst 1, 1) := by decide +kernel
theorem dX8_parseConstant_91 : decode cX8_parseConstant 91 = .ok (.goto 4, 3) := by decide +kernel
theorem dX8_parseConstant_94 : decode cX8_parseConstant 94 = .ok (.iconst 0, 1) := by decide +kernel
theorem dX8_parseConstant_95 : decode cX8_parseConstant 95 = .ok (.ireturn, 1) := by decide +kernel
theorem dX8_takeOperator_0 : decode cX8_takeOperator 0 = .ok (.aload_n 0, 1) := by decide +kernel
theorem dX8_takeOperator_1 : decode cX8_takeOperator 1 = .ok (.bipush 43, 2) := by decide +kernel
theorem dX8_takeOperator_3 : decode cX8_takeOperator 3 = .ok (.invokevirtual 53, 3) := by decide +kernel
theorem dX8_takeOperator_6 : decode cX8_takeOperator 6 = .ok (.ifCond .eq 5, 3) := by decide +kernel
theorem dX8_takeOperator_9 : decode cX8_takeOperator 9 = .ok (.iconst 2, 1) := by decide +kernel
theorem dX8_takeOperator_10 : decode cX8_takeOperator 10 = .ok (.ireturn, 1) := by decide +kernel
theorem dX8_takeOperator_11 : decode cX8_takeOperator 11 = .ok (.aload_n 0, 1) := by decide +kernel
theorem dX8_takeOperator_12 : decode cX8_takeOperator 12 = .ok (.bipush 45, 2) := by decide +kernel
theorem dX8_takeOperator_14 : decode cX8_takeOperator 14 = .ok (.invokevirtual 53, 3) := by decide +kernel
theorem dX8_takeOperator_17 : decode cX8_takeOperator 17 = .ok (.ifCond .eq 5, 3) := by decide +kernel
theorem dX8_takeOperator_20 : decode cX8_takeOperator 20 = .ok (.iconst 3, 1) := by decide +kernel
theorem dX8_takeOperator_21 : decode cX8_takeOperator 21 = .ok (.ireturn, 1) := by decide +kernel
theorem dX8_takeOperator_22 : decode cX8_takeOperator 22 = .ok (.aload_n 0, 1) := by decide +kernel
theorem dX8_takeOperator_23 : decode cX8_takeOperator 23 = .ok (.bipush 42, 2) := by decide +kernel
theorem dX8_takeOperator_25 : decode cX8_takeOperator 25 = .ok (.invokevirtual 53, 3) := by decide +kernel
theorem dX8_takeOperator_28 : decode cX8_takeOperator 28 = .ok (.ifCond .eq 7, 3) := by decide +kernel
theorem dX8_takeOperator_31 : decode cX8_takeOperator 31 = .ok (.iconst 4, 1) := by decide +kernel
theorem dX8_takeOperator_32 : decode cX8_takeOperator 32 = .ok (.goto 4, 3) := by decide +kernel
theorem dX8_takeOperator_35 : decode cX8_takeOperator 35 = .ok (.iconst 1, 1) := by decide +kernel
theorem dX8_takeOperator_36 : decode cX8_takeOperator 36 = .ok (.ireturn, 1) := by decide +kernel
theorem dX8_parseVariables_0 : decode cX8_parseVariables 0 = .ok (.aload_n 0, 1) := by decide +kernel
theorem dX8_parseVariables_1 : decode cX8_parseVariables 1 = .ok (.invokevirtual 49, 3) := by decide +kernel
theorem dX8_parseVariables_4 : decode cX8_parseVariables 4 = .ok (.istore_n 2, 1) := by decide +kernel
theorem dX8_parseVariables_5 : decode cX8_parseVariables 5 = .ok (.iload_n 2, 1) := by decide +kernel
theorem dX8_parseVariables_6 : decode cX8_parseVariables 6 = .ok (.iconst (-1), 1) := by decide +kernel
theorem dX8_parseVariables_7 : decode cX8_parseVariables 7 = .ok (.if_icmp .ne 5, 3) := by decide +kernel
theorem dX8_parseVariables_10 : decode cX8_parseVariables 10 = .ok (.iconst 0, 1) := by decide +kernel
theorem dX8_parseVariables_11 : decode cX8_parseVariables 11 = .ok (.ireturn, 1) := by decide +kernel
theorem dX8_parseVariables_12 : decode cX8_parseVariables 12 = .ok (.aload_n 0, 1) := by decide +kernel
theorem dX8_parseVariables_13 : decode cX8_parseVariables 13 = .ok (.invokevirtual 71, 3) := by decide +kernel
theorem dX8_parseVariables_16 : decode cX8_parseVariables 16 = .ok (.istore_n 3, 1) := by decide +kernel
theorem dX8_parseVariables_17 : decode cX8_parseVariables 17 = .ok (.iload_n 3, 1) := by decide +kernel
theorem dX8_parseVariables_18 : decode cX8_parseVariables 18 = .ok (.iconst 1, 1) := by decide +kernel
theorem dX8_parseVariables_19 : decode cX8_parseVariables 19 = .ok (.if_icmp .ne 7, 3) := by decide +kernel
theorem dX8_parseVariables_22 : decode cX8_parseVariables 22 = .ok (.iconst (-1), 1) := by decide +kernel
theorem dX8_parseVariables_23 : decode cX8_parseVariables 23 = .ok (.goto 7, 3) := by decide +kernel
theorem dX8_parseVariables_26 : decode cX8_parseVariables 26 = .ok (.aload_n 0, 1) := by decide +kernel
theorem dX8_parseVariables_27 : decode cX8_parseVariables 27 = .ok (.invokevirtual 49, 3) := by decide +kernel
theorem dX8_parseVariables_30 : decode cX8_parseVariables 30 = .ok (.istore 4, 2) := by decide +kernel
theorem dX8_parseVariables_32 : decode cX8_parseVariables 32 = .ok (.aload_n 0, 1) := by decide +kernel
theorem dX8_parseVariables_33 : decode cX8_parseVariables 33 = .ok (.getfield 18, 3) := by decide +kernel
theorem dX8_parseVariables_36 : decode cX8_parseVariables 36 = .ok (.iload_n 3, 1) := by decide +kernel
theorem dX8_parseVariables_37 : decode cX8_parseVariables 37 = .ok (.iload_n 1, 1) := by decide +kernel
theorem dX8_parseVariables_38 : decode cX8_parseVariables 38 = .ok (.iload_n 2, 1) := by decide +kernel
theorem dX8_parseVariables_39 : decode cX8_parseVariables 39 = .ok (.iload 4, 2) := by decide +kernel
theorem dX8_parseVariables_41 : decode cX8_parseVariables 41 = .ok (.invokevirtual 67, 3) := by decide +kernel
theorem dX8_parseVariables_44 : decode cX8_parseVariables 44 = .ok (.iload_n 3, 1) := by decide +kernel
theorem dX8_parseVariables_45 : decode cX8_parseVariables 45 = .ok (.iconst 1, 1) := by decide +kernel
theorem dX8_parseVariables_46 : decode cX8_parseVariables 46 = .ok (.if_icmp .eq 9, 3) := by decide +kernel
theorem dX8_parseVariables_49 : decode cX8_parseVariables 49 = .ok (.iload 4, 2) := by decide +kernel
theorem dX8_parseVariables_51 : decode cX8_parseVariables 51 = .ok (.iconst (-1), 1) := by decide +kernel
theorem dX8_parseVariables_52 : decode cX8_parseVariables 52 = .ok (.if_icmp .eq 7, 3) := by decide +kernel
theorem dX8_parseVariables_55 : decode cX8_parseVariables 55 = .ok (.iconst 1, 1) := by decide +kernel
theorem dX8_parseVariables_56 : decode cX8_parseVariables 56 = .ok (.goto 4, 3) := by decide +kernel
theorem dX8_parseVariables_59 : decode cX8_parseVariables 59 = .ok (.iconst 0, 1) := by decide +kernel
theorem dX8_parseVariables_60 : decode cX8_parseVariables 60 = .ok (.ireturn, 1) := by decide +kernel
theorem dX8_parseInstruction_0 : decode cX8_parseInstruction 0 = .ok (.aload_n 0, 1) := by decide +kernel
theorem dX8_parseInstruction_1 : decode cX8_parseInstruction 1 = .ok (.invokevirtual 49, 3) := by decide +kernel
theorem dX8_parseInstruction_4 : decode cX8_parseInstruction 4 = .ok (.istore_n 1, 1) := by decide +kernel
theorem dX8_parseInstruction_5 : decode cX8_parseInstruction 5 = .ok (.iload_n 1, 1) := by decide +kernel
theorem dX8_parseInstruction_6 : decode cX8_parseInstruction 6 = .ok (.iconst (-1), 1) := by decide +kernel
theorem dX8_parseInstruction_7 : decode cX8_parseInstruction 7 = .ok (.if_icmp .eq 12, 3) := by decide +kernel
theorem dX8_parseInstruction_10 : decode cX8_parseInstruction 10 = .ok (.aload_n 0, 1) := by decide +kernel
theorem dX8_parseInstruction_11 : decode cX8_parseInstruction 11 = .ok (.bipush 61, 2) := by decide +kernel
theorem dX8_parseInstruction_13 : decode cX8_parseInstruction 13 = .ok (.invokevirtual 53, 3) := by decide +kernel
theorem dX8_parseInstruction_16 : decode cX8_parseInstruction 16 = .ok (.ifCond .ne 5, 3) := by decide +kernel
theorem dX8_parseInstruction_19 : decode cX8_parseInstruction 19 = .ok (.iconst 0, 1) := by decide +kernel
theorem dX8_parseInstruction_20 : decode cX8_parseInstruction 20 = .ok (.ireturn, 1) := by decide +kernel
theorem dX8_parseInstruction_21 : decode cX8_parseInstruction 21 = .ok (.aload_n 0, 1) := by decide +kernel
theorem dX8_parseInstruction_22 : decode cX8_parseInstruction 22 = .ok (.aload_n 0, 1) := by decide +kernel
theorem dX8_parseInstruction_23 : decode cX8_parseInstruction 23 = .ok (.getfield 26, 3) := by decide +kernel
theorem dX8_parseInstruction_26 : decode cX8_parseInstruction 26 = .ok (.invokevirtual 45, 3) := by decide +kernel
theorem dX8_parseInstruction_29 : decode cX8_parseInstruction 29 = .ok (.bipush 45, 2) := by decide +kernel
theorem dX8_parseInstruction_31 : decode cX8_parseInstruction 31 = .ok (.if_icmp .eq 17, 3) := by decide +kernel
theorem dX8_parseInstruction_34 : decode cX8_parseInstruction 34 = .ok (.aload_n 0, 1) := by decide +kernel
theorem dX8_parseInstruction_35 : decode cX8_parseInstruction 35 = .ok (.aload_n 0, 1) := by decide +kernel
theorem dX8_parseInstruction_36 : decode cX8_parseInstruction 36 = .ok (.getfield 26, 3) := by decide +kernel
theorem dX8_parseInstruction_39 : decode cX8_parseInstruction 39 = .ok (.invokevirtual 45, 3) := by decide +kernel
theorem dX8_parseInstruction_42 : decode cX8_parseInstruction 42 = .ok (.invokestatic 57, 3) := by decide +kernel
theorem dX8_parseInstruction_45 : decode cX8_parseInstruction 45 = .ok (.ifCond .eq 11, 3) := by decide +kernel
theorem dX8_parseInstruction_48 : decode cX8_parseInstruction 48 = .ok (.aload_n 0, 1) := by decide +kernel
theorem dX8_parseInstruction_49 : decode cX8_parseInstruction 49 = .ok (.iload_n 1, 1) := by decide +kernel
theorem dX8_parseInstruction_50 : decode cX8_parseInstruction 50 = .ok (.invokevirtual 60, 3) := by decide +kernel
theorem dX8_parseInstruction_53 : decode cX8_parseInstruction 53 = .ok (.goto 8, 3) := by decide +kernel
theorem dX8_parseInstruction_56 : decode cX8_parseInstruction 56 = .ok (.aload_n 0, 1) := by decide +kernel
theorem dX8_parseInstruction_57 : decode cX8_parseInstruction 57 = .ok (.iload_n 1, 1) := by decide +kernel
theorem dX8_parseInstruction_58 : decode cX8_parseInstruction 58 = .ok (.invokevirtual 64, 3) := by decide +kernel
theorem dX8_parseInstruction_61 : decode cX8_parseInstruction 61 = .ok (.istore_n 2, 1) := by decide +kernel
theorem dX8_parseInstruction_62 : decode cX8_parseInstruction 62 = .ok (.iload_n 2, 1) := by decide +kernel
theorem dX8_parseInstruction_63 : decode cX8_parseInstruction 63 = .ok (.ifCond .eq 16, 3) := by decide +kernel
theorem dX8_parseInstruction_66 : decode cX8_parseInstruction 66 = .ok (.aload_n 0, 1) := by decide +kernel
theorem dX8_parseInstruction_67 : decode cX8_parseInstruction 67 = .ok (.bipush 59, 2) := by decide +kernel
theorem dX8_parseInstruction_69 : decode cX8_parseInstruction 69 = .ok (.invokevirtual 53, 3) := by decide +kernel
theorem dX8_parseInstruction_72 : decode cX8_parseInstruction 72 = .ok (.ifCond .eq 7, 3) := by decide +kernel
theorem dX8_parseInstruction_75 : decode cX8_parseInstruction 75 = .ok (.iconst 1, 1) := by decide +kernel
theorem dX8_parseInstruction_76 : decode cX8_parseInstruction 76 = .ok (.goto 4, 3) := by decide +kernel
theorem dX8_parseInstruction_79 : decode cX8_parseInstruction 79 = .ok (.iconst 0, 1) := by decide +kernel
theorem dX8_parseInstruction_80 : decode cX8_parseInstruction 80 = .ok (.ireturn, 1) := by decide +kernel
theorem dX8_parse_0 : decode cX8_parse 0 = .ok (.aload_n 0, 1) := by decide +kernel
theorem dX8_parse_1 : decode cX8_parse 1 = .ok (.iload_n 1, 1) := by decide +kernel
theorem dX8_parse_2 : decode cX8_parse 2 = .ok (.putfield 22, 3) := by decide +kernel
theorem dX8_parse_5 : decode cX8_parse 5 = .ok (.aload_n 0, 1) := by decide +kernel
theorem dX8_parse_6 : decode cX8_parse 6 = .ok (.iconst 0, 1) := by decide +kernel
theorem dX8_parse_7 : decode cX8_parse 7 = .ok (.putfield 26, 3) := by decide +kernel
theorem dX8_parse_10 : decode cX8_parse 10 = .ok (.aload_n 0, 1) := by decide +kernel
theorem dX8_parse_11 : decode cX8_parse 11 = .ok (.getfield 18, 3) := by decide +kernel
theorem dX8_parse_14 : decode cX8_parse 14 = .ok (.invokevirtual 29, 3) := by decide +kernel
theorem dX8_parse_17 : decode cX8_parse 17 = .ok (.iconst 0, 1) := by decide +kernel
theorem dX8_parse_18 : decode cX8_parse 18 = .ok (.istore_n 2, 1) := by decide +kernel
theorem dX8_parse_19 : decode cX8_parse 19 = .ok (.iload_n 2, 1) := by decide +kernel
theorem dX8_parse_20 : decode cX8_parse 20 = .ok (.bipush 8, 2) := by decide +kernel
theorem dX8_parse_22 : decode cX8_parse 22 = .ok (.if_icmp .ge 25, 3) := by decide +kernel
theorem dX8_parse_25 : decode cX8_parse 25 = .ok (.aload_n 0, 1) := by decide +kernel
theorem dX8_parse_26 : decode cX8_parse 26 = .ok (.invokevirtual 32, 3) := by decide +kernel
theorem dX8_parse_29 : decode cX8_parse 29 = .ok (.ifCond .eq 18, 3) := by decide +kernel
theorem dX8_parse_32 : decode cX8_parse 32 = .ok (.aload_n 0, 1) := by decide +kernel
theorem dX8_parse_33 : decode cX8_parse 33 = .ok (.invokevirtual 36, 3) := by decide +kernel
theorem dX8_parse_36 : decode cX8_parse 36 = .ok (.ifCond .ne 5, 3) := by decide +kernel
theorem dX8_parse_39 : decode cX8_parse 39 = .ok (.iconst 0, 1) := by decide +kernel
theorem dX8_parse_40 : decode cX8_parse 40 = .ok (.ireturn, 1) := by decide +kernel
theorem dX8_parse_41 : decode cX8_parse 41 = .ok (.iinc 2 1, 3) := by decide +kernel
theorem dX8_parse_44 : decode cX8_parse 44 = .ok (.goto (-25), 3) := by decide +kernel
theorem dX8_parse_47 : decode cX8_parse 47 = .ok (.aload_n 0, 1) := by decide +kernel
theorem dX8_parse_48 : decode cX8_parse 48 = .ok (.invokevirtual 39, 3) := by decide +kernel
theorem dX8_parse_51 : decode cX8_parse 51 = .ok (.ifCond .eq 18, 3) := by decide +kernel
theorem dX8_parse_54 : decode cX8_parse 54 = .ok (.aload_n 0, 1) := by decide +kernel
theorem dX8_parse_55 : decode cX8_parse 55 = .ok (.getfield 26, 3) := by decide +kernel
theorem dX8_parse_58 : decode cX8_parse 58 = .ok (.aload_n 0, 1) := by decide +kernel
theorem dX8_parse_59 : decode cX8_parse 59 = .ok (.getfield 42, 3) := by decide +kernel
theorem dX8_parse_62 : decode cX8_parse 62 = .ok (.if_icmp .ne 7, 3) := by decide +kernel
theorem dX8_parse_65 : decode cX8_parse 65 = .ok (.iconst 1, 1) := by decide +kernel
theorem dX8_parse_66 : decode cX8_parse 66 = .ok (.goto 4, 3) := by decide +kernel
theorem dX8_parse_69 : decode cX8_parse 69 = .ok (.iconst 0, 1) := by decide +kernel
theorem dX8_parse_70 : decode cX8_parse 70 = .ok (.ireturn, 1) := by decide +kernel
theorem dX9_read_0 : decode cX9_read 0 = .ok (.aload_n 0, 1) := by decide +kernel
theorem dX9_read_1 : decode cX9_read 1 = .ok (.iload_n 1, 1) := by decide +kernel
theorem dX9_read_2 : decode cX9_read 2 = .ok (.invokevirtual 94, 3) := by decide +kernel
theorem dX9_read_5 : decode cX9_read 5 = .ok (.aload_n 0, 1) := by decide +kernel
theorem dX9_read_6 : decode cX9_read 6 = .ok (.getfield 62, 3) := by decide +kernel
theorem dX9_read_9 : decode cX9_read 9 = .ok (.aload_n 0, 1) := by decide +kernel
theorem dX9_read_10 : decode cX9_read 10 = .ok (.getfield 25, 3) := by decide +kernel
theorem dX9_read_13 : decode cX9_read 13 = .ok (.getfield 83, 3) := by decide +kernel
theorem dX9_read_16 : decode cX9_read 16 = .ok (.invokevirtual 300, 3) := by decide +kernel
theorem dX9_read_19 : decode cX9_read 19 = .ok (.istore_n 2, 1) := by decide +kernel
theorem dX9_read_20 : decode cX9_read 20 = .ok (.aload_n 0, 1) := by decide +kernel
theorem dX9_read_21 : decode cX9_read 21 = .ok (.getfield 62, 3) := by decide +kernel
theorem dX9_read_24 : decode cX9_read 24 = .ok (.iconst 0, 1) := by decide +kernel
theorem dX9_read_25 : decode cX9_read 25 = .ok (.putfield 291, 3) := by decide +kernel
theorem dX9_read_28 : decode cX9_read 28 = .ok (.iload_n 2, 1) := by decide +kernel
theorem dX9_read_29 : decode cX9_read 29 = .ok (.ifCond .ne 14, 3) := by decide +kernel
theorem dX9_read_32 : decode cX9_read 32 = .ok (.bipush (-100), 2) := by decide +kernel
theorem dX9_read_34 : decode cX9_read 34 = .ok (.aload_n 0, 1) := by decide +kernel
theorem dX9_read_35 : decode cX9_read 35 = .ok (.getfield 62, 3) := by decide +kernel
theorem dX9_read_38 : decode cX9_read 38 = .ok (.getfield 303, 3) := by decide +kernel
theorem dX9_read_41 : decode cX9_read 41 = .ok (.isub, 1) := by decide +kernel
theorem dX9_read_42 : decode cX9_read 42 = .ok (.ireturn, 1) := by decide +kernel
theorem dX9_read_43 : decode cX9_read 43 = .ok (.aload_n 0, 1) := by decide +kernel
theorem dX9_read_44 : decode cX9_read 44 = .ok (.getfield 25, 3) := by decide +kernel
theorem dX9_read_47 : decode cX9_read 47 = .ok (.getfield 103, 3) := by decide +kernel
theorem dX9_read_50 : decode cX9_read 50 = .ok (.iload_n 1, 1) := by decide +kernel
theorem dX9_read_51 : decode cX9_read 51 = .ok (.aaload, 1) := by decide +kernel
theorem dX9_read_52 : decode cX9_read 52 = .ok (.aload_n 0, 1) := by decide +kernel
theorem dX9_read_53 : decode cX9_read 53 = .ok (.getfield 62, 3) := by decide +kernel
theorem dX9_read_56 : decode cX9_read 56 = .ok (.getfield 306, 3) := by decide +kernel
theorem dX9_read_59 : decode cX9_read 59 = .ok (.invokevirtual 310, 3) := by decide +kernel
theorem dX9_read_62 : decode cX9_read 62 = .ok (.aload_n 0, 1) := by decide +kernel
theorem dX9_read_63 : decode cX9_read 63 = .ok (.invokevirtual 91, 3) := by decide +kernel
theorem dX9_read_66 : decode cX9_read 66 = .ok (.aload_n 0, 1) := by decide +kernel
theorem dX9_read_67 : decode cX9_read 67 = .ok (.getfield 62, 3) := by decide +kernel
theorem dX9_read_70 : decode cX9_read 70 = .ok (.getfield 306, 3) := by decide +kernel
theorem dX9_read_73 : decode cX9_read 73 = .ok (.getfield 107, 3) := by decide +kernel
theorem dX9_read_76 : decode cX9_read 76 = .ok (.ireturn, 1) := by decide +kernel
theorem fo_RX8_18_7 : fok 7 5 1 RX8 18 (.object "SpillPlanner$Block") true := ⟨RX8, TX8, "SpillPlanner$Reader", tyX8, rfl, by decide, inGX8, w2_115, Or.inl rfl, tyX8_ok, nmX8, rfl, by decide +kernel⟩
theorem fo_RX8_22_7 : fok 7 5 4 RX8 22 .int false := ⟨RX8, TX8, "SpillPlanner$Reader", tyX8, rfl, by decide, inGX8, w2_121, Or.inl rfl, tyX8_ok, nmX8, rfl, by decide +kernel⟩
theorem fo_RX8_26_7 : fok 7 5 3 RX8 26 .int false := ⟨RX8, TX8, "SpillPlanner$Reader", tyX8, rfl, by decide, inGX8, w2_119, Or.inl rfl, tyX8_ok, nmX8, rfl, by decide +kernel⟩
theorem fo_RX8_42_7 : fok 7 5 2 RX8 42 .int false := ⟨RX8, TX8, "SpillPlanner$Reader", tyX8, rfl, by decide, inGX8, w2_117, Or.inl rfl, tyX8_ok, nmX8, rfl, by decide +kernel⟩
theorem fo_RX8_9_7 : fok 7 5 0 RX8 9 (.array .char) true := ⟨RX8, TX8, "SpillPlanner$Reader", tyX8, rfl, by decide, inGX8, w2_113, Or.inl rfl, tyX8_ok, nmX8, rfl, by decide +kernel⟩
theorem fo_RX9_303_7 : fok 7 5 3 RX9 303 .int false := ⟨RX8, TX8, "SpillPlanner$Reader", tyX8, rfl, by decide, inGX8, w2_120, Or.inl rfl, tyX8_ok, nmX8, rfl, by decide +kernel⟩
theorem fo_RX9_306_7 : fok 7 5 1 RX9 306 (.object "SpillPlanner$Block") true := ⟨RX8, TX8, "SpillPlanner$Reader", tyX8, rfl, by decide, inGX8, w2_116, Or.inl rfl, tyX8_ok, nmX8, rfl, by decide +kernel⟩
theorem ms_RX8_57 : mS RX8 57 yX8_isDigit cX8_isDigit 1 (some .boolean) 1 := ⟨w5_237, w1_10, Or.inl w5_235, w5_236, by decide +kernel, by decide +kernel, by decide +kernel⟩
theorem mv_RX8_29_0 : mV RX8 29 0 yX0_begin cX0_begin 1 none 0 := ⟨RX0, TX0, 10, rfl, w1_54, w1_3, w1_52, Or.inl ⟨rfl, w5_214, w1_53, by decide +kernel, by decide +kernel, by decide +kernel⟩⟩
theorem mv_RX8_32_7 : mV RX8 32 7 yX8_startsInstruction cX8_startsInstruction 4 (some .boolean) 0 := ⟨RX8, TX8, 5, rfl, w5_218, w1_10, w5_217, Or.inl ⟨rfl, w5_215, wp_38, by decide +kernel, by decide +kernel, by decide +kernel⟩⟩
theorem mv_RX8_36_7 : mV RX8 36 7 yX8_parseInstruction cX8_parseInstruction 3 (some .boolean) 0 := ⟨RX8, TX8, 5, rfl, w5_226, w1_10, w5_225, Or.inl ⟨rfl, w5_223, wp_40, by decide +kernel, by decide +kernel, by decide +kernel⟩⟩
theorem mv_RX8_39_7 : mV RX8 39 7 yX8_parseEnding cX8_parseEnding 1 (some .boolean) 0 := ⟨RX8, TX8, 5, rfl, w6_14, w1_10, w6_13, Or.inl ⟨rfl, w6_11, wp_46, by decide +kernel, by decide +kernel, by decide +kernel⟩⟩
theorem mv_RX8_45_7 : mV RX8 45 7 yX8_signAt cX8_signAt 2 (some .char) 1 := ⟨RX8, TX8, 5, rfl, w5_222, w1_10, w5_221, Or.inl ⟨rfl, w5_219, wp_39, by decide +kernel, by decide +kernel, by decide +kernel⟩⟩
theorem mv_RX8_49_7 : mV RX8 49 7 yX8_takeVariable cX8_takeVariable 2 (some .int) 0 := ⟨RX8, TX8, 5, rfl, w5_230, w1_10, w5_229, Or.inl ⟨rfl, w5_227, wp_41, by decide +kernel, by decide +kernel, by decide +kernel⟩⟩
theorem mv_RX8_53_7 : mV RX8 53 7 yX8_take cX8_take 2 (some .boolean) 1 := ⟨RX8, TX8, 5, rfl, w5_234, w1_10, w5_233, Or.inl ⟨rfl, w5_231, wp_42, by decide +kernel, by decide +kernel, by decide +kernel⟩⟩
theorem mv_RX8_60_7 : mV RX8 60 7 yX8_parseConstant cX8_parseConstant 5 (some .boolean) 1 := ⟨RX8, TX8, 5, rfl, w6_1, w1_10, w6_0, Or.inl ⟨rfl, w5_238, wp_43, by decide +kernel, by decide +kernel, by decide +kernel⟩⟩
theorem mv_RX8_64_7 : mV RX8 64 7 yX8_parseVariables cX8_parseVariables 5 (some .boolean) 1 := ⟨RX8, TX8, 5, rfl, w6_6, w1_10, w6_5, Or.inl ⟨rfl, w6_3, wp_44, by decide +kernel, by decide +kernel, by decide +kernel⟩⟩
theorem mv_RX8_67_0 : mV RX8 67 0 yX0_add cX0_add 5 none 4 := ⟨RX0, TX0, 10, rfl, w4_5, w1_3, w4_3, Or.inl ⟨rfl, w6_2, w4_4, by decide +kernel, by decide +kernel, by decide +kernel⟩⟩
theorem mv_RX8_71_7 : mV RX8 71 7 yX8_takeOperator cX8_takeOperator 1 (some .int) 0 := ⟨RX8, TX8, 5, rfl, w6_10, w1_10, w6_9, Or.inl ⟨rfl, w6_7, wp_45, by decide +kernel, by decide +kernel, by decide +kernel⟩⟩
theorem mv_RX8_76_7 : mV RX8 76 7 yX8_takeWord cX8_takeWord 3 (some .boolean) 1 := ⟨RX8, TX8, 5, rfl, w6_19, w1_10, w6_18, Or.inl ⟨rfl, w6_16, wp_47, by decide +kernel, by decide +kernel, by decide +kernel⟩⟩
theorem mv_RX8_80_7 : mV RX8 80 7 yX8_takeBlock cX8_takeBlock 2 (some .int) 0 := ⟨RX8, TX8, 5, rfl, w6_71, w1_10, w6_70, Or.inl ⟨rfl, w6_68, wp_48, by decide +kernel, by decide +kernel, by decide +kernel⟩⟩
theorem mv_RX8_83_7 : mV RX8 83 7 yX8_finishDraft cX8_finishDraft 8 (some .boolean) 4 := ⟨RX8, TX8, 5, rfl, w6_75, w1_10, w6_74, Or.inl ⟨rfl, w6_72, wp_49, by decide +kernel, by decide +kernel, by decide +kernel⟩⟩
theorem mv_RX8_89_7 : mV RX8 89 7 yX8_parseBranch cX8_parseBranch 3 (some .boolean) 0 := ⟨RX8, TX8, 5, rfl, w6_81, w1_10, w6_80, Or.inl ⟨rfl, w6_78, wp_50, by decide +kernel, by decide +kernel, by decide +kernel⟩⟩
theorem mv_RX8_94_0 : mV RX8 94 0 yX0_finish cX0_finish 5 none 4 := ⟨RX0, TX0, 10, rfl, w1_58, w1_3, w1_56, Or.inl ⟨rfl, w6_76, w1_57, by decide +kernel, by decide +kernel, by decide +kernel⟩⟩
theorem mv_RX9_300_7 : mV RX9 300 7 yX8_parse cX8_parse 3 (some .boolean) 1 := ⟨RX8, TX8, 5, rfl, w5_213, w1_10, w5_211, Or.inl ⟨rfl, w5_210, w5_212, by decide +kernel, by decide +kernel, by decide +kernel⟩⟩
theorem mv_RX9_310_0 : mV RX9 310 0 yX0_copyCode cX0_copyCode 2 none 1 := ⟨RX0, TX0, 10, rfl, w3_79, w1_3, w3_77, Or.inl ⟨rfl, w6_83, w3_78, by decide +kernel, by decide +kernel, by decide +kernel⟩⟩
