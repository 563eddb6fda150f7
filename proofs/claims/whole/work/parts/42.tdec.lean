theorem dX9_clear_0 : decode cX9_clear 0 = .ok (.iload_n 1, 1) := by decide +kernel
theorem dX9_clear_1 : decode cX9_clear 1 = .ok (.iconst 1, 1) := by decide +kernel
theorem dX9_clear_2 : decode cX9_clear 2 = .ok (.if_icmp .lt 9, 3) := by decide +kernel
theorem dX9_clear_5 : decode cX9_clear 5 = .ok (.iload_n 1, 1) := by decide +kernel
theorem dX9_clear_6 : decode cX9_clear 6 = .ok (.bipush 8, 2) := by decide +kernel
theorem dX9_clear_8 : decode cX9_clear 8 = .ok (.if_icmp .le 13, 3) := by decide +kernel
theorem dX9_clear_11 : decode cX9_clear 11 = .ok (.new 76, 3) := by decide +kernel
theorem dX9_clear_14 : decode cX9_clear 14 = .ok (.dup, 1) := by decide +kernel
theorem dX9_clear_15 : decode cX9_clear 15 = .ok (.ldc 78, 2) := by decide +kernel
theorem dX9_clear_17 : decode cX9_clear 17 = .ok (.invokespecial 80, 3) := by decide +kernel
theorem dX9_clear_20 : decode cX9_clear 20 = .ok (.athrow, 1) := by decide +kernel
theorem dX9_clear_21 : decode cX9_clear 21 = .ok (.aload_n 0, 1) := by decide +kernel
theorem dX9_clear_22 : decode cX9_clear 22 = .ok (.getfield 25, 3) := by decide +kernel
theorem dX9_clear_25 : decode cX9_clear 25 = .ok (.getfield 83, 3) := by decide +kernel
theorem dX9_clear_28 : decode cX9_clear 28 = .ok (.istore_n 2, 1) := by decide +kernel
theorem dX9_clear_29 : decode cX9_clear 29 = .ok (.aload_n 0, 1) := by decide +kernel
theorem dX9_clear_30 : decode cX9_clear 30 = .ok (.getfield 25, 3) := by decide +kernel
theorem dX9_clear_33 : decode cX9_clear 33 = .ok (.iload_n 1, 1) := by decide +kernel
theorem dX9_clear_34 : decode cX9_clear 34 = .ok (.invokevirtual 87, 3) := by decide +kernel
theorem dX9_clear_37 : decode cX9_clear 37 = .ok (.aload_n 0, 1) := by decide +kernel
theorem dX9_clear_38 : decode cX9_clear 38 = .ok (.invokevirtual 91, 3) := by decide +kernel
theorem dX9_clear_41 : decode cX9_clear 41 = .ok (.iload_n 2, 1) := by decide +kernel
theorem dX9_clear_42 : decode cX9_clear 42 = .ok (.ireturn, 1) := by decide +kernel
theorem dX9_requireBlock_0 : decode cX9_requireBlock 0 = .ok (.iload_n 1, 1) := by decide +kernel
theorem dX9_requireBlock_1 : decode cX9_requireBlock 1 = .ok (.ifCond .lt 14, 3) := by decide +kernel
theorem dX9_requireBlock_4 : decode cX9_requireBlock 4 = .ok (.iload_n 1, 1) := by decide +kernel
theorem dX9_requireBlock_5 : decode cX9_requireBlock 5 = .ok (.aload_n 0, 1) := by decide +kernel
theorem dX9_requireBlock_6 : decode cX9_requireBlock 6 = .ok (.getfield 25, 3) := by decide +kernel
theorem dX9_requireBlock_9 : decode cX9_requireBlock 9 = .ok (.getfield 83, 3) := by decide +kernel
theorem dX9_requireBlock_12 : decode cX9_requireBlock 12 = .ok (.if_icmp .lt 14, 3) := by decide +kernel
theorem dX9_requireBlock_15 : decode cX9_requireBlock 15 = .ok (.new 146, 3) := by decide +kernel
theorem dX9_requireBlock_18 : decode cX9_requireBlock 18 = .ok (.dup, 1) := by decide +kernel
theorem dX9_requireBlock_19 : decode cX9_requireBlock 19 = .ok (.ldc_w 363, 3) := by decide +kernel
theorem dX9_requireBlock_22 : decode cX9_requireBlock 22 = .ok (.invokespecial 148, 3) := by decide +kernel
theorem dX9_requireBlock_25 : decode cX9_requireBlock 25 = .ok (.athrow, 1) := by decide +kernel
theorem dX9_requireBlock_26 : decode cX9_requireBlock 26 = .ok (.return_, 1) := by decide +kernel
theorem dX9_append_0 : decode cX9_append 0 = .ok (.aload_n 0, 1) := by decide +kernel
theorem dX9_append_1 : decode cX9_append 1 = .ok (.iload_n 1, 1) := by decide +kernel
theorem dX9_append_2 : decode cX9_append 2 = .ok (.invokevirtual 94, 3) := by decide +kernel
theorem dX9_append_5 : decode cX9_append 5 = .ok (.iload_n 2, 1) := by decide +kernel
theorem dX9_append_6 : decode cX9_append 6 = .ok (.iload_n 3, 1) := by decide +kernel
theorem dX9_append_7 : decode cX9_append 7 = .ok (.iload 4, 2) := by decide +kernel
theorem dX9_append_9 : decode cX9_append 9 = .ok (.iload 5, 2) := by decide +kernel
theorem dX9_append_11 : decode cX9_append 11 = .ok (.invokestatic 97, 3) := by decide +kernel
theorem dX9_append_14 : decode cX9_append 14 = .ok (.ifCond .ne 13, 3) := by decide +kernel
theorem dX9_append_17 : decode cX9_append 17 = .ok (.new 76, 3) := by decide +kernel
theorem dX9_append_20 : decode cX9_append 20 = .ok (.dup, 1) := by decide +kernel
theorem dX9_append_21 : decode cX9_append 21 = .ok (.ldc 101, 2) := by decide +kernel
theorem dX9_append_23 : decode cX9_append 23 = .ok (.invokespecial 80, 3) := by decide +kernel
theorem dX9_append_26 : decode cX9_append 26 = .ok (.athrow, 1) := by decide +kernel
theorem dX9_append_27 : decode cX9_append 27 = .ok (.aload_n 0, 1) := by decide +kernel
theorem dX9_append_28 : decode cX9_append 28 = .ok (.getfield 25, 3) := by decide +kernel
theorem dX9_append_31 : decode cX9_append 31 = .ok (.getfield 103, 3) := by decide +kernel
theorem dX9_append_34 : decode cX9_append 34 = .ok (.iload_n 1, 1) := by decide +kernel
theorem dX9_append_35 : decode cX9_append 35 = .ok (.aaload, 1) := by decide +kernel
theorem dX9_append_36 : decode cX9_append 36 = .ok (.astore 6, 2) := by decide +kernel
theorem dX9_append_38 : decode cX9_append 38 = .ok (.aload 6, 2) := by decide +kernel
theorem dX9_append_40 : decode cX9_append 40 = .ok (.getfield 107, 3) := by decide +kernel
theorem dX9_append_43 : decode cX9_append 43 = .ok (.bipush 8, 2) := by decide +kernel
theorem dX9_append_45 : decode cX9_append 45 = .ok (.if_icmp .lt 13, 3) := by decide +kernel
theorem dX9_append_48 : decode cX9_append 48 = .ok (.new 110, 3) := by decide +kernel
theorem dX9_append_51 : decode cX9_append 51 = .ok (.dup, 1) := by decide +kernel
theorem dX9_append_52 : decode cX9_append 52 = .ok (.ldc 112, 2) := by decide +kernel
theorem dX9_append_54 : decode cX9_append 54 = .ok (.invokespecial 114, 3) := by decide +kernel
theorem dX9_append_57 : decode cX9_append 57 = .ok (.athrow, 1) := by decide +kernel
theorem dX9_append_58 : decode cX9_append 58 = .ok (.aload 6, 2) := by decide +kernel
theorem dX9_append_60 : decode cX9_append 60 = .ok (.iload_n 2, 1) := by decide +kernel
theorem dX9_append_61 : decode cX9_append 61 = .ok (.iload_n 3, 1) := by decide +kernel
theorem dX9_append_62 : decode cX9_append 62 = .ok (.iload 4, 2) := by decide +kernel
theorem dX9_append_64 : decode cX9_append 64 = .ok (.iload 5, 2) := by decide +kernel
theorem dX9_append_66 : decode cX9_append 66 = .ok (.invokevirtual 115, 3) := by decide +kernel
theorem dX9_append_69 : decode cX9_append 69 = .ok (.aload_n 0, 1) := by decide +kernel
theorem dX9_append_70 : decode cX9_append 70 = .ok (.invokevirtual 91, 3) := by decide +kernel
theorem dX9_append_73 : decode cX9_append 73 = .ok (.aload 6, 2) := by decide +kernel
theorem dX9_append_75 : decode cX9_append 75 = .ok (.getfield 107, 3) := by decide +kernel
theorem dX9_append_78 : decode cX9_append 78 = .ok (.ireturn, 1) := by decide +kernel
theorem dX9_removeLast_0 : decode cX9_removeLast 0 = .ok (.aload_n 0, 1) := by decide +kernel
theorem dX9_removeLast_1 : decode cX9_removeLast 1 = .ok (.iload_n 1, 1) := by decide +kernel
theorem dX9_removeLast_2 : decode cX9_removeLast 2 = .ok (.invokevirtual 94, 3) := by decide +kernel
theorem dX9_removeLast_5 : decode cX9_removeLast 5 = .ok (.aload_n 0, 1) := by decide +kernel
theorem dX9_removeLast_6 : decode cX9_removeLast 6 = .ok (.getfield 25, 3) := by decide +kernel
theorem dX9_removeLast_9 : decode cX9_removeLast 9 = .ok (.getfield 103, 3) := by decide +kernel
theorem dX9_removeLast_12 : decode cX9_removeLast 12 = .ok (.iload_n 1, 1) := by decide +kernel
theorem dX9_removeLast_13 : decode cX9_removeLast 13 = .ok (.aaload, 1) := by decide +kernel
theorem dX9_removeLast_14 : decode cX9_removeLast 14 = .ok (.astore_n 2, 1) := by decide +kernel
theorem dX9_removeLast_15 : decode cX9_removeLast 15 = .ok (.aload_n 2, 1) := by decide +kernel
theorem dX9_removeLast_16 : decode cX9_removeLast 16 = .ok (.getfield 107, 3) := by decide +kernel
theorem dX9_removeLast_19 : decode cX9_removeLast 19 = .ok (.ifCond .ne 13, 3) := by decide +kernel
theorem dX9_removeLast_22 : decode cX9_removeLast 22 = .ok (.new 119, 3) := by decide +kernel
theorem dX9_removeLast_25 : decode cX9_removeLast 25 = .ok (.dup, 1) := by decide +kernel
theorem dX9_removeLast_26 : decode cX9_removeLast 26 = .ok (.ldc 121, 2) := by decide +kernel
theorem dX9_removeLast_28 : decode cX9_removeLast 28 = .ok (.invokespecial 123, 3) := by decide +kernel
theorem dX9_removeLast_31 : decode cX9_removeLast 31 = .ok (.athrow, 1) := by decide +kernel
theorem dX9_removeLast_32 : decode cX9_removeLast 32 = .ok (.aload_n 2, 1) := by decide +kernel
theorem dX9_removeLast_33 : decode cX9_removeLast 33 = .ok (.dup, 1) := by decide +kernel
theorem dX9_removeLast_34 : decode cX9_removeLast 34 = .ok (.getfield 107, 3) := by decide +kernel
theorem dX9_removeLast_37 : decode cX9_removeLast 37 = .ok (.iconst 1, 1) := by decide +kernel
theorem dX9_removeLast_38 : decode cX9_removeLast 38 = .ok (.isub, 1) := by decide +kernel
theorem dX9_removeLast_39 : decode cX9_removeLast 39 = .ok (.putfield 107, 3) := by decide +kernel
theorem dX9_removeLast_42 : decode cX9_removeLast 42 = .ok (.aload_n 0, 1) := by decide +kernel
theorem dX9_removeLast_43 : decode cX9_removeLast 43 = .ok (.invokevirtual 91, 3) := by decide +kernel
theorem dX9_removeLast_46 : decode cX9_removeLast 46 = .ok (.aload_n 2, 1) := by decide +kernel
theorem dX9_removeLast_47 : decode cX9_removeLast 47 = .ok (.getfield 124, 3) := by decide +kernel
theorem dX9_removeLast_50 : decode cX9_removeLast 50 = .ok (.aload_n 2, 1) := by decide +kernel
theorem dX9_removeLast_51 : decode cX9_removeLast 51 = .ok (.getfield 107, 3) := by decide +kernel
theorem dX9_removeLast_54 : decode cX9_removeLast 54 = .ok (.iaload, 1) := by decide +kernel
theorem dX9_removeLast_55 : decode cX9_removeLast 55 = .ok (.ireturn, 1) := by decide +kernel
theorem dX9_requireVariable_0 : decode cX9_requireVariable 0 = .ok (.iload_n 1, 1) := by decide +kernel
theorem dX9_requireVariable_1 : decode cX9_requireVariable 1 = .ok (.invokestatic 365, 3) := by decide +kernel
theorem dX9_requireVariable_4 : decode cX9_requireVariable 4 = .ok (.ifCond .ne 14, 3) := by decide +kernel
theorem dX9_requireVariable_7 : decode cX9_requireVariable 7 = .ok (.new 76, 3) := by decide +kernel
theorem dX9_requireVariable_10 : decode cX9_requireVariable 10 = .ok (.dup, 1) := by decide +kernel
theorem dX9_requireVariable_11 : decode cX9_requireVariable 11 = .ok (.ldc_w 368, 3) := by decide +kernel
theorem dX9_requireVariable_14 : decode cX9_requireVariable 14 = .ok (.invokespecial 80, 3) := by decide +kernel
theorem dX9_requireVariable_17 : decode cX9_requireVariable 17 = .ok (.athrow, 1) := by decide +kernel
theorem dX9_requireVariable_18 : decode cX9_requireVariable 18 = .ok (.return_, 1) := by decide +kernel
theorem dX9_setEnd_0 : decode cX9_setEnd 0 = .ok (.aload_n 0, 1) := by decide +kernel
theorem dX9_setEnd_1 : decode cX9_setEnd 1 = .ok (.iload_n 1, 1) := by decide +kernel
theorem dX9_setEnd_2 : decode cX9_setEnd 2 = .ok (.invokevirtual 94, 3) := by decide +kernel
theorem dX9_setEnd_5 : decode cX9_setEnd 5 = .ok (.iload_n 2, 1) := by decide +kernel
theorem dX9_setEnd_6 : decode cX9_setEnd 6 = .ok (.ifCond .eq 8, 3) := by decide +kernel
theorem dX9_setEnd_9 : decode cX9_setEnd 9 = .ok (.iload_n 2, 1) := by decide +kernel
theorem dX9_setEnd_10 : decode cX9_setEnd 10 = .ok (.iconst 1, 1) := by decide +kernel
theorem dX9_setEnd_11 : decode cX9_setEnd 11 = .ok (.if_icmp .ne 9, 3) := by decide +kernel
theorem dX9_setEnd_14 : decode cX9_setEnd 14 = .ok (.aload_n 0, 1) := by decide +kernel
theorem dX9_setEnd_15 : decode cX9_setEnd 15 = .ok (.iload 4, 2) := by decide +kernel
theorem dX9_setEnd_17 : decode cX9_setEnd 17 = .ok (.invokevirtual 94, 3) := by decide +kernel
theorem dX9_setEnd_20 : decode cX9_setEnd 20 = .ok (.iload_n 2, 1) := by decide +kernel
theorem dX9_setEnd_21 : decode cX9_setEnd 21 = .ok (.iconst 1, 1) := by decide +kernel
theorem dX9_setEnd_22 : decode cX9_setEnd 22 = .ok (.if_icmp .ne 9, 3) := by decide +kernel
theorem dX9_setEnd_25 : decode cX9_setEnd 25 = .ok (.aload_n 0, 1) := by decide +kernel
theorem dX9_setEnd_26 : decode cX9_setEnd 26 = .ok (.iload 5, 2) := by decide +kernel
theorem dX9_setEnd_28 : decode cX9_setEnd 28 = .ok (.invokevirtual 94, 3) := by decide +kernel
theorem dX9_setEnd_31 : decode cX9_setEnd 31 = .ok (.iload_n 2, 1) := by decide +kernel
theorem dX9_setEnd_32 : decode cX9_setEnd 32 = .ok (.ifCond .lt 8, 3) := by decide +kernel
theorem dX9_setEnd_35 : decode cX9_setEnd 35 = .ok (.iload_n 2, 1) := by decide +kernel
theorem dX9_setEnd_36 : decode cX9_setEnd 36 = .ok (.iconst 2, 1) := by decide +kernel
theorem dX9_setEnd_37 : decode cX9_setEnd 37 = .ok (.if_icmp .le 13, 3) := by decide +kernel
theorem dX9_setEnd_40 : decode cX9_setEnd 40 = .ok (.new 76, 3) := by decide +kernel
theorem dX9_setEnd_43 : decode cX9_setEnd 43 = .ok (.dup, 1) := by decide +kernel
theorem dX9_setEnd_44 : decode cX9_setEnd 44 = .ok (.ldc 127, 2) := by decide +kernel
theorem dX9_setEnd_46 : decode cX9_setEnd 46 = .ok (.invokespecial 80, 3) := by decide +kernel
theorem dX9_setEnd_49 : decode cX9_setEnd 49 = .ok (.athrow, 1) := by decide +kernel
theorem dX9_setEnd_50 : decode cX9_setEnd 50 = .ok (.iload_n 2, 1) := by decide +kernel
theorem dX9_setEnd_51 : decode cX9_setEnd 51 = .ok (.ifCond .eq 8, 3) := by decide +kernel
theorem dX9_setEnd_54 : decode cX9_setEnd 54 = .ok (.aload_n 0, 1) := by decide +kernel
theorem dX9_setEnd_55 : decode cX9_setEnd 55 = .ok (.iload_n 3, 1) := by decide +kernel
theorem dX9_setEnd_56 : decode cX9_setEnd 56 = .ok (.invokevirtual 129, 3) := by decide +kernel
theorem dX9_setEnd_59 : decode cX9_setEnd 59 = .ok (.aload_n 0, 1) := by decide +kernel
theorem dX9_setEnd_60 : decode cX9_setEnd 60 = .ok (.getfield 25, 3) := by decide +kernel
theorem dX9_setEnd_63 : decode cX9_setEnd 63 = .ok (.getfield 103, 3) := by decide +kernel
theorem dX9_setEnd_66 : decode cX9_setEnd 66 = .ok (.iload_n 1, 1) := by decide +kernel
theorem dX9_setEnd_67 : decode cX9_setEnd 67 = .ok (.aaload, 1) := by decide +kernel
theorem dX9_setEnd_68 : decode cX9_setEnd 68 = .ok (.astore 6, 2) := by decide +kernel
theorem dX9_setEnd_70 : decode cX9_setEnd 70 = .ok (.aload 6, 2) := by decide +kernel
theorem dX9_setEnd_72 : decode cX9_setEnd 72 = .ok (.getfield 132, 3) := by decide +kernel
theorem dX9_setEnd_75 : decode cX9_setEnd 75 = .ok (.istore 7, 2) := by decide +kernel
theorem dX9_setEnd_77 : decode cX9_setEnd 77 = .ok (.aload 6, 2) := by decide +kernel
theorem dX9_setEnd_79 : decode cX9_setEnd 79 = .ok (.iload_n 2, 1) := by decide +kernel
theorem dX9_setEnd_80 : decode cX9_setEnd 80 = .ok (.iload_n 3, 1) := by decide +kernel
theorem dX9_setEnd_81 : decode cX9_setEnd 81 = .ok (.iload 4, 2) := by decide +kernel
theorem dX9_setEnd_83 : decode cX9_setEnd 83 = .ok (.iload 5, 2) := by decide +kernel
theorem dX9_setEnd_85 : decode cX9_setEnd 85 = .ok (.invokevirtual 135, 3) := by decide +kernel
theorem dX9_setEnd_88 : decode cX9_setEnd 88 = .ok (.aload_n 0, 1) := by decide +kernel
theorem dX9_setEnd_89 : decode cX9_setEnd 89 = .ok (.invokevirtual 91, 3) := by decide +kernel
theorem dX9_setEnd_92 : decode cX9_setEnd 92 = .ok (.iload 7, 2) := by decide +kernel
theorem dX9_setEnd_94 : decode cX9_setEnd 94 = .ok (.ireturn, 1) := by decide +kernel
theorem dX9_setFrequency_0 : decode cX9_setFrequency 0 = .ok (.aload_n 0, 1) := by decide +kernel
theorem dX9_setFrequency_1 : decode cX9_setFrequency 1 = .ok (.iload_n 1, 1) := by decide +kernel
theorem dX9_setFrequency_2 : decode cX9_setFrequency 2 = .ok (.invokevirtual 94, 3) := by decide +kernel
theorem dX9_setFrequency_5 : decode cX9_setFrequency 5 = .ok (.iload_n 2, 1) := by decide +kernel
theorem dX9_setFrequency_6 : decode cX9_setFrequency 6 = .ok (.iconst 1, 1) := by decide +kernel
theorem dX9_setFrequency_7 : decode cX9_setFrequency 7 = .ok (.if_icmp .lt 10, 3) := by decide +kernel
theorem dX9_setFrequency_10 : decode cX9_setFrequency 10 = .ok (.iload_n 2, 1) := by decide +kernel
theorem dX9_setFrequency_11 : decode cX9_setFrequency 11 = .ok (.sipush 9999, 3) := by decide +kernel
theorem dX9_setFrequency_14 : decode cX9_setFrequency 14 = .ok (.if_icmp .le 13, 3) := by decide +kernel
theorem dX9_setFrequency_17 : decode cX9_setFrequency 17 = .ok (.new 76, 3) := by decide +kernel
theorem dX9_setFrequency_20 : decode cX9_setFrequency 20 = .ok (.dup, 1) := by decide +kernel
theorem dX9_setFrequency_21 : decode cX9_setFrequency 21 = .ok (.ldc 138, 2) := by decide +kernel
theorem dX9_setFrequency_23 : decode cX9_setFrequency 23 = .ok (.invokespecial 80, 3) := by decide +kernel
theorem dX9_setFrequency_26 : decode cX9_setFrequency 26 = .ok (.athrow, 1) := by decide +kernel
theorem dX9_setFrequency_27 : decode cX9_setFrequency 27 = .ok (.aload_n 0, 1) := by decide +kernel
theorem dX9_setFrequency_28 : decode cX9_setFrequency 28 = .ok (.getfield 25, 3) := by decide +kernel
theorem dX9_setFrequency_31 : decode cX9_setFrequency 31 = .ok (.getfield 103, 3) := by decide +kernel
theorem dX9_setFrequency_34 : decode cX9_setFrequency 34 = .ok (.iload_n 1, 1) := by decide +kernel
theorem dX9_setFrequency_35 : decode cX9_setFrequency 35 = .ok (.aaload, 1) := by decide +kernel
theorem dX9_setFrequency_36 : decode cX9_setFrequency 36 = .ok (.astore_n 3, 1) := by decide +kernel
theorem dX9_setFrequency_37 : decode cX9_setFrequency 37 = .ok (.aload_n 3, 1) := by decide +kernel
theorem dX9_setFrequency_38 : decode cX9_setFrequency 38 = .ok (.getfield 140, 3) := by decide +kernel
theorem dX9_setFrequency_41 : decode cX9_setFrequency 41 = .ok (.istore 4, 2) := by decide +kernel
theorem dX9_setFrequency_43 : decode cX9_setFrequency 43 = .ok (.aload_n 3, 1) := by decide +kernel
theorem dX9_setFrequency_44 : decode cX9_setFrequency 44 = .ok (.iload_n 2, 1) := by decide +kernel
theorem dX9_setFrequency_45 : decode cX9_setFrequency 45 = .ok (.putfield 140, 3) := by decide +kernel
theorem dX9_setFrequency_48 : decode cX9_setFrequency 48 = .ok (.aload_n 0, 1) := by decide +kernel
theorem dX9_setFrequency_49 : decode cX9_setFrequency 49 = .ok (.invokevirtual 91, 3) := by decide +kernel
theorem dX9_setFrequency_52 : decode cX9_setFrequency 52 = .ok (.iload 4, 2) := by decide +kernel
theorem dX9_setFrequency_54 : decode cX9_setFrequency 54 = .ok (.ireturn, 1) := by decide +kernel
theorem dX9_setInitial_0 : decode cX9_setInitial 0 = .ok (.aload_n 0, 1) := by decide +kernel
theorem dX9_setInitial_1 : decode cX9_setInitial 1 = .ok (.iload_n 1, 1) := by decide +kernel
theorem dX9_setInitial_2 : decode cX9_setInitial 2 = .ok (.invokevirtual 129, 3) := by decide +kernel
theorem dX9_setInitial_5 : decode cX9_setInitial 5 = .ok (.aload_n 0, 1) := by decide +kernel
theorem dX9_setInitial_6 : decode cX9_setInitial 6 = .ok (.getfield 25, 3) := by decide +kernel
theorem dX9_setInitial_9 : decode cX9_setInitial 9 = .ok (.getfield 143, 3) := by decide +kernel
theorem dX9_setInitial_12 : decode cX9_setInitial 12 = .ok (.iload_n 1, 1) := by decide +kernel
theorem dX9_setInitial_13 : decode cX9_setInitial 13 = .ok (.iaload, 1) := by decide +kernel
theorem dX9_setInitial_14 : decode cX9_setInitial 14 = .ok (.istore_n 3, 1) := by decide +kernel
theorem dX9_setInitial_15 : decode cX9_setInitial 15 = .ok (.aload_n 0, 1) := by decide +kernel
theorem dX9_setInitial_16 : decode cX9_setInitial 16 = .ok (.getfield 25, 3) := by decide +kernel
theorem dX9_setInitial_19 : decode cX9_setInitial 19 = .ok (.getfield 143, 3) := by decide +kernel
theorem dX9_setInitial_22 : decode cX9_setInitial 22 = .ok (.iload_n 1, 1) := by decide +kernel
theorem dX9_setInitial_23 : decode cX9_setInitial 23 = .ok (.iload_n 2, 1) := by decide +kernel
theorem dX9_setInitial_24 : decode cX9_setInitial 24 = .ok (.iastore, 1) := by decide +kernel
theorem dX9_setInitial_25 : decode cX9_setInitial 25 = .ok (.aload_n 0, 1) := by decide +kernel
theorem dX9_setInitial_26 : decode cX9_setInitial 26 = .ok (.invokevirtual 91, 3) := by decide +kernel
theorem dX9_setInitial_29 : decode cX9_setInitial 29 = .ok (.iload_n 3, 1) := by decide +kernel
theorem dX9_setInitial_30 : decode cX9_setInitial 30 = .ok (.ireturn, 1) := by decide +kernel
theorem dX9_instruction_0 : decode cX9_instruction 0 = .ok (.aload_n 0, 1) := by decide +kernel
theorem dX9_instruction_1 : decode cX9_instruction 1 = .ok (.iload_n 1, 1) := by decide +kernel
theorem dX9_instruction_2 : decode cX9_instruction 2 = .ok (.invokevirtual 94, 3) := by decide +kernel
theorem dX9_instruction_5 : decode cX9_instruction 5 = .ok (.aload_n 0, 1) := by decide +kernel
theorem dX9_instruction_6 : decode cX9_instruction 6 = .ok (.getfield 25, 3) := by decide +kernel
theorem dX9_instruction_9 : decode cX9_instruction 9 = .ok (.getfield 103, 3) := by decide +kernel
theorem dX9_instruction_12 : decode cX9_instruction 12 = .ok (.iload_n 1, 1) := by decide +kernel
theorem dX9_instruction_13 : decode cX9_instruction 13 = .ok (.aaload, 1) := by decide +kernel
theorem dX9_instruction_14 : decode cX9_instruction 14 = .ok (.astore 4, 2) := by decide +kernel
theorem dX9_instruction_16 : decode cX9_instruction 16 = .ok (.iload_n 2, 1) := by decide +kernel
theorem dX9_instruction_17 : decode cX9_instruction 17 = .ok (.ifCond .lt 12, 3) := by decide +kernel
theorem dX9_instruction_20 : decode cX9_instruction 20 = .ok (.iload_n 2, 1) := by decide +kernel
theorem dX9_instruction_21 : decode cX9_instruction 21 = .ok (.aload 4, 2) := by decide +kernel
theorem dX9_instruction_23 : decode cX9_instruction 23 = .ok (.getfield 107, 3) := by decide +kernel
theorem dX9_instruction_26 : decode cX9_instruction 26 = .ok (.if_icmp .lt 13, 3) := by decide +kernel
theorem dX9_instruction_29 : decode cX9_instruction 29 = .ok (.new 146, 3) := by decide +kernel
theorem dX9_instruction_32 : decode cX9_instruction 32 = .ok (.dup, 1) := by decide +kernel
theorem dX9_instruction_33 : decode cX9_instruction 33 = .ok (.ldc 101, 2) := by decide +kernel
theorem dX9_instruction_35 : decode cX9_instruction 35 = .ok (.invokespecial 148, 3) := by decide +kernel
theorem dX9_instruction_38 : decode cX9_instruction 38 = .ok (.athrow, 1) := by decide +kernel
theorem dX9_instruction_39 : decode cX9_instruction 39 = .ok (.iload_n 3, 1) := by decide +kernel
theorem dX9_instruction_40 : decode cX9_instruction 40 = .ok (.tableswitch 64 0 3 #[32, 40, 48, 56], 32) := by decide +kernel
theorem dX9_instruction_72 : decode cX9_instruction 72 = .ok (.aload 4, 2) := by decide +kernel
theorem dX9_instruction_74 : decode cX9_instruction 74 = .ok (.getfield 124, 3) := by decide +kernel
theorem dX9_instruction_77 : decode cX9_instruction 77 = .ok (.iload_n 2, 1) := by decide +kernel
theorem dX9_instruction_78 : decode cX9_instruction 78 = .ok (.iaload, 1) := by decide +kernel
theorem dX9_instruction_79 : decode cX9_instruction 79 = .ok (.ireturn, 1) := by decide +kernel
theorem dX9_instruction_80 : decode cX9_instruction 80 = .ok (.aload 4, 2) := by decide +kernel
theorem dX9_instruction_82 : decode cX9_instruction 82 = .ok (.getfield 149, 3) := by decide +kernel
theorem dX9_instruction_85 : decode cX9_instruction 85 = .ok (.iload_n 2, 1) := by decide +kernel
theorem dX9_instruction_86 : decode cX9_instruction 86 = .ok (.iaload, 1) := by decide +kernel
theorem dX9_instruction_87 : decode cX9_instruction 87 = .ok (.ireturn, 1) := by decide +kernel
theorem dX9_instruction_88 : decode cX9_instruction 88 = .ok (.aload 4, 2) := by decide +kernel
theorem dX9_instruction_90 : decode cX9_instruction 90 = .ok (.getfield 152, 3) := by decide +kernel
theorem dX9_instruction_93 : decode cX9_instruction 93 = .ok (.iload_n 2, 1) := by decide +kernel
theorem dX9_instruction_94 : decode cX9_instruction 94 = .ok (.iaload, 1) := by decide +kernel
theorem dX9_instruction_95 : decode cX9_instruction 95 = .ok (.ireturn, 1) := by decide +kernel
theorem dX9_instruction_96 : decode cX9_instruction 96 = .ok (.aload 4, 2) := by decide +kernel
theorem dX9_instruction_98 : decode cX9_instruction 98 = .ok (.getfield 155, 3) := by decide +kernel
theorem dX9_instruction_101 : decode cX9_instruction 101 = .ok (.iload_n 2, 1) := by decide +kernel
theorem dX9_instruction_102 : decode cX9_instruction 102 = .ok (.iaload, 1) := by decide +kernel
theorem dX9_instruction_103 : decode cX9_instruction 103 = .ok (.ireturn, 1) := by decide +kernel
theorem dX9_instruction_104 : decode cX9_instruction 104 = .ok (.new 76, 3) := by decide +kernel
theorem dX9_instruction_107 : decode cX9_instruction 107 = .ok (.dup, 1) := by decide +kernel
theorem dX9_instruction_108 : decode cX9_instruction 108 = .ok (.ldc 158, 2) := by decide +kernel
theorem dX9_instruction_110 : decode cX9_instruction 110 = .ok (.invokespecial 80, 3) := by decide +kernel
theorem dX9_instruction_113 : decode cX9_instruction 113 = .ok (.athrow, 1) := by decide +kernel
theorem dX9_block_0 : decode cX9_block 0 = .ok (.aload_n 0, 1) := by decide +kernel
theorem dX9_block_1 : decode cX9_block 1 = .ok (.iload_n 1, 1) := by decide +kernel
theorem dX9_block_2 : decode cX9_block 2 = .ok (.invokevirtual 94, 3) := by decide +kernel
theorem dX9_block_5 : decode cX9_block 5 = .ok (.aload_n 0, 1) := by decide +kernel
theorem dX9_block_6 : decode cX9_block 6 = .ok (.getfield 25, 3) := by decide +kernel
theorem dX9_block_9 : decode cX9_block 9 = .ok (.getfield 103, 3) := by decide +kernel
theorem dX9_block_12 : decode cX9_block 12 = .ok (.iload_n 1, 1) := by decide +kernel
theorem dX9_block_13 : decode cX9_block 13 = .ok (.aaload, 1) := by decide +kernel
theorem dX9_block_14 : decode cX9_block 14 = .ok (.astore_n 3, 1) := by decide +kernel
theorem dX9_block_15 : decode cX9_block 15 = .ok (.iload_n 2, 1) := by decide +kernel
theorem dX9_block_16 : decode cX9_block 16 = .ok (.tableswitch 70 0 5 #[40, 45, 50, 55, 60, 65], 40) := by decide +kernel
theorem dX9_block_56 : decode cX9_block 56 = .ok (.aload_n 3, 1) := by decide +kernel
theorem dX9_block_57 : decode cX9_block 57 = .ok (.getfield 107, 3) := by decide +kernel
theorem dX9_block_60 : decode cX9_block 60 = .ok (.ireturn, 1) := by decide +kernel
theorem dX9_block_61 : decode cX9_block 61 = .ok (.aload_n 3, 1) := by decide +kernel
theorem dX9_block_62 : decode cX9_block 62 = .ok (.getfield 132, 3) := by decide +kernel
theorem dX9_block_65 : decode cX9_block 65 = .ok (.ireturn, 1) := by decide +kernel
theorem dX9_block_66 : decode cX9_block 66 = .ok (.aload_n 3, 1) := by decide +kernel
theorem dX9_block_67 : decode cX9_block 67 = .ok (.getfield 160, 3) := by decide +kernel
theorem dX9_block_70 : decode cX9_block 70 = .ok (.ireturn, 1) := by decide +kernel
theorem dX9_block_71 : decode cX9_block 71 = .ok (.aload_n 3, 1) := by decide +kernel
theorem dX9_block_72 : decode cX9_block 72 = .ok (.getfield 163, 3) := by decide +kernel
theorem dX9_block_75 : decode cX9_block 75 = .ok (.ireturn, 1) := by decide +kernel
theorem dX9_block_76 : decode cX9_block 76 = .ok (.aload_n 3, 1) := by decide +kernel
theorem dX9_block_77 : decode cX9_block 77 = .ok (.getfield 166, 3) := by decide +kernel
theorem dX9_block_80 : decode cX9_block 80 = .ok (.ireturn, 1) := by decide +kernel
theorem dX9_block_81 : decode cX9_block 81 = .ok (.aload_n 3, 1) := by decide +kernel
theorem dX9_block_82 : decode cX9_block 82 = .ok (.getfield 140, 3) := by decide +kernel
theorem dX9_block_85 : decode cX9_block 85 = .ok (.ireturn, 1) := by decide +kernel
theorem dX9_block_86 : decode cX9_block 86 = .ok (.new 76, 3) := by decide +kernel
theorem dX9_block_89 : decode cX9_block 89 = .ok (.dup, 1) := by decide +kernel
theorem dX9_block_90 : decode cX9_block 90 = .ok (.ldc 169, 2) := by decide +kernel
theorem dX9_block_92 : decode cX9_block 92 = .ok (.invokespecial 80, 3) := by decide +kernel
theorem dX9_block_95 : decode cX9_block 95 = .ok (.athrow, 1) := by decide +kernel
theorem dX9_live_0 : decode cX9_live 0 = .ok (.aload_n 0, 1) := by decide +kernel
theorem dX9_live_1 : decode cX9_live 1 = .ok (.iload_n 1, 1) := by decide +kernel
theorem dX9_live_2 : decode cX9_live 2 = .ok (.invokevirtual 94, 3) := by decide +kernel
theorem dX9_live_5 : decode cX9_live 5 = .ok (.iload_n 2, 1) := by decide +kernel
theorem dX9_live_6 : decode cX9_live 6 = .ok (.ifCond .lt 19, 3) := by decide +kernel
theorem dX9_live_9 : decode cX9_live 9 = .ok (.iload_n 2, 1) := by decide +kernel
theorem dX9_live_10 : decode cX9_live 10 = .ok (.aload_n 0, 1) := by decide +kernel
theorem dX9_live_11 : decode cX9_live 11 = .ok (.getfield 25, 3) := by decide +kernel
theorem dX9_live_14 : decode cX9_live 14 = .ok (.getfield 103, 3) := by decide +kernel
theorem dX9_live_17 : decode cX9_live 17 = .ok (.iload_n 1, 1) := by decide +kernel
theorem dX9_live_18 : decode cX9_live 18 = .ok (.aaload, 1) := by decide +kernel
theorem dX9_live_19 : decode cX9_live 19 = .ok (.getfield 107, 3) := by decide +kernel
theorem dX9_live_22 : decode cX9_live 22 = .ok (.if_icmp .le 13, 3) := by decide +kernel
theorem dX9_live_25 : decode cX9_live 25 = .ok (.new 146, 3) := by decide +kernel
theorem dX9_live_28 : decode cX9_live 28 = .ok (.dup, 1) := by decide +kernel
theorem dX9_live_29 : decode cX9_live 29 = .ok (.ldc 171, 2) := by decide +kernel
theorem dX9_live_31 : decode cX9_live 31 = .ok (.invokespecial 148, 3) := by decide +kernel
theorem dX9_live_34 : decode cX9_live 34 = .ok (.athrow, 1) := by decide +kernel
theorem dX9_live_35 : decode cX9_live 35 = .ok (.aload_n 0, 1) := by decide +kernel
theorem dX9_live_36 : decode cX9_live 36 = .ok (.invokevirtual 173, 3) := by decide +kernel
theorem dX9_live_39 : decode cX9_live 39 = .ok (.aload_n 0, 1) := by decide +kernel
theorem dX9_live_40 : decode cX9_live 40 = .ok (.getfield 32, 3) := by decide +kernel
theorem dX9_live_43 : decode cX9_live 43 = .ok (.getfield 176, 3) := by decide +kernel
theorem dX9_live_46 : decode cX9_live 46 = .ok (.iload_n 1, 1) := by decide +kernel
theorem dX9_live_47 : decode cX9_live 47 = .ok (.bipush 9, 2) := by decide +kernel
theorem dX9_live_49 : decode cX9_live 49 = .ok (.imul, 1) := by decide +kernel
theorem dX9_live_50 : decode cX9_live 50 = .ok (.iload_n 2, 1) := by decide +kernel
theorem dX9_live_51 : decode cX9_live 51 = .ok (.iadd, 1) := by decide +kernel
theorem dX9_live_52 : decode cX9_live 52 = .ok (.iaload, 1) := by decide +kernel
theorem dX9_live_53 : decode cX9_live 53 = .ok (.ireturn, 1) := by decide +kernel
theorem dX9_conflicts_0 : decode cX9_conflicts 0 = .ok (.aload_n 0, 1) := by decide +kernel
theorem dX9_conflicts_1 : decode cX9_conflicts 1 = .ok (.iload_n 1, 1) := by decide +kernel
theorem dX9_conflicts_2 : decode cX9_conflicts 2 = .ok (.invokevirtual 129, 3) := by decide +kernel
theorem dX9_conflicts_5 : decode cX9_conflicts 5 = .ok (.aload_n 0, 1) := by decide +kernel
theorem dX9_conflicts_6 : decode cX9_conflicts 6 = .ok (.invokevirtual 173, 3) := by decide +kernel
theorem dX9_conflicts_9 : decode cX9_conflicts 9 = .ok (.aload_n 0, 1) := by decide +kernel
theorem dX9_conflicts_10 : decode cX9_conflicts 10 = .ok (.getfield 32, 3) := by decide +kernel
theorem dX9_conflicts_13 : decode cX9_conflicts 13 = .ok (.getfield 179, 3) := by decide +kernel
theorem dX9_conflicts_16 : decode cX9_conflicts 16 = .ok (.iload_n 1, 1) := by decide +kernel
theorem dX9_conflicts_17 : decode cX9_conflicts 17 = .ok (.iaload, 1) := by decide +kernel
theorem dX9_conflicts_18 : decode cX9_conflicts 18 = .ok (.ireturn, 1) := by decide +kernel
theorem dX9_requireLoop_0 : decode cX9_requireLoop 0 = .ok (.aload_n 0, 1) := by decide +kernel
theorem dX9_requireLoop_1 : decode cX9_requireLoop 1 = .ok (.invokevirtual 173, 3) := by decide +kernel
theorem dX9_requireLoop_4 : decode cX9_requireLoop 4 = .ok (.iload_n 1, 1) := by decide +kernel
theorem dX9_requireLoop_5 : decode cX9_requireLoop 5 = .ok (.ifCond .lt 14, 3) := by decide +kernel
theorem dX9_requireLoop_8 : decode cX9_requireLoop 8 = .ok (.iload_n 1, 1) := by decide +kernel
theorem dX9_requireLoop_9 : decode cX9_requireLoop 9 = .ok (.aload_n 0, 1) := by decide +kernel
theorem dX9_requireLoop_10 : decode cX9_requireLoop 10 = .ok (.getfield 36, 3) := by decide +kernel
theorem dX9_requireLoop_13 : decode cX9_requireLoop 13 = .ok (.getfield 186, 3) := by decide +kernel
theorem dX9_requireLoop_16 : decode cX9_requireLoop 16 = .ok (.if_icmp .lt 14, 3) := by decide +kernel
theorem dX9_requireLoop_19 : decode cX9_requireLoop 19 = .ok (.new 146, 3) := by decide +kernel
theorem dX9_requireLoop_22 : decode cX9_requireLoop 22 = .ok (.dup, 1) := by decide +kernel
theorem dX9_requireLoop_23 : decode cX9_requireLoop 23 = .ok (.ldc_w 370, 3) := by decide +kernel
theorem dX9_requireLoop_26 : decode cX9_requireLoop 26 = .ok (.invokespecial 148, 3) := by decide +kernel
theorem dX9_requireLoop_29 : decode cX9_requireLoop 29 = .ok (.athrow, 1) := by decide +kernel
theorem dX9_requireLoop_30 : decode cX9_requireLoop 30 = .ok (.return_, 1) := by decide +kernel
theorem dX9_loop_0 : decode cX9_loop 0 = .ok (.aload_n 0, 1) := by decide +kernel
theorem dX9_loop_1 : decode cX9_loop 1 = .ok (.iload_n 1, 1) := by decide +kernel
theorem dX9_loop_2 : decode cX9_loop 2 = .ok (.invokevirtual 189, 3) := by decide +kernel
theorem dX9_loop_5 : decode cX9_loop 5 = .ok (.iload_n 2, 1) := by decide +kernel
theorem dX9_loop_6 : decode cX9_loop 6 = .ok (.tableswitch 55 0 2 #[26, 36, 46], 26) := by decide +kernel
theorem dX9_loop_32 : decode cX9_loop 32 = .ok (.aload_n 0, 1) := by decide +kernel
theorem dX9_loop_33 : decode cX9_loop 33 = .ok (.getfield 36, 3) := by decide +kernel
theorem dX9_loop_36 : decode cX9_loop 36 = .ok (.getfield 192, 3) := by decide +kernel
theorem dX9_loop_39 : decode cX9_loop 39 = .ok (.iload_n 1, 1) := by decide +kernel
theorem dX9_loop_40 : decode cX9_loop 40 = .ok (.iaload, 1) := by decide +kernel
theorem dX9_loop_41 : decode cX9_loop 41 = .ok (.ireturn, 1) := by decide +kernel
theorem dX9_loop_42 : decode cX9_loop 42 = .ok (.aload_n 0, 1) := by decide +kernel
theorem dX9_loop_43 : decode cX9_loop 43 = .ok (.getfield 36, 3) := by decide +kernel
theorem dX9_loop_46 : decode cX9_loop 46 = .ok (.getfield 195, 3) := by decide +kernel
theorem dX9_loop_49 : decode cX9_loop 49 = .ok (.iload_n 1, 1) := by decide +kernel
theorem dX9_loop_50 : decode cX9_loop 50 = .ok (.iaload, 1) := by decide +kernel
theorem dX9_loop_51 : decode cX9_loop 51 = .ok (.ireturn, 1) := by decide +kernel
theorem dX9_loop_52 : decode cX9_loop 52 = .ok (.aload_n 0, 1) := by decide +kernel
theorem dX9_loop_53 : decode cX9_loop 53 = .ok (.getfield 36, 3) := by decide +kernel
theorem dX9_loop_56 : decode cX9_loop 56 = .ok (.iload_n 1, 1) := by decide +kernel
theorem dX9_loop_57 : decode cX9_loop 57 = .ok (.invokevirtual 198, 3) := by decide +kernel
theorem dX9_loop_60 : decode cX9_loop 60 = .ok (.ireturn, 1) := by decide +kernel
theorem dX9_loop_61 : decode cX9_loop 61 = .ok (.new 76, 3) := by decide +kernel
theorem dX9_loop_64 : decode cX9_loop 64 = .ok (.dup, 1) := by decide +kernel
theorem dX9_loop_65 : decode cX9_loop 65 = .ok (.ldc 202, 2) := by decide +kernel
theorem dX9_loop_67 : decode cX9_loop 67 = .ok (.invokespecial 80, 3) := by decide +kernel
theorem dX9_loop_70 : decode cX9_loop 70 = .ok (.athrow, 1) := by decide +kernel
theorem dX9_cost_0 : decode cX9_cost 0 = .ok (.aload_n 0, 1) := by decide +kernel
theorem dX9_cost_1 : decode cX9_cost 1 = .ok (.iload_n 1, 1) := by decide +kernel
theorem dX9_cost_2 : decode cX9_cost 2 = .ok (.invokevirtual 129, 3) := by decide +kernel
theorem dX9_cost_5 : decode cX9_cost 5 = .ok (.aload_n 0, 1) := by decide +kernel
theorem dX9_cost_6 : decode cX9_cost 6 = .ok (.invokevirtual 173, 3) := by decide +kernel
theorem dX9_cost_9 : decode cX9_cost 9 = .ok (.iload_n 2, 1) := by decide +kernel
theorem dX9_cost_10 : decode cX9_cost 10 = .ok (.ifCond .ne 12, 3) := by decide +kernel
theorem dX9_cost_13 : decode cX9_cost 13 = .ok (.aload_n 0, 1) := by decide +kernel
theorem dX9_cost_14 : decode cX9_cost 14 = .ok (.getfield 32, 3) := by decide +kernel
theorem dX9_cost_17 : decode cX9_cost 17 = .ok (.iload_n 1, 1) := by decide +kernel
theorem dX9_cost_18 : decode cX9_cost 18 = .ok (.invokevirtual 204, 3) := by decide +kernel
theorem dX9_cost_21 : decode cX9_cost 21 = .ok (.ireturn, 1) := by decide +kernel
theorem dX9_cost_22 : decode cX9_cost 22 = .ok (.aload_n 0, 1) := by decide +kernel
theorem dX9_cost_23 : decode cX9_cost 23 = .ok (.getfield 32, 3) := by decide +kernel
theorem dX9_cost_26 : decode cX9_cost 26 = .ok (.iload_n 1, 1) := by decide +kernel
theorem dX9_cost_27 : decode cX9_cost 27 = .ok (.invokevirtual 207, 3) := by decide +kernel
theorem dX9_cost_30 : decode cX9_cost 30 = .ok (.ifCond .ne 13, 3) := by decide +kernel
theorem dX9_cost_33 : decode cX9_cost 33 = .ok (.new 211, 3) := by decide +kernel
theorem dX9_cost_36 : decode cX9_cost 36 = .ok (.dup, 1) := by decide +kernel
theorem dX9_cost_37 : decode cX9_cost 37 = .ok (.ldc 213, 2) := by decide +kernel
theorem dX9_cost_39 : decode cX9_cost 39 = .ok (.invokespecial 215, 3) := by decide +kernel
theorem dX9_cost_42 : decode cX9_cost 42 = .ok (.athrow, 1) := by decide +kernel
theorem dX9_cost_43 : decode cX9_cost 43 = .ok (.aload_n 0, 1) := by decide +kernel
theorem dX9_cost_44 : decode cX9_cost 44 = .ok (.getfield 32, 3) := by decide +kernel
theorem dX9_cost_47 : decode cX9_cost 47 = .ok (.iload_n 1, 1) := by decide +kernel
theorem dX9_cost_48 : decode cX9_cost 48 = .ok (.invokevirtual 216, 3) := by decide +kernel
theorem dX9_cost_51 : decode cX9_cost 51 = .ok (.ireturn, 1) := by decide +kernel
theorem dX9_plan_0 : decode cX9_plan 0 = .ok (.iload_n 1, 1) := by decide +kernel
theorem dX9_plan_1 : decode cX9_plan 1 = .ok (.iconst 1, 1) := by decide +kernel
theorem dX9_plan_2 : decode cX9_plan 2 = .ok (.if_icmp .lt 9, 3) := by decide +kernel
theorem dX9_plan_5 : decode cX9_plan 5 = .ok (.iload_n 1, 1) := by decide +kernel
theorem dX9_plan_6 : decode cX9_plan 6 = .ok (.bipush 12, 2) := by decide +kernel
theorem dX9_plan_8 : decode cX9_plan 8 = .ok (.if_icmp .le 13, 3) := by decide +kernel
theorem dX9_plan_11 : decode cX9_plan 11 = .ok (.new 76, 3) := by decide +kernel
theorem dX9_plan_14 : decode cX9_plan 14 = .ok (.dup, 1) := by decide +kernel
theorem dX9_plan_15 : decode cX9_plan 15 = .ok (.ldc 219, 2) := by decide +kernel
theorem dX9_plan_17 : decode cX9_plan 17 = .ok (.invokespecial 80, 3) := by decide +kernel
theorem dX9_plan_20 : decode cX9_plan 20 = .ok (.athrow, 1) := by decide +kernel
theorem dX9_plan_21 : decode cX9_plan 21 = .ok (.aload_n 0, 1) := by decide +kernel
theorem dX9_plan_22 : decode cX9_plan 22 = .ok (.invokevirtual 173, 3) := by decide +kernel
theorem dX9_plan_25 : decode cX9_plan 25 = .ok (.aload_n 0, 1) := by decide +kernel
theorem dX9_plan_26 : decode cX9_plan 26 = .ok (.getfield 40, 3) := by decide +kernel
theorem dX9_plan_29 : decode cX9_plan 29 = .ok (.iload_n 1, 1) := by decide +kernel
theorem dX9_plan_30 : decode cX9_plan 30 = .ok (.iload_n 2, 1) := by decide +kernel
theorem dX9_plan_31 : decode cX9_plan 31 = .ok (.invokevirtual 221, 3) := by decide +kernel
theorem dX9_plan_34 : decode cX9_plan 34 = .ok (.aload_n 0, 1) := by decide +kernel
theorem dX9_plan_35 : decode cX9_plan 35 = .ok (.iconst 1, 1) := by decide +kernel
theorem dX9_plan_36 : decode cX9_plan 36 = .ok (.putfield 225, 3) := by decide +kernel
theorem dX9_plan_39 : decode cX9_plan 39 = .ok (.aload_n 0, 1) := by decide +kernel
theorem dX9_plan_40 : decode cX9_plan 40 = .ok (.getfield 40, 3) := by decide +kernel
theorem dX9_plan_43 : decode cX9_plan 43 = .ok (.iconst 1, 1) := by decide +kernel
theorem dX9_plan_44 : decode cX9_plan 44 = .ok (.invokevirtual 229, 3) := by decide +kernel
theorem dX9_plan_47 : decode cX9_plan 47 = .ok (.ireturn, 1) := by decide +kernel
theorem dX9_requirePlan_0 : decode cX9_requirePlan 0 = .ok (.aload_n 0, 1) := by decide +kernel
theorem dX9_requirePlan_1 : decode cX9_requirePlan 1 = .ok (.getfield 225, 3) := by decide +kernel
theorem dX9_requirePlan_4 : decode cX9_requirePlan 4 = .ok (.ifCond .ne 14, 3) := by decide +kernel
theorem dX9_requirePlan_7 : decode cX9_requirePlan 7 = .ok (.new 110, 3) := by decide +kernel
theorem dX9_requirePlan_10 : decode cX9_requirePlan 10 = .ok (.dup, 1) := by decide +kernel
theorem dX9_requirePlan_11 : decode cX9_requirePlan 11 = .ok (.ldc_w 372, 3) := by decide +kernel
theorem dX9_requirePlan_14 : decode cX9_requirePlan 14 = .ok (.invokespecial 114, 3) := by decide +kernel
theorem dX9_requirePlan_17 : decode cX9_requirePlan 17 = .ok (.athrow, 1) := by decide +kernel
theorem dX9_requirePlan_18 : decode cX9_requirePlan 18 = .ok (.return_, 1) := by decide +kernel
theorem dX9_home_0 : decode cX9_home 0 = .ok (.aload_n 0, 1) := by decide +kernel
theorem dX9_home_1 : decode cX9_home 1 = .ok (.iload_n 1, 1) := by decide +kernel
theorem dX9_home_2 : decode cX9_home 2 = .ok (.invokevirtual 129, 3) := by decide +kernel
theorem dX9_home_5 : decode cX9_home 5 = .ok (.iload_n 2, 1) := by decide +kernel
theorem dX9_home_6 : decode cX9_home 6 = .ok (.ifCond .lt 8, 3) := by decide +kernel
theorem dX9_home_9 : decode cX9_home 9 = .ok (.iload_n 2, 1) := by decide +kernel
theorem dX9_home_10 : decode cX9_home 10 = .ok (.iconst 2, 1) := by decide +kernel
theorem dX9_home_11 : decode cX9_home 11 = .ok (.if_icmp .le 13, 3) := by decide +kernel
theorem dX9_home_14 : decode cX9_home 14 = .ok (.new 76, 3) := by decide +kernel
theorem dX9_home_17 : decode cX9_home 17 = .ok (.dup, 1) := by decide +kernel
theorem dX9_home_18 : decode cX9_home 18 = .ok (.ldc 232, 2) := by decide +kernel
theorem dX9_home_20 : decode cX9_home 20 = .ok (.invokespecial 80, 3) := by decide +kernel
theorem dX9_home_23 : decode cX9_home 23 = .ok (.athrow, 1) := by decide +kernel
theorem dX9_home_24 : decode cX9_home 24 = .ok (.aload_n 0, 1) := by decide +kernel
theorem dX9_home_25 : decode cX9_home 25 = .ok (.invokevirtual 234, 3) := by decide +kernel
theorem dX9_home_28 : decode cX9_home 28 = .ok (.iload_n 2, 1) := by decide +kernel
theorem dX9_home_29 : decode cX9_home 29 = .ok (.ifCond .ne 13, 3) := by decide +kernel
theorem dX9_home_32 : decode cX9_home 32 = .ok (.aload_n 0, 1) := by decide +kernel
theorem dX9_home_33 : decode cX9_home 33 = .ok (.getfield 40, 3) := by decide +kernel
theorem dX9_home_36 : decode cX9_home 36 = .ok (.getfield 237, 3) := by decide +kernel
theorem dX9_home_39 : decode cX9_home 39 = .ok (.iload_n 1, 1) := by decide +kernel
theorem dX9_home_40 : decode cX9_home 40 = .ok (.iaload, 1) := by decide +kernel
theorem dX9_home_41 : decode cX9_home 41 = .ok (.ireturn, 1) := by decide +kernel
theorem dX9_home_42 : decode cX9_home 42 = .ok (.iload_n 2, 1) := by decide +kernel
theorem dX9_home_43 : decode cX9_home 43 = .ok (.iconst 1, 1) := by decide +kernel
theorem dX9_home_44 : decode cX9_home 44 = .ok (.if_icmp .ne 15, 3) := by decide +kernel
theorem dX9_home_47 : decode cX9_home 47 = .ok (.aload_n 0, 1) := by decide +kernel
theorem dX9_home_48 : decode cX9_home 48 = .ok (.getfield 40, 3) := by decide +kernel
theorem dX9_home_51 : decode cX9_home 51 = .ok (.getfield 240, 3) := by decide +kernel
theorem dX9_home_54 : decode cX9_home 54 = .ok (.iload_n 1, 1) := by decide +kernel
theorem dX9_home_55 : decode cX9_home 55 = .ok (.iaload, 1) := by decide +kernel
theorem dX9_home_56 : decode cX9_home 56 = .ok (.goto 12, 3) := by decide +kernel
theorem dX9_home_59 : decode cX9_home 59 = .ok (.aload_n 0, 1) := by decide +kernel
theorem dX9_home_60 : decode cX9_home 60 = .ok (.getfield 40, 3) := by decide +kernel
theorem dX9_home_63 : decode cX9_home 63 = .ok (.getfield 243, 3) := by decide +kernel
theorem dX9_home_66 : decode cX9_home 66 = .ok (.iload_n 1, 1) := by decide +kernel
theorem dX9_home_67 : decode cX9_home 67 = .ok (.iaload, 1) := by decide +kernel
theorem dX9_home_68 : decode cX9_home 68 = .ok (.ireturn, 1) := by decide +kernel
theorem dX9_promoted_0 : decode cX9_promoted 0 = .ok (.aload_n 0, 1) := by decide +kernel
theorem dX9_promoted_1 : decode cX9_promoted 1 = .ok (.iload_n 1, 1) := by decide +kernel
theorem dX9_promoted_2 : decode cX9_promoted 2 = .ok (.invokevirtual 129, 3) := by decide +kernel
theorem dX9_promoted_5 : decode cX9_promoted 5 = .ok (.aload_n 0, 1) := by decide +kernel
theorem dX9_promoted_6 : decode cX9_promoted 6 = .ok (.iload_n 2, 1) := by decide +kernel
theorem dX9_promoted_7 : decode cX9_promoted 7 = .ok (.invokevirtual 189, 3) := by decide +kernel
theorem dX9_promoted_10 : decode cX9_promoted 10 = .ok (.aload_n 0, 1) := by decide +kernel
theorem dX9_promoted_11 : decode cX9_promoted 11 = .ok (.invokevirtual 234, 3) := by decide +kernel
theorem dX9_promoted_14 : decode cX9_promoted 14 = .ok (.aload_n 0, 1) := by decide +kernel
theorem dX9_promoted_15 : decode cX9_promoted 15 = .ok (.getfield 40, 3) := by decide +kernel
theorem dX9_promoted_18 : decode cX9_promoted 18 = .ok (.getfield 246, 3) := by decide +kernel
theorem dX9_promoted_21 : decode cX9_promoted 21 = .ok (.iload_n 2, 1) := by decide +kernel
theorem dX9_promoted_22 : decode cX9_promoted 22 = .ok (.bipush 12, 2) := by decide +kernel
theorem dX9_promoted_24 : decode cX9_promoted 24 = .ok (.imul, 1) := by decide +kernel
theorem dX9_promoted_25 : decode cX9_promoted 25 = .ok (.iload_n 1, 1) := by decide +kernel
theorem dX9_promoted_26 : decode cX9_promoted 26 = .ok (.iadd, 1) := by decide +kernel
theorem dX9_promoted_27 : decode cX9_promoted 27 = .ok (.iaload, 1) := by decide +kernel
theorem dX9_promoted_28 : decode cX9_promoted 28 = .ok (.istore_n 3, 1) := by decide +kernel
theorem dX9_promoted_29 : decode cX9_promoted 29 = .ok (.iload_n 3, 1) := by decide +kernel
theorem dX9_promoted_30 : decode cX9_promoted 30 = .ok (.iconst (-1), 1) := by decide +kernel
theorem dX9_promoted_31 : decode cX9_promoted 31 = .ok (.if_icmp .ne 13, 3) := by decide +kernel
theorem dX9_promoted_34 : decode cX9_promoted 34 = .ok (.new 119, 3) := by decide +kernel
theorem dX9_promoted_37 : decode cX9_promoted 37 = .ok (.dup, 1) := by decide +kernel
theorem dX9_promoted_38 : decode cX9_promoted 38 = .ok (.ldc 249, 2) := by decide +kernel
theorem dX9_promoted_40 : decode cX9_promoted 40 = .ok (.invokespecial 123, 3) := by decide +kernel
theorem dX9_promoted_43 : decode cX9_promoted 43 = .ok (.athrow, 1) := by decide +kernel
theorem dX9_promoted_44 : decode cX9_promoted 44 = .ok (.iload_n 3, 1) := by decide +kernel
theorem dX9_promoted_45 : decode cX9_promoted 45 = .ok (.ireturn, 1) := by decide +kernel
theorem dX9_planned_0 : decode cX9_planned 0 = .ok (.iload_n 1, 1) := by decide +kernel
theorem dX9_planned_1 : decode cX9_planned 1 = .ok (.ifCond .lt 8, 3) := by decide +kernel
theorem dX9_planned_4 : decode cX9_planned 4 = .ok (.iload_n 1, 1) := by decide +kernel
theorem dX9_planned_5 : decode cX9_planned 5 = .ok (.iconst 4, 1) := by decide +kernel
theorem dX9_planned_6 : decode cX9_planned 6 = .ok (.if_icmp .le 13, 3) := by decide +kernel
theorem dX9_planned_9 : decode cX9_planned 9 = .ok (.new 76, 3) := by decide +kernel
theorem dX9_planned_12 : decode cX9_planned 12 = .ok (.dup, 1) := by decide +kernel
theorem dX9_planned_13 : decode cX9_planned 13 = .ok (.ldc 251, 2) := by decide +kernel
theorem dX9_planned_15 : decode cX9_planned 15 = .ok (.invokespecial 80, 3) := by decide +kernel
theorem dX9_planned_18 : decode cX9_planned 18 = .ok (.athrow, 1) := by decide +kernel
theorem dX9_planned_19 : decode cX9_planned 19 = .ok (.aload_n 0, 1) := by decide +kernel
theorem dX9_planned_20 : decode cX9_planned 20 = .ok (.invokevirtual 234, 3) := by decide +kernel
theorem dX9_planned_23 : decode cX9_planned 23 = .ok (.iload_n 1, 1) := by decide +kernel
theorem dX9_planned_24 : decode cX9_planned 24 = .ok (.tableswitch 65 0 3 #[32, 40, 48, 57], 32) := by decide +kernel
theorem dX9_planned_56 : decode cX9_planned 56 = .ok (.aload_n 0, 1) := by decide +kernel
theorem dX9_planned_57 : decode cX9_planned 57 = .ok (.getfield 40, 3) := by decide +kernel
theorem dX9_planned_60 : decode cX9_planned 60 = .ok (.getfield 253, 3) := by decide +kernel
theorem dX9_planned_63 : decode cX9_planned 63 = .ok (.ireturn, 1) := by decide +kernel
theorem dX9_planned_64 : decode cX9_planned 64 = .ok (.aload_n 0, 1) := by decide +kernel
theorem dX9_planned_65 : decode cX9_planned 65 = .ok (.getfield 40, 3) := by decide +kernel
theorem dX9_planned_68 : decode cX9_planned 68 = .ok (.invokevirtual 256, 3) := by decide +kernel
theorem dX9_planned_71 : decode cX9_planned 71 = .ok (.ireturn, 1) := by decide +kernel
theorem dX9_planned_72 : decode cX9_planned 72 = .ok (.aload_n 0, 1) := by decide +kernel
theorem dX9_planned_73 : decode cX9_planned 73 = .ok (.getfield 40, 3) := by decide +kernel
theorem dX9_planned_76 : decode cX9_planned 76 = .ok (.iconst 2, 1) := by decide +kernel
theorem dX9_planned_77 : decode cX9_planned 77 = .ok (.invokevirtual 229, 3) := by decide +kernel
theorem dX9_planned_80 : decode cX9_planned 80 = .ok (.ireturn, 1) := by decide +kernel
theorem dX9_planned_81 : decode cX9_planned 81 = .ok (.aload_n 0, 1) := by decide +kernel
theorem dX9_planned_82 : decode cX9_planned 82 = .ok (.getfield 40, 3) := by decide +kernel
theorem dX9_planned_85 : decode cX9_planned 85 = .ok (.getfield 259, 3) := by decide +kernel
theorem dX9_planned_88 : decode cX9_planned 88 = .ok (.ireturn, 1) := by decide +kernel
theorem dX9_planned_89 : decode cX9_planned 89 = .ok (.aload_n 0, 1) := by decide +kernel
theorem dX9_planned_90 : decode cX9_planned 90 = .ok (.getfield 40, 3) := by decide +kernel
theorem dX9_planned_93 : decode cX9_planned 93 = .ok (.invokevirtual 262, 3) := by decide +kernel
theorem dX9_planned_96 : decode cX9_planned 96 = .ok (.ireturn, 1) := by decide +kernel
theorem dX9_requireLimit_0 : decode cX9_requireLimit 0 = .ok (.iload_n 0, 1) := by decide +kernel
theorem dX9_requireLimit_1 : decode cX9_requireLimit 1 = .ok (.iconst 1, 1) := by decide +kernel
theorem dX9_requireLimit_2 : decode cX9_requireLimit 2 = .ok (.if_icmp .lt 10, 3) := by decide +kernel
theorem dX9_requireLimit_5 : decode cX9_requireLimit 5 = .ok (.iload_n 0, 1) := by decide +kernel
theorem dX9_requireLimit_6 : decode cX9_requireLimit 6 = .ok (.sipush 1000, 3) := by decide +kernel
theorem dX9_requireLimit_9 : decode cX9_requireLimit 9 = .ok (.if_icmp .le 14, 3) := by decide +kernel
theorem dX9_requireLimit_12 : decode cX9_requireLimit 12 = .ok (.new 76, 3) := by decide +kernel
theorem dX9_requireLimit_15 : decode cX9_requireLimit 15 = .ok (.dup, 1) := by decide +kernel
theorem dX9_requireLimit_16 : decode cX9_requireLimit 16 = .ok (.ldc_w 374, 3) := by decide +kernel
theorem dX9_requireLimit_19 : decode cX9_requireLimit 19 = .ok (.invokespecial 80, 3) := by decide +kernel
theorem dX9_requireLimit_22 : decode cX9_requireLimit 22 = .ok (.athrow, 1) := by decide +kernel
theorem dX9_requireLimit_23 : decode cX9_requireLimit 23 = .ok (.return_, 1) := by decide +kernel
theorem dX9_resultOf_0 : decode cX9_resultOf 0 = .ok (.aload_n 1, 1) := by decide +kernel
theorem dX9_resultOf_1 : decode cX9_resultOf 1 = .ok (.iload_n 2, 1) := by decide +kernel
theorem dX9_resultOf_2 : decode cX9_resultOf 2 = .ok (.invokevirtual 329, 3) := by decide +kernel
theorem dX9_resultOf_5 : decode cX9_resultOf 5 = .ok (.ifCond .ne 14, 3) := by decide +kernel
theorem dX9_resultOf_8 : decode cX9_resultOf 8 = .ok (.new 334, 3) := by decide +kernel
theorem dX9_resultOf_11 : decode cX9_resultOf 11 = .ok (.dup, 1) := by decide +kernel
theorem dX9_resultOf_12 : decode cX9_resultOf 12 = .ok (.ldc_w 336, 3) := by decide +kernel
theorem dX9_resultOf_15 : decode cX9_resultOf 15 = .ok (.invokespecial 338, 3) := by decide +kernel
theorem dX9_resultOf_18 : decode cX9_resultOf 18 = .ok (.athrow, 1) := by decide +kernel
theorem dX9_resultOf_19 : decode cX9_resultOf 19 = .ok (.aload_n 0, 1) := by decide +kernel
theorem dX9_resultOf_20 : decode cX9_resultOf 20 = .ok (.getfield 70, 3) := by decide +kernel
theorem dX9_resultOf_23 : decode cX9_resultOf 23 = .ok (.iconst 0, 1) := by decide +kernel
theorem dX9_resultOf_24 : decode cX9_resultOf 24 = .ok (.aload_n 1, 1) := by decide +kernel
theorem dX9_resultOf_25 : decode cX9_resultOf 25 = .ok (.getfield 339, 3) := by decide +kernel
theorem dX9_resultOf_28 : decode cX9_resultOf 28 = .ok (.iastore, 1) := by decide +kernel
theorem dX9_resultOf_29 : decode cX9_resultOf 29 = .ok (.aload_n 0, 1) := by decide +kernel
theorem dX9_resultOf_30 : decode cX9_resultOf 30 = .ok (.getfield 70, 3) := by decide +kernel
theorem dX9_resultOf_33 : decode cX9_resultOf 33 = .ok (.iconst 1, 1) := by decide +kernel
theorem dX9_resultOf_34 : decode cX9_resultOf 34 = .ok (.aload_n 1, 1) := by decide +kernel
theorem dX9_resultOf_35 : decode cX9_resultOf 35 = .ok (.getfield 342, 3) := by decide +kernel
theorem dX9_resultOf_38 : decode cX9_resultOf 38 = .ok (.iastore, 1) := by decide +kernel
theorem dX9_resultOf_39 : decode cX9_resultOf 39 = .ok (.aload_n 0, 1) := by decide +kernel
theorem dX9_resultOf_40 : decode cX9_resultOf 40 = .ok (.getfield 70, 3) := by decide +kernel
theorem dX9_resultOf_43 : decode cX9_resultOf 43 = .ok (.iconst 2, 1) := by decide +kernel
theorem dX9_resultOf_44 : decode cX9_resultOf 44 = .ok (.aload_n 1, 1) := by decide +kernel
theorem dX9_resultOf_45 : decode cX9_resultOf 45 = .ok (.getfield 345, 3) := by decide +kernel
theorem dX9_resultOf_48 : decode cX9_resultOf 48 = .ok (.iastore, 1) := by decide +kernel
theorem dX9_resultOf_49 : decode cX9_resultOf 49 = .ok (.aload_n 0, 1) := by decide +kernel
theorem dX9_resultOf_50 : decode cX9_resultOf 50 = .ok (.getfield 70, 3) := by decide +kernel
theorem dX9_resultOf_53 : decode cX9_resultOf 53 = .ok (.iconst 3, 1) := by decide +kernel
theorem dX9_resultOf_54 : decode cX9_resultOf 54 = .ok (.aload_n 1, 1) := by decide +kernel
theorem dX9_resultOf_55 : decode cX9_resultOf 55 = .ok (.getfield 348, 3) := by decide +kernel
theorem dX9_resultOf_58 : decode cX9_resultOf 58 = .ok (.iastore, 1) := by decide +kernel
theorem dX9_resultOf_59 : decode cX9_resultOf 59 = .ok (.aload_n 1, 1) := by decide +kernel
theorem dX9_resultOf_60 : decode cX9_resultOf 60 = .ok (.getfield 351, 3) := by decide +kernel
theorem dX9_resultOf_63 : decode cX9_resultOf 63 = .ok (.iconst 0, 1) := by decide +kernel
theorem dX9_resultOf_64 : decode cX9_resultOf 64 = .ok (.aload_n 0, 1) := by decide +kernel
theorem dX9_resultOf_65 : decode cX9_resultOf 65 = .ok (.getfield 73, 3) := by decide +kernel
theorem dX9_resultOf_68 : decode cX9_resultOf 68 = .ok (.iconst 0, 1) := by decide +kernel
theorem dX9_resultOf_69 : decode cX9_resultOf 69 = .ok (.bipush 8, 2) := by decide +kernel
theorem dX9_resultOf_71 : decode cX9_resultOf 71 = .ok (.invokestatic 354, 3) := by decide +kernel
theorem dX9_resultOf_74 : decode cX9_resultOf 74 = .ok (.aload_n 1, 1) := by decide +kernel
theorem dX9_resultOf_75 : decode cX9_resultOf 75 = .ok (.getfield 360, 3) := by decide +kernel
theorem dX9_resultOf_78 : decode cX9_resultOf 78 = .ok (.ireturn, 1) := by decide +kernel
theorem dX9_run_0 : decode cX9_run 0 = .ok (.iload_n 1, 1) := by decide +kernel
theorem dX9_run_1 : decode cX9_run 1 = .ok (.invokestatic 282, 3) := by decide +kernel
theorem dX9_run_4 : decode cX9_run 4 = .ok (.aload_n 0, 1) := by decide +kernel
theorem dX9_run_5 : decode cX9_run 5 = .ok (.aload_n 0, 1) := by decide +kernel
theorem dX9_run_6 : decode cX9_run 6 = .ok (.getfield 47, 3) := by decide +kernel
theorem dX9_run_9 : decode cX9_run 9 = .ok (.iload_n 1, 1) := by decide +kernel
theorem dX9_run_10 : decode cX9_run 10 = .ok (.invokevirtual 285, 3) := by decide +kernel
theorem dX9_run_13 : decode cX9_run 13 = .ok (.ireturn, 1) := by decide +kernel
theorem dX9_runPlanned_0 : decode cX9_runPlanned 0 = .ok (.iload_n 1, 1) := by decide +kernel
theorem dX9_runPlanned_1 : decode cX9_runPlanned 1 = .ok (.invokestatic 282, 3) := by decide +kernel
theorem dX9_runPlanned_4 : decode cX9_runPlanned 4 = .ok (.aload_n 0, 1) := by decide +kernel
theorem dX9_runPlanned_5 : decode cX9_runPlanned 5 = .ok (.invokevirtual 234, 3) := by decide +kernel
theorem dX9_runPlanned_8 : decode cX9_runPlanned 8 = .ok (.aload_n 0, 1) := by decide +kernel
theorem dX9_runPlanned_9 : decode cX9_runPlanned 9 = .ok (.aload_n 0, 1) := by decide +kernel
theorem dX9_runPlanned_10 : decode cX9_runPlanned 10 = .ok (.getfield 56, 3) := by decide +kernel
theorem dX9_runPlanned_13 : decode cX9_runPlanned 13 = .ok (.iload_n 1, 1) := by decide +kernel
theorem dX9_runPlanned_14 : decode cX9_runPlanned 14 = .ok (.invokevirtual 285, 3) := by decide +kernel
theorem dX9_runPlanned_17 : decode cX9_runPlanned 17 = .ok (.ireturn, 1) := by decide +kernel
theorem dX9_executed_0 : decode cX9_executed 0 = .ok (.iload_n 1, 1) := by decide +kernel
theorem dX9_executed_1 : decode cX9_executed 1 = .ok (.ifCond .lt 12, 3) := by decide +kernel
theorem dX9_executed_4 : decode cX9_executed 4 = .ok (.iload_n 1, 1) := by decide +kernel
theorem dX9_executed_5 : decode cX9_executed 5 = .ok (.aload_n 0, 1) := by decide +kernel
theorem dX9_executed_6 : decode cX9_executed 6 = .ok (.getfield 70, 3) := by decide +kernel
theorem dX9_executed_9 : decode cX9_executed 9 = .ok (.arraylength, 1) := by decide +kernel
theorem dX9_executed_10 : decode cX9_executed 10 = .ok (.if_icmp .lt 14, 3) := by decide +kernel
theorem dX9_executed_13 : decode cX9_executed 13 = .ok (.new 76, 3) := by decide +kernel
theorem dX9_executed_16 : decode cX9_executed 16 = .ok (.dup, 1) := by decide +kernel
theorem dX9_executed_17 : decode cX9_executed 17 = .ok (.ldc_w 289, 3) := by decide +kernel
theorem dX9_executed_20 : decode cX9_executed 20 = .ok (.invokespecial 80, 3) := by decide +kernel
theorem dX9_executed_23 : decode cX9_executed 23 = .ok (.athrow, 1) := by decide +kernel
theorem dX9_executed_24 : decode cX9_executed 24 = .ok (.aload_n 0, 1) := by decide +kernel
theorem dX9_executed_25 : decode cX9_executed 25 = .ok (.getfield 70, 3) := by decide +kernel
theorem dX9_executed_28 : decode cX9_executed 28 = .ok (.iload_n 1, 1) := by decide +kernel
theorem dX9_executed_29 : decode cX9_executed 29 = .ok (.iaload, 1) := by decide +kernel
theorem dX9_executed_30 : decode cX9_executed 30 = .ok (.ireturn, 1) := by decide +kernel
theorem dX9_visits_0 : decode cX9_visits 0 = .ok (.aload_n 0, 1) := by decide +kernel
theorem dX9_visits_1 : decode cX9_visits 1 = .ok (.iload_n 1, 1) := by decide +kernel
theorem dX9_visits_2 : decode cX9_visits 2 = .ok (.invokevirtual 94, 3) := by decide +kernel
theorem dX9_visits_5 : decode cX9_visits 5 = .ok (.aload_n 0, 1) := by decide +kernel
theorem dX9_visits_6 : decode cX9_visits 6 = .ok (.getfield 73, 3) := by decide +kernel
theorem dX9_visits_9 : decode cX9_visits 9 = .ok (.iload_n 1, 1) := by decide +kernel
theorem dX9_visits_10 : decode cX9_visits 10 = .ok (.iaload, 1) := by decide +kernel
theorem dX9_visits_11 : decode cX9_visits 11 = .ok (.ireturn, 1) := by decide +kernel
theorem dX9_feed_0 : decode cX9_feed 0 = .ok (.aload_n 0, 1) := by decide +kernel
theorem dX9_feed_1 : decode cX9_feed 1 = .ok (.getfield 62, 3) := by decide +kernel
theorem dX9_feed_4 : decode cX9_feed 4 = .ok (.getfield 291, 3) := by decide +kernel
theorem dX9_feed_7 : decode cX9_feed 7 = .ok (.bipush 80, 2) := by decide +kernel
theorem dX9_feed_9 : decode cX9_feed 9 = .ok (.if_icmp .lt 14, 3) := by decide +kernel
theorem dX9_feed_12 : decode cX9_feed 12 = .ok (.new 110, 3) := by decide +kernel
theorem dX9_feed_15 : decode cX9_feed 15 = .ok (.dup, 1) := by decide +kernel
theorem dX9_feed_16 : decode cX9_feed 16 = .ok (.ldc_w 294, 3) := by decide +kernel
theorem dX9_feed_19 : decode cX9_feed 19 = .ok (.invokespecial 114, 3) := by decide +kernel
theorem dX9_feed_22 : decode cX9_feed 22 = .ok (.athrow, 1) := by decide +kernel
theorem dX9_feed_23 : decode cX9_feed 23 = .ok (.aload_n 0, 1) := by decide +kernel
theorem dX9_feed_24 : decode cX9_feed 24 = .ok (.getfield 62, 3) := by decide +kernel
theorem dX9_feed_27 : decode cX9_feed 27 = .ok (.getfield 296, 3) := by decide +kernel
theorem dX9_feed_30 : decode cX9_feed 30 = .ok (.aload_n 0, 1) := by decide +kernel
theorem dX9_feed_31 : decode cX9_feed 31 = .ok (.getfield 62, 3) := by decide +kernel
theorem dX9_feed_34 : decode cX9_feed 34 = .ok (.getfield 291, 3) := by decide +kernel
theorem dX9_feed_37 : decode cX9_feed 37 = .ok (.iload_n 1, 1) := by decide +kernel
theorem dX9_feed_38 : decode cX9_feed 38 = .ok (.castore, 1) := by decide +kernel
theorem dX9_feed_39 : decode cX9_feed 39 = .ok (.aload_n 0, 1) := by decide +kernel
theorem dX9_feed_40 : decode cX9_feed 40 = .ok (.getfield 62, 3) := by decide +kernel
theorem dX9_feed_43 : decode cX9_feed 43 = .ok (.dup, 1) := by decide +kernel
theorem dX9_feed_44 : decode cX9_feed 44 = .ok (.getfield 291, 3) := by decide +kernel
theorem dX9_feed_47 : decode cX9_feed 47 = .ok (.iconst 1, 1) := by decide +kernel
theorem dX9_feed_48 : decode cX9_feed 48 = .ok (.iadd, 1) := by decide +kernel
theorem dX9_feed_49 : decode cX9_feed 49 = .ok (.putfield 291, 3) := by decide +kernel
theorem dX9_feed_52 : decode cX9_feed 52 = .ok (.aload_n 0, 1) := by decide +kernel
theorem dX9_feed_53 : decode cX9_feed 53 = .ok (.getfield 62, 3) := by decide +kernel
theorem dX9_feed_56 : decode cX9_feed 56 = .ok (.getfield 291, 3) := by decide +kernel
theorem dX9_feed_59 : decode cX9_feed 59 = .ok (.ireturn, 1) := by decide +kernel
theorem dX9_restoreSnapshot_0 : decode cX9_restoreSnapshot 0 = .ok (.aload_n 0, 1) := by decide +kernel
theorem dX9_restoreSnapshot_1 : decode cX9_restoreSnapshot 1 = .ok (.getfield 317, 3) := by decide +kernel
theorem dX9_restoreSnapshot_4 : decode cX9_restoreSnapshot 4 = .ok (.ifCond .ne 14, 3) := by decide +kernel
theorem dX9_restoreSnapshot_7 : decode cX9_restoreSnapshot 7 = .ok (.new 110, 3) := by decide +kernel
theorem dX9_restoreSnapshot_10 : decode cX9_restoreSnapshot 10 = .ok (.dup, 1) := by decide +kernel
theorem dX9_restoreSnapshot_11 : decode cX9_restoreSnapshot 11 = .ok (.ldc_w 320, 3) := by decide +kernel
theorem dX9_restoreSnapshot_14 : decode cX9_restoreSnapshot 14 = .ok (.invokespecial 114, 3) := by decide +kernel
theorem dX9_restoreSnapshot_17 : decode cX9_restoreSnapshot 17 = .ok (.athrow, 1) := by decide +kernel
theorem dX9_restoreSnapshot_18 : decode cX9_restoreSnapshot 18 = .ok (.aload_n 0, 1) := by decide +kernel
theorem dX9_restoreSnapshot_19 : decode cX9_restoreSnapshot 19 = .ok (.getfield 25, 3) := by decide +kernel
theorem dX9_restoreSnapshot_22 : decode cX9_restoreSnapshot 22 = .ok (.aload_n 0, 1) := by decide +kernel
theorem dX9_restoreSnapshot_23 : decode cX9_restoreSnapshot 23 = .ok (.getfield 29, 3) := by decide +kernel
theorem dX9_restoreSnapshot_26 : decode cX9_restoreSnapshot 26 = .ok (.invokevirtual 314, 3) := by decide +kernel
theorem dX9_restoreSnapshot_29 : decode cX9_restoreSnapshot 29 = .ok (.aload_n 0, 1) := by decide +kernel
theorem dX9_restoreSnapshot_30 : decode cX9_restoreSnapshot 30 = .ok (.invokevirtual 91, 3) := by decide +kernel
theorem dX9_restoreSnapshot_33 : decode cX9_restoreSnapshot 33 = .ok (.aload_n 0, 1) := by decide +kernel
theorem dX9_restoreSnapshot_34 : decode cX9_restoreSnapshot 34 = .ok (.getfield 25, 3) := by decide +kernel
theorem dX9_restoreSnapshot_37 : decode cX9_restoreSnapshot 37 = .ok (.getfield 83, 3) := by decide +kernel
theorem dX9_restoreSnapshot_40 : decode cX9_restoreSnapshot 40 = .ok (.ireturn, 1) := by decide +kernel
