theorem dX10_promotesAll_4 : decode cX10_promotesAll 4 = .ok (.aload_n 0, 1) := by decide +kernel
theorem dX10_promotesAll_5 : decode cX10_promotesAll 5 = .ok (.iconst 0, 1) := by decide +kernel
theorem dX10_promotesAll_6 : decode cX10_promotesAll 6 = .ok (.putfield 82, 3) := by decide +kernel
theorem dX10_promotesAll_9 : decode cX10_promotesAll 9 = .ok (.iconst 0, 1) := by decide +kernel
theorem dX10_promotesAll_10 : decode cX10_promotesAll 10 = .ok (.istore_n 1, 1) := by decide +kernel
theorem dX10_promotesAll_11 : decode cX10_promotesAll 11 = .ok (.iload_n 1, 1) := by decide +kernel
theorem dX10_promotesAll_12 : decode cX10_promotesAll 12 = .ok (.bipush 96, 2) := by decide +kernel
theorem dX10_promotesAll_14 : decode cX10_promotesAll 14 = .ok (.if_icmp .ge 16, 3) := by decide +kernel
theorem dX10_promotesAll_17 : decode cX10_promotesAll 17 = .ok (.aload_n 0, 1) := by decide +kernel
theorem dX10_promotesAll_18 : decode cX10_promotesAll 18 = .ok (.getfield 94, 3) := by decide +kernel
theorem dX10_promotesAll_21 : decode cX10_promotesAll 21 = .ok (.iload_n 1, 1) := by decide +kernel
theorem dX10_promotesAll_22 : decode cX10_promotesAll 22 = .ok (.iconst (-1), 1) := by decide +kernel
theorem dX10_promotesAll_23 : decode cX10_promotesAll 23 = .ok (.iastore, 1) := by decide +kernel
theorem dX10_promotesAll_24 : decode cX10_promotesAll 24 = .ok (.iinc 1 1, 3) := by decide +kernel
theorem dX10_promotesAll_27 : decode cX10_promotesAll 27 = .ok (.goto (-16), 3) := by decide +kernel
theorem dX10_promotesAll_30 : decode cX10_promotesAll 30 = .ok (.iconst 0, 1) := by decide +kernel
theorem dX10_promotesAll_31 : decode cX10_promotesAll 31 = .ok (.istore_n 1, 1) := by decide +kernel
theorem dX10_promotesAll_32 : decode cX10_promotesAll 32 = .ok (.iconst 0, 1) := by decide +kernel
theorem dX10_promotesAll_33 : decode cX10_promotesAll 33 = .ok (.istore_n 2, 1) := by decide +kernel
theorem dX10_promotesAll_34 : decode cX10_promotesAll 34 = .ok (.iload_n 2, 1) := by decide +kernel
theorem dX10_promotesAll_35 : decode cX10_promotesAll 35 = .ok (.aload_n 0, 1) := by decide +kernel
theorem dX10_promotesAll_36 : decode cX10_promotesAll 36 = .ok (.getfield 67, 3) := by decide +kernel
theorem dX10_promotesAll_39 : decode cX10_promotesAll 39 = .ok (.if_icmp .ge 82, 3) := by decide +kernel
theorem dX10_promotesAll_42 : decode cX10_promotesAll 42 = .ok (.iconst (-1), 1) := by decide +kernel
theorem dX10_promotesAll_43 : decode cX10_promotesAll 43 = .ok (.istore_n 3, 1) := by decide +kernel
theorem dX10_promotesAll_44 : decode cX10_promotesAll 44 = .ok (.iconst 0, 1) := by decide +kernel
theorem dX10_promotesAll_45 : decode cX10_promotesAll 45 = .ok (.istore 4, 2) := by decide +kernel
theorem dX10_promotesAll_47 : decode cX10_promotesAll 47 = .ok (.iload 4, 2) := by decide +kernel
theorem dX10_promotesAll_49 : decode cX10_promotesAll 49 = .ok (.aload_n 0, 1) := by decide +kernel
theorem dX10_promotesAll_50 : decode cX10_promotesAll 50 = .ok (.getfield 67, 3) := by decide +kernel
theorem dX10_promotesAll_53 : decode cX10_promotesAll 53 = .ok (.if_icmp .ge 51, 3) := by decide +kernel
theorem dX10_promotesAll_56 : decode cX10_promotesAll 56 = .ok (.iload_n 1, 1) := by decide +kernel
theorem dX10_promotesAll_57 : decode cX10_promotesAll 57 = .ok (.iload 4, 2) := by decide +kernel
theorem dX10_promotesAll_59 : decode cX10_promotesAll 59 = .ok (.invokestatic 255, 3) := by decide +kernel
theorem dX10_promotesAll_62 : decode cX10_promotesAll 62 = .ok (.ifCond .ne 36, 3) := by decide +kernel
theorem dX10_promotesAll_65 : decode cX10_promotesAll 65 = .ok (.iload_n 3, 1) := by decide +kernel
theorem dX10_promotesAll_66 : decode cX10_promotesAll 66 = .ok (.ifCond .lt 29, 3) := by decide +kernel
theorem dX10_promotesAll_69 : decode cX10_promotesAll 69 = .ok (.aload_n 0, 1) := by decide +kernel
theorem dX10_promotesAll_70 : decode cX10_promotesAll 70 = .ok (.getfield 39, 3) := by decide +kernel
theorem dX10_promotesAll_73 : decode cX10_promotesAll 73 = .ok (.aload_n 0, 1) := by decide +kernel
theorem dX10_promotesAll_74 : decode cX10_promotesAll 74 = .ok (.getfield 70, 3) := by decide +kernel
theorem dX10_promotesAll_77 : decode cX10_promotesAll 77 = .ok (.iload 4, 2) := by decide +kernel
theorem dX10_promotesAll_79 : decode cX10_promotesAll 79 = .ok (.iaload, 1) := by decide +kernel
theorem dX10_promotesAll_80 : decode cX10_promotesAll 80 = .ok (.iaload, 1) := by decide +kernel
theorem dX10_promotesAll_81 : decode cX10_promotesAll 81 = .ok (.aload_n 0, 1) := by decide +kernel
theorem dX10_promotesAll_82 : decode cX10_promotesAll 82 = .ok (.getfield 39, 3) := by decide +kernel
theorem dX10_promotesAll_85 : decode cX10_promotesAll 85 = .ok (.aload_n 0, 1) := by decide +kernel
theorem dX10_promotesAll_86 : decode cX10_promotesAll 86 = .ok (.getfield 70, 3) := by decide +kernel
theorem dX10_promotesAll_89 : decode cX10_promotesAll 89 = .ok (.iload_n 3, 1) := by decide +kernel
theorem dX10_promotesAll_90 : decode cX10_promotesAll 90 = .ok (.iaload, 1) := by decide +kernel
theorem dX10_promotesAll_91 : decode cX10_promotesAll 91 = .ok (.iaload, 1) := by decide +kernel
theorem dX10_promotesAll_92 : decode cX10_promotesAll 92 = .ok (.if_icmp .le 6, 3) := by decide +kernel
theorem dX10_promotesAll_95 : decode cX10_promotesAll 95 = .ok (.iload 4, 2) := by decide +kernel
theorem dX10_promotesAll_97 : decode cX10_promotesAll 97 = .ok (.istore_n 3, 1) := by decide +kernel
theorem dX10_promotesAll_98 : decode cX10_promotesAll 98 = .ok (.iinc 4 1, 3) := by decide +kernel
theorem dX10_promotesAll_101 : decode cX10_promotesAll 101 = .ok (.goto (-54), 3) := by decide +kernel
theorem dX10_promotesAll_104 : decode cX10_promotesAll 104 = .ok (.iload_n 1, 1) := by decide +kernel
theorem dX10_promotesAll_105 : decode cX10_promotesAll 105 = .ok (.iconst 1, 1) := by decide +kernel
theorem dX10_promotesAll_106 : decode cX10_promotesAll 106 = .ok (.iload_n 3, 1) := by decide +kernel
theorem dX10_promotesAll_107 : decode cX10_promotesAll 107 = .ok (.ishl, 1) := by decide +kernel
theorem dX10_promotesAll_108 : decode cX10_promotesAll 108 = .ok (.ior, 1) := by decide +kernel
theorem dX10_promotesAll_109 : decode cX10_promotesAll 109 = .ok (.istore_n 1, 1) := by decide +kernel
theorem dX10_promotesAll_110 : decode cX10_promotesAll 110 = .ok (.aload_n 0, 1) := by decide +kernel
theorem dX10_promotesAll_111 : decode cX10_promotesAll 111 = .ok (.iload_n 3, 1) := by decide +kernel
theorem dX10_promotesAll_112 : decode cX10_promotesAll 112 = .ok (.invokevirtual 321, 3) := by decide +kernel
theorem dX10_promotesAll_115 : decode cX10_promotesAll 115 = .ok (.iinc 2 1, 3) := by decide +kernel
theorem dX10_promotesAll_118 : decode cX10_promotesAll 118 = .ok (.goto (-84), 3) := by decide +kernel
theorem dX10_promotesAll_121 : decode cX10_promotesAll 121 = .ok (.return_, 1) := by decide +kernel
theorem dX10_homes_0 : decode cX10_homes 0 = .ok (.iconst 0, 1) := by decide +kernel
theorem dX10_homes_1 : decode cX10_homes 1 = .ok (.istore_n 2, 1) := by decide +kernel
theorem dX10_homes_2 : decode cX10_homes 2 = .ok (.iconst 0, 1) := by decide +kernel
theorem dX10_homes_3 : decode cX10_homes 3 = .ok (.istore_n 3, 1) := by decide +kernel
theorem dX10_homes_4 : decode cX10_homes 4 = .ok (.iload_n 3, 1) := by decide +kernel
theorem dX10_homes_5 : decode cX10_homes 5 = .ok (.bipush 12, 2) := by decide +kernel
theorem dX10_homes_7 : decode cX10_homes 7 = .ok (.if_icmp .ge 27, 3) := by decide +kernel
theorem dX10_homes_10 : decode cX10_homes 10 = .ok (.iload_n 2, 1) := by decide +kernel
theorem dX10_homes_11 : decode cX10_homes 11 = .ok (.aload_n 0, 1) := by decide +kernel
theorem dX10_homes_12 : decode cX10_homes 12 = .ok (.getfield 85, 3) := by decide +kernel
theorem dX10_homes_15 : decode cX10_homes 15 = .ok (.iload_n 3, 1) := by decide +kernel
theorem dX10_homes_16 : decode cX10_homes 16 = .ok (.iaload, 1) := by decide +kernel
theorem dX10_homes_17 : decode cX10_homes 17 = .ok (.iload_n 1, 1) := by decide +kernel
theorem dX10_homes_18 : decode cX10_homes 18 = .ok (.if_icmp .ne 7, 3) := by decide +kernel
theorem dX10_homes_21 : decode cX10_homes 21 = .ok (.iconst 1, 1) := by decide +kernel
theorem dX10_homes_22 : decode cX10_homes 22 = .ok (.goto 4, 3) := by decide +kernel
theorem dX10_homes_25 : decode cX10_homes 25 = .ok (.iconst 0, 1) := by decide +kernel
theorem dX10_homes_26 : decode cX10_homes 26 = .ok (.iadd, 1) := by decide +kernel
theorem dX10_homes_27 : decode cX10_homes 27 = .ok (.istore_n 2, 1) := by decide +kernel
theorem dX10_homes_28 : decode cX10_homes 28 = .ok (.iinc 3 1, 3) := by decide +kernel
theorem dX10_homes_31 : decode cX10_homes 31 = .ok (.goto (-27), 3) := by decide +kernel
theorem dX10_homes_34 : decode cX10_homes 34 = .ok (.iload_n 2, 1) := by decide +kernel
theorem dX10_homes_35 : decode cX10_homes 35 = .ok (.ireturn, 1) := by decide +kernel
theorem dX10_plan_0 : decode cX10_plan 0 = .ok (.aload_n 0, 1) := by decide +kernel
theorem dX10_plan_1 : decode cX10_plan 1 = .ok (.iconst 0, 1) := by decide +kernel
theorem dX10_plan_2 : decode cX10_plan 2 = .ok (.putfield 1, 3) := by decide +kernel
theorem dX10_plan_5 : decode cX10_plan 5 = .ok (.iload_n 1, 1) := by decide +kernel
theorem dX10_plan_6 : decode cX10_plan 6 = .ok (.iconst 1, 1) := by decide +kernel
theorem dX10_plan_7 : decode cX10_plan 7 = .ok (.bipush 12, 2) := by decide +kernel
theorem dX10_plan_9 : decode cX10_plan 9 = .ok (.invokestatic 7, 3) := by decide +kernel
theorem dX10_plan_12 : decode cX10_plan 12 = .ok (.ifCond .ne 9, 3) := by decide +kernel
theorem dX10_plan_15 : decode cX10_plan 15 = .ok (.aload_n 0, 1) := by decide +kernel
theorem dX10_plan_16 : decode cX10_plan 16 = .ok (.iconst 1, 1) := by decide +kernel
theorem dX10_plan_17 : decode cX10_plan 17 = .ok (.invokevirtual 217, 3) := by decide +kernel
theorem dX10_plan_20 : decode cX10_plan 20 = .ok (.ireturn, 1) := by decide +kernel
theorem dX10_plan_21 : decode cX10_plan 21 = .ok (.aload_n 0, 1) := by decide +kernel
theorem dX10_plan_22 : decode cX10_plan 22 = .ok (.iload_n 1, 1) := by decide +kernel
theorem dX10_plan_23 : decode cX10_plan 23 = .ok (.putfield 76, 3) := by decide +kernel
theorem dX10_plan_26 : decode cX10_plan 26 = .ok (.aload_n 0, 1) := by decide +kernel
theorem dX10_plan_27 : decode cX10_plan 27 = .ok (.invokevirtual 325, 3) := by decide +kernel
theorem dX10_plan_30 : decode cX10_plan 30 = .ok (.aload_n 0, 1) := by decide +kernel
theorem dX10_plan_31 : decode cX10_plan 31 = .ok (.invokevirtual 328, 3) := by decide +kernel
theorem dX10_plan_34 : decode cX10_plan 34 = .ok (.iload_n 1, 1) := by decide +kernel
theorem dX10_plan_35 : decode cX10_plan 35 = .ok (.if_icmp .le 11, 3) := by decide +kernel
theorem dX10_plan_38 : decode cX10_plan 38 = .ok (.aload_n 0, 1) := by decide +kernel
theorem dX10_plan_39 : decode cX10_plan 39 = .ok (.iload_n 2, 1) := by decide +kernel
theorem dX10_plan_40 : decode cX10_plan 40 = .ok (.invokevirtual 331, 3) := by decide +kernel
theorem dX10_plan_43 : decode cX10_plan 43 = .ok (.goto (-13), 3) := by decide +kernel
theorem dX10_plan_46 : decode cX10_plan 46 = .ok (.aload_n 0, 1) := by decide +kernel
theorem dX10_plan_47 : decode cX10_plan 47 = .ok (.iconst 0, 1) := by decide +kernel
theorem dX10_plan_48 : decode cX10_plan 48 = .ok (.putfield 79, 3) := by decide +kernel
theorem dX10_plan_51 : decode cX10_plan 51 = .ok (.iconst 0, 1) := by decide +kernel
theorem dX10_plan_52 : decode cX10_plan 52 = .ok (.istore_n 3, 1) := by decide +kernel
theorem dX10_plan_53 : decode cX10_plan 53 = .ok (.iload_n 3, 1) := by decide +kernel
theorem dX10_plan_54 : decode cX10_plan 54 = .ok (.bipush 12, 2) := by decide +kernel
theorem dX10_plan_56 : decode cX10_plan 56 = .ok (.if_icmp .ge 57, 3) := by decide +kernel
theorem dX10_plan_59 : decode cX10_plan 59 = .ok (.aload_n 0, 1) := by decide +kernel
theorem dX10_plan_60 : decode cX10_plan 60 = .ok (.getfield 85, 3) := by decide +kernel
theorem dX10_plan_63 : decode cX10_plan 63 = .ok (.iload_n 3, 1) := by decide +kernel
theorem dX10_plan_64 : decode cX10_plan 64 = .ok (.iaload, 1) := by decide +kernel
theorem dX10_plan_65 : decode cX10_plan 65 = .ok (.iconst 1, 1) := by decide +kernel
theorem dX10_plan_66 : decode cX10_plan 66 = .ok (.if_icmp .eq 6, 3) := by decide +kernel
theorem dX10_plan_69 : decode cX10_plan 69 = .ok (.goto 38, 3) := by decide +kernel
theorem dX10_plan_72 : decode cX10_plan 72 = .ok (.aload_n 0, 1) := by decide +kernel
theorem dX10_plan_73 : decode cX10_plan 73 = .ok (.getfield 91, 3) := by decide +kernel
theorem dX10_plan_76 : decode cX10_plan 76 = .ok (.iload_n 3, 1) := by decide +kernel
theorem dX10_plan_77 : decode cX10_plan 77 = .ok (.aload_n 0, 1) := by decide +kernel
theorem dX10_plan_78 : decode cX10_plan 78 = .ok (.iload_n 3, 1) := by decide +kernel
theorem dX10_plan_79 : decode cX10_plan 79 = .ok (.iconst 1, 1) := by decide +kernel
theorem dX10_plan_80 : decode cX10_plan 80 = .ok (.aload_n 0, 1) := by decide +kernel
theorem dX10_plan_81 : decode cX10_plan 81 = .ok (.getfield 91, 3) := by decide +kernel
theorem dX10_plan_84 : decode cX10_plan 84 = .ok (.invokevirtual 298, 3) := by decide +kernel
theorem dX10_plan_87 : decode cX10_plan 87 = .ok (.iastore, 1) := by decide +kernel
theorem dX10_plan_88 : decode cX10_plan 88 = .ok (.aload_n 0, 1) := by decide +kernel
theorem dX10_plan_89 : decode cX10_plan 89 = .ok (.aload_n 0, 1) := by decide +kernel
theorem dX10_plan_90 : decode cX10_plan 90 = .ok (.getfield 79, 3) := by decide +kernel
theorem dX10_plan_93 : decode cX10_plan 93 = .ok (.aload_n 0, 1) := by decide +kernel
theorem dX10_plan_94 : decode cX10_plan 94 = .ok (.getfield 91, 3) := by decide +kernel
theorem dX10_plan_97 : decode cX10_plan 97 = .ok (.iload_n 3, 1) := by decide +kernel
theorem dX10_plan_98 : decode cX10_plan 98 = .ok (.iaload, 1) := by decide +kernel
theorem dX10_plan_99 : decode cX10_plan 99 = .ok (.iconst 1, 1) := by decide +kernel
theorem dX10_plan_100 : decode cX10_plan 100 = .ok (.iadd, 1) := by decide +kernel
theorem dX10_plan_101 : decode cX10_plan 101 = .ok (.invokestatic 268, 3) := by decide +kernel
theorem dX10_plan_104 : decode cX10_plan 104 = .ok (.putfield 79, 3) := by decide +kernel
theorem dX10_plan_107 : decode cX10_plan 107 = .ok (.iinc 3 1, 3) := by decide +kernel
theorem dX10_plan_110 : decode cX10_plan 110 = .ok (.goto (-57), 3) := by decide +kernel
theorem dX10_plan_113 : decode cX10_plan 113 = .ok (.aload_n 0, 1) := by decide +kernel
theorem dX10_plan_114 : decode cX10_plan 114 = .ok (.invokevirtual 335, 3) := by decide +kernel
theorem dX10_plan_117 : decode cX10_plan 117 = .ok (.aload_n 0, 1) := by decide +kernel
theorem dX10_plan_118 : decode cX10_plan 118 = .ok (.iconst 1, 1) := by decide +kernel
theorem dX10_plan_119 : decode cX10_plan 119 = .ok (.putfield 57, 3) := by decide +kernel
theorem dX10_plan_122 : decode cX10_plan 122 = .ok (.aload_n 0, 1) := by decide +kernel
theorem dX10_plan_123 : decode cX10_plan 123 = .ok (.iconst 1, 1) := by decide +kernel
theorem dX10_plan_124 : decode cX10_plan 124 = .ok (.invokevirtual 338, 3) := by decide +kernel
theorem dX10_plan_127 : decode cX10_plan 127 = .ok (.ireturn, 1) := by decide +kernel
theorem dX10_home_0 : decode cX10_home 0 = .ok (.aload_n 0, 1) := by decide +kernel
theorem dX10_home_1 : decode cX10_home 1 = .ok (.iconst 0, 1) := by decide +kernel
theorem dX10_home_2 : decode cX10_home 2 = .ok (.putfield 1, 3) := by decide +kernel
theorem dX10_home_5 : decode cX10_home 5 = .ok (.iload_n 1, 1) := by decide +kernel
theorem dX10_home_6 : decode cX10_home 6 = .ok (.invokestatic 225, 3) := by decide +kernel
theorem dX10_home_9 : decode cX10_home 9 = .ok (.ifCond .eq 12, 3) := by decide +kernel
theorem dX10_home_12 : decode cX10_home 12 = .ok (.iload_n 2, 1) := by decide +kernel
theorem dX10_home_13 : decode cX10_home 13 = .ok (.iconst 0, 1) := by decide +kernel
theorem dX10_home_14 : decode cX10_home 14 = .ok (.iconst 2, 1) := by decide +kernel
theorem dX10_home_15 : decode cX10_home 15 = .ok (.invokestatic 7, 3) := by decide +kernel
theorem dX10_home_18 : decode cX10_home 18 = .ok (.ifCond .ne 9, 3) := by decide +kernel
theorem dX10_home_21 : decode cX10_home 21 = .ok (.aload_n 0, 1) := by decide +kernel
theorem dX10_home_22 : decode cX10_home 22 = .ok (.iconst 1, 1) := by decide +kernel
theorem dX10_home_23 : decode cX10_home 23 = .ok (.invokevirtual 217, 3) := by decide +kernel
theorem dX10_home_26 : decode cX10_home 26 = .ok (.ireturn, 1) := by decide +kernel
theorem dX10_home_27 : decode cX10_home 27 = .ok (.aload_n 0, 1) := by decide +kernel
theorem dX10_home_28 : decode cX10_home 28 = .ok (.getfield 57, 3) := by decide +kernel
theorem dX10_home_31 : decode cX10_home 31 = .ok (.ifCond .ne 9, 3) := by decide +kernel
theorem dX10_home_34 : decode cX10_home 34 = .ok (.aload_n 0, 1) := by decide +kernel
theorem dX10_home_35 : decode cX10_home 35 = .ok (.iconst 2, 1) := by decide +kernel
theorem dX10_home_36 : decode cX10_home 36 = .ok (.invokevirtual 217, 3) := by decide +kernel
theorem dX10_home_39 : decode cX10_home 39 = .ok (.ireturn, 1) := by decide +kernel
theorem dX10_home_40 : decode cX10_home 40 = .ok (.iload_n 2, 1) := by decide +kernel
theorem dX10_home_41 : decode cX10_home 41 = .ok (.ifCond .ne 12, 3) := by decide +kernel
theorem dX10_home_44 : decode cX10_home 44 = .ok (.aload_n 0, 1) := by decide +kernel
theorem dX10_home_45 : decode cX10_home 45 = .ok (.getfield 85, 3) := by decide +kernel
theorem dX10_home_48 : decode cX10_home 48 = .ok (.iload_n 1, 1) := by decide +kernel
theorem dX10_home_49 : decode cX10_home 49 = .ok (.iaload, 1) := by decide +kernel
theorem dX10_home_50 : decode cX10_home 50 = .ok (.goto 23, 3) := by decide +kernel
theorem dX10_home_53 : decode cX10_home 53 = .ok (.iload_n 2, 1) := by decide +kernel
theorem dX10_home_54 : decode cX10_home 54 = .ok (.iconst 1, 1) := by decide +kernel
theorem dX10_home_55 : decode cX10_home 55 = .ok (.if_icmp .ne 12, 3) := by decide +kernel
theorem dX10_home_58 : decode cX10_home 58 = .ok (.aload_n 0, 1) := by decide +kernel
theorem dX10_home_59 : decode cX10_home 59 = .ok (.getfield 88, 3) := by decide +kernel
theorem dX10_home_62 : decode cX10_home 62 = .ok (.iload_n 1, 1) := by decide +kernel
theorem dX10_home_63 : decode cX10_home 63 = .ok (.iaload, 1) := by decide +kernel
theorem dX10_home_64 : decode cX10_home 64 = .ok (.goto 9, 3) := by decide +kernel
theorem dX10_home_67 : decode cX10_home 67 = .ok (.aload_n 0, 1) := by decide +kernel
theorem dX10_home_68 : decode cX10_home 68 = .ok (.getfield 91, 3) := by decide +kernel
theorem dX10_home_71 : decode cX10_home 71 = .ok (.iload_n 1, 1) := by decide +kernel
theorem dX10_home_72 : decode cX10_home 72 = .ok (.iaload, 1) := by decide +kernel
theorem dX10_home_73 : decode cX10_home 73 = .ok (.ireturn, 1) := by decide +kernel
theorem dX10_promoted_0 : decode cX10_promoted 0 = .ok (.aload_n 0, 1) := by decide +kernel
theorem dX10_promoted_1 : decode cX10_promoted 1 = .ok (.iconst 0, 1) := by decide +kernel
theorem dX10_promoted_2 : decode cX10_promoted 2 = .ok (.putfield 1, 3) := by decide +kernel
theorem dX10_promoted_5 : decode cX10_promoted 5 = .ok (.iload_n 1, 1) := by decide +kernel
theorem dX10_promoted_6 : decode cX10_promoted 6 = .ok (.invokestatic 225, 3) := by decide +kernel
theorem dX10_promoted_9 : decode cX10_promoted 9 = .ok (.ifCond .ne 9, 3) := by decide +kernel
theorem dX10_promoted_12 : decode cX10_promoted 12 = .ok (.aload_n 0, 1) := by decide +kernel
theorem dX10_promoted_13 : decode cX10_promoted 13 = .ok (.iconst 1, 1) := by decide +kernel
theorem dX10_promoted_14 : decode cX10_promoted 14 = .ok (.invokevirtual 217, 3) := by decide +kernel
theorem dX10_promoted_17 : decode cX10_promoted 17 = .ok (.ireturn, 1) := by decide +kernel
theorem dX10_promoted_18 : decode cX10_promoted 18 = .ok (.aload_n 0, 1) := by decide +kernel
theorem dX10_promoted_19 : decode cX10_promoted 19 = .ok (.invokevirtual 276, 3) := by decide +kernel
theorem dX10_promoted_22 : decode cX10_promoted 22 = .ok (.iload_n 2, 1) := by decide +kernel
theorem dX10_promoted_23 : decode cX10_promoted 23 = .ok (.iconst 0, 1) := by decide +kernel
theorem dX10_promoted_24 : decode cX10_promoted 24 = .ok (.aload_n 0, 1) := by decide +kernel
theorem dX10_promoted_25 : decode cX10_promoted 25 = .ok (.getfield 67, 3) := by decide +kernel
theorem dX10_promoted_28 : decode cX10_promoted 28 = .ok (.iconst 1, 1) := by decide +kernel
theorem dX10_promoted_29 : decode cX10_promoted 29 = .ok (.isub, 1) := by decide +kernel
theorem dX10_promoted_30 : decode cX10_promoted 30 = .ok (.invokestatic 7, 3) := by decide +kernel
theorem dX10_promoted_33 : decode cX10_promoted 33 = .ok (.ifCond .ne 9, 3) := by decide +kernel
theorem dX10_promoted_36 : decode cX10_promoted 36 = .ok (.aload_n 0, 1) := by decide +kernel
theorem dX10_promoted_37 : decode cX10_promoted 37 = .ok (.iconst 2, 1) := by decide +kernel
theorem dX10_promoted_38 : decode cX10_promoted 38 = .ok (.invokevirtual 217, 3) := by decide +kernel
theorem dX10_promoted_41 : decode cX10_promoted 41 = .ok (.ireturn, 1) := by decide +kernel
theorem dX10_promoted_42 : decode cX10_promoted 42 = .ok (.aload_n 0, 1) := by decide +kernel
theorem dX10_promoted_43 : decode cX10_promoted 43 = .ok (.getfield 57, 3) := by decide +kernel
theorem dX10_promoted_46 : decode cX10_promoted 46 = .ok (.ifCond .ne 9, 3) := by decide +kernel
theorem dX10_promoted_49 : decode cX10_promoted 49 = .ok (.aload_n 0, 1) := by decide +kernel
theorem dX10_promoted_50 : decode cX10_promoted 50 = .ok (.iconst 3, 1) := by decide +kernel
theorem dX10_promoted_51 : decode cX10_promoted 51 = .ok (.invokevirtual 217, 3) := by decide +kernel
theorem dX10_promoted_54 : decode cX10_promoted 54 = .ok (.ireturn, 1) := by decide +kernel
theorem dX10_promoted_55 : decode cX10_promoted 55 = .ok (.aload_n 0, 1) := by decide +kernel
theorem dX10_promoted_56 : decode cX10_promoted 56 = .ok (.getfield 94, 3) := by decide +kernel
theorem dX10_promoted_59 : decode cX10_promoted 59 = .ok (.bipush 8, 2) := by decide +kernel
theorem dX10_promoted_61 : decode cX10_promoted 61 = .ok (.iload_n 1, 1) := by decide +kernel
theorem dX10_promoted_62 : decode cX10_promoted 62 = .ok (.imul, 1) := by decide +kernel
theorem dX10_promoted_63 : decode cX10_promoted 63 = .ok (.iload_n 2, 1) := by decide +kernel
theorem dX10_promoted_64 : decode cX10_promoted 64 = .ok (.iadd, 1) := by decide +kernel
theorem dX10_promoted_65 : decode cX10_promoted 65 = .ok (.iaload, 1) := by decide +kernel
theorem dX10_promoted_66 : decode cX10_promoted 66 = .ok (.istore_n 3, 1) := by decide +kernel
theorem dX10_promoted_67 : decode cX10_promoted 67 = .ok (.iload_n 3, 1) := by decide +kernel
theorem dX10_promoted_68 : decode cX10_promoted 68 = .ok (.ifCond .ge 11, 3) := by decide +kernel
theorem dX10_promoted_71 : decode cX10_promoted 71 = .ok (.aload_n 0, 1) := by decide +kernel
theorem dX10_promoted_72 : decode cX10_promoted 72 = .ok (.iconst 4, 1) := by decide +kernel
theorem dX10_promoted_73 : decode cX10_promoted 73 = .ok (.invokevirtual 217, 3) := by decide +kernel
theorem dX10_promoted_76 : decode cX10_promoted 76 = .ok (.goto 4, 3) := by decide +kernel
theorem dX10_promoted_79 : decode cX10_promoted 79 = .ok (.iload_n 3, 1) := by decide +kernel
theorem dX10_promoted_80 : decode cX10_promoted 80 = .ok (.ireturn, 1) := by decide +kernel
theorem dX10_promotions_0 : decode cX10_promotions 0 = .ok (.iconst 0, 1) := by decide +kernel
theorem dX10_promotions_1 : decode cX10_promotions 1 = .ok (.istore_n 1, 1) := by decide +kernel
theorem dX10_promotions_2 : decode cX10_promotions 2 = .ok (.iconst 0, 1) := by decide +kernel
theorem dX10_promotions_3 : decode cX10_promotions 3 = .ok (.istore_n 2, 1) := by decide +kernel
theorem dX10_promotions_4 : decode cX10_promotions 4 = .ok (.iload_n 2, 1) := by decide +kernel
theorem dX10_promotions_5 : decode cX10_promotions 5 = .ok (.bipush 96, 2) := by decide +kernel
theorem dX10_promotions_7 : decode cX10_promotions 7 = .ok (.if_icmp .ge 26, 3) := by decide +kernel
theorem dX10_promotions_10 : decode cX10_promotions 10 = .ok (.iload_n 1, 1) := by decide +kernel
theorem dX10_promotions_11 : decode cX10_promotions 11 = .ok (.aload_n 0, 1) := by decide +kernel
theorem dX10_promotions_12 : decode cX10_promotions 12 = .ok (.getfield 94, 3) := by decide +kernel
theorem dX10_promotions_15 : decode cX10_promotions 15 = .ok (.iload_n 2, 1) := by decide +kernel
theorem dX10_promotions_16 : decode cX10_promotions 16 = .ok (.iaload, 1) := by decide +kernel
theorem dX10_promotions_17 : decode cX10_promotions 17 = .ok (.ifCond .lt 7, 3) := by decide +kernel
theorem dX10_promotions_20 : decode cX10_promotions 20 = .ok (.iconst 1, 1) := by decide +kernel
theorem dX10_promotions_21 : decode cX10_promotions 21 = .ok (.goto 4, 3) := by decide +kernel
theorem dX10_promotions_24 : decode cX10_promotions 24 = .ok (.iconst 0, 1) := by decide +kernel
theorem dX10_promotions_25 : decode cX10_promotions 25 = .ok (.iadd, 1) := by decide +kernel
theorem dX10_promotions_26 : decode cX10_promotions 26 = .ok (.istore_n 1, 1) := by decide +kernel
theorem dX10_promotions_27 : decode cX10_promotions 27 = .ok (.iinc 2 1, 3) := by decide +kernel
theorem dX10_promotions_30 : decode cX10_promotions 30 = .ok (.goto (-26), 3) := by decide +kernel
theorem dX10_promotions_33 : decode cX10_promotions 33 = .ok (.iload_n 1, 1) := by decide +kernel
theorem dX10_promotions_34 : decode cX10_promotions 34 = .ok (.ireturn, 1) := by decide +kernel
theorem dX10_costs_0 : decode cX10_costs 0 = .ok (.aload_n 0, 1) := by decide +kernel
theorem dX10_costs_1 : decode cX10_costs 1 = .ok (.invokevirtual 252, 3) := by decide +kernel
theorem dX10_costs_4 : decode cX10_costs 4 = .ok (.aload_n 0, 1) := by decide +kernel
theorem dX10_costs_5 : decode cX10_costs 5 = .ok (.getfield 82, 3) := by decide +kernel
theorem dX10_costs_8 : decode cX10_costs 8 = .ok (.ineg, 1) := by decide +kernel
theorem dX10_costs_9 : decode cX10_costs 9 = .ok (.istore_n 1, 1) := by decide +kernel
theorem dX10_costs_10 : decode cX10_costs 10 = .ok (.iconst 0, 1) := by decide +kernel
theorem dX10_costs_11 : decode cX10_costs 11 = .ok (.istore_n 2, 1) := by decide +kernel
theorem dX10_costs_12 : decode cX10_costs 12 = .ok (.iload_n 2, 1) := by decide +kernel
theorem dX10_costs_13 : decode cX10_costs 13 = .ok (.bipush 12, 2) := by decide +kernel
theorem dX10_costs_15 : decode cX10_costs 15 = .ok (.if_icmp .ge 53, 3) := by decide +kernel
theorem dX10_costs_18 : decode cX10_costs 18 = .ok (.iload_n 1, 1) := by decide +kernel
theorem dX10_costs_19 : decode cX10_costs 19 = .ok (.aload_n 0, 1) := by decide +kernel
theorem dX10_costs_20 : decode cX10_costs 20 = .ok (.getfield 85, 3) := by decide +kernel
theorem dX10_costs_23 : decode cX10_costs 23 = .ok (.iload_n 2, 1) := by decide +kernel
theorem dX10_costs_24 : decode cX10_costs 24 = .ok (.iaload, 1) := by decide +kernel
theorem dX10_costs_25 : decode cX10_costs 25 = .ok (.iconst 1, 1) := by decide +kernel
theorem dX10_costs_26 : decode cX10_costs 26 = .ok (.if_icmp .ne 11, 3) := by decide +kernel
theorem dX10_costs_29 : decode cX10_costs 29 = .ok (.aload_n 0, 1) := by decide +kernel
theorem dX10_costs_30 : decode cX10_costs 30 = .ok (.iload_n 2, 1) := by decide +kernel
theorem dX10_costs_31 : decode cX10_costs 31 = .ok (.invokevirtual 292, 3) := by decide +kernel
theorem dX10_costs_34 : decode cX10_costs 34 = .ok (.goto 26, 3) := by decide +kernel
theorem dX10_costs_37 : decode cX10_costs 37 = .ok (.aload_n 0, 1) := by decide +kernel
theorem dX10_costs_38 : decode cX10_costs 38 = .ok (.getfield 85, 3) := by decide +kernel
theorem dX10_costs_41 : decode cX10_costs 41 = .ok (.iload_n 2, 1) := by decide +kernel
theorem dX10_costs_42 : decode cX10_costs 42 = .ok (.iaload, 1) := by decide +kernel
theorem dX10_costs_43 : decode cX10_costs 43 = .ok (.iconst 2, 1) := by decide +kernel
theorem dX10_costs_44 : decode cX10_costs 44 = .ok (.if_icmp .ne 15, 3) := by decide +kernel
theorem dX10_costs_47 : decode cX10_costs 47 = .ok (.aload_n 0, 1) := by decide +kernel
theorem dX10_costs_48 : decode cX10_costs 48 = .ok (.iload_n 2, 1) := by decide +kernel
theorem dX10_costs_49 : decode cX10_costs 49 = .ok (.aload_n 0, 1) := by decide +kernel
theorem dX10_costs_50 : decode cX10_costs 50 = .ok (.invokevirtual 282, 3) := by decide +kernel
theorem dX10_costs_53 : decode cX10_costs 53 = .ok (.invokevirtual 286, 3) := by decide +kernel
theorem dX10_costs_56 : decode cX10_costs 56 = .ok (.goto 4, 3) := by decide +kernel
theorem dX10_costs_59 : decode cX10_costs 59 = .ok (.iconst 0, 1) := by decide +kernel
theorem dX10_costs_60 : decode cX10_costs 60 = .ok (.iadd, 1) := by decide +kernel
theorem dX10_costs_61 : decode cX10_costs 61 = .ok (.istore_n 1, 1) := by decide +kernel
theorem dX10_costs_62 : decode cX10_costs 62 = .ok (.iinc 2 1, 3) := by decide +kernel
theorem dX10_costs_65 : decode cX10_costs 65 = .ok (.goto (-53), 3) := by decide +kernel
theorem dX10_costs_68 : decode cX10_costs 68 = .ok (.iload_n 1, 1) := by decide +kernel
theorem dX10_costs_69 : decode cX10_costs 69 = .ok (.ireturn, 1) := by decide +kernel
theorem dX10_planned_0 : decode cX10_planned 0 = .ok (.aload_n 0, 1) := by decide +kernel
theorem dX10_planned_1 : decode cX10_planned 1 = .ok (.iconst 0, 1) := by decide +kernel
theorem dX10_planned_2 : decode cX10_planned 2 = .ok (.putfield 1, 3) := by decide +kernel
theorem dX10_planned_5 : decode cX10_planned 5 = .ok (.iload_n 1, 1) := by decide +kernel
theorem dX10_planned_6 : decode cX10_planned 6 = .ok (.iconst 0, 1) := by decide +kernel
theorem dX10_planned_7 : decode cX10_planned 7 = .ok (.iconst 4, 1) := by decide +kernel
theorem dX10_planned_8 : decode cX10_planned 8 = .ok (.invokestatic 7, 3) := by decide +kernel
theorem dX10_planned_11 : decode cX10_planned 11 = .ok (.ifCond .ne 9, 3) := by decide +kernel
theorem dX10_planned_14 : decode cX10_planned 14 = .ok (.aload_n 0, 1) := by decide +kernel
theorem dX10_planned_15 : decode cX10_planned 15 = .ok (.iconst 1, 1) := by decide +kernel
theorem dX10_planned_16 : decode cX10_planned 16 = .ok (.invokevirtual 217, 3) := by decide +kernel
theorem dX10_planned_19 : decode cX10_planned 19 = .ok (.ireturn, 1) := by decide +kernel
theorem dX10_planned_20 : decode cX10_planned 20 = .ok (.aload_n 0, 1) := by decide +kernel
theorem dX10_planned_21 : decode cX10_planned 21 = .ok (.getfield 57, 3) := by decide +kernel
theorem dX10_planned_24 : decode cX10_planned 24 = .ok (.ifCond .ne 9, 3) := by decide +kernel
theorem dX10_planned_27 : decode cX10_planned 27 = .ok (.aload_n 0, 1) := by decide +kernel
theorem dX10_planned_28 : decode cX10_planned 28 = .ok (.iconst 2, 1) := by decide +kernel
theorem dX10_planned_29 : decode cX10_planned 29 = .ok (.invokevirtual 217, 3) := by decide +kernel
theorem dX10_planned_32 : decode cX10_planned 32 = .ok (.ireturn, 1) := by decide +kernel
theorem dX10_planned_33 : decode cX10_planned 33 = .ok (.iload_n 1, 1) := by decide +kernel
theorem dX10_planned_34 : decode cX10_planned 34 = .ok (.tableswitch 51 0 3 #[30, 35, 40, 46], 30) := by decide +kernel
theorem dX10_planned_64 : decode cX10_planned 64 = .ok (.aload_n 0, 1) := by decide +kernel
theorem dX10_planned_65 : decode cX10_planned 65 = .ok (.getfield 76, 3) := by decide +kernel
theorem dX10_planned_68 : decode cX10_planned 68 = .ok (.ireturn, 1) := by decide +kernel
theorem dX10_planned_69 : decode cX10_planned 69 = .ok (.aload_n 0, 1) := by decide +kernel
theorem dX10_planned_70 : decode cX10_planned 70 = .ok (.getfield 79, 3) := by decide +kernel
theorem dX10_planned_73 : decode cX10_planned 73 = .ok (.ireturn, 1) := by decide +kernel
theorem dX10_planned_74 : decode cX10_planned 74 = .ok (.aload_n 0, 1) := by decide +kernel
theorem dX10_planned_75 : decode cX10_planned 75 = .ok (.iconst 2, 1) := by decide +kernel
theorem dX10_planned_76 : decode cX10_planned 76 = .ok (.invokevirtual 338, 3) := by decide +kernel
theorem dX10_planned_79 : decode cX10_planned 79 = .ok (.ireturn, 1) := by decide +kernel
theorem dX10_planned_80 : decode cX10_planned 80 = .ok (.aload_n 0, 1) := by decide +kernel
theorem dX10_planned_81 : decode cX10_planned 81 = .ok (.invokevirtual 341, 3) := by decide +kernel
theorem dX10_planned_84 : decode cX10_planned 84 = .ok (.ireturn, 1) := by decide +kernel
theorem dX10_planned_85 : decode cX10_planned 85 = .ok (.aload_n 0, 1) := by decide +kernel
theorem dX10_planned_86 : decode cX10_planned 86 = .ok (.invokevirtual 344, 3) := by decide +kernel
theorem dX10_planned_89 : decode cX10_planned 89 = .ok (.ireturn, 1) := by decide +kernel
theorem dX10_enough_0 : decode cX10_enough 0 = .ok (.iconst 0, 1) := by decide +kernel
theorem dX10_enough_1 : decode cX10_enough 1 = .ok (.istore_n 1, 1) := by decide +kernel
theorem dX10_enough_2 : decode cX10_enough 2 = .ok (.iload_n 1, 1) := by decide +kernel
theorem dX10_enough_3 : decode cX10_enough 3 = .ok (.bipush 12, 2) := by decide +kernel
theorem dX10_enough_5 : decode cX10_enough 5 = .ok (.if_icmp .ge 45, 3) := by decide +kernel
theorem dX10_enough_8 : decode cX10_enough 8 = .ok (.aload_n 0, 1) := by decide +kernel
theorem dX10_enough_9 : decode cX10_enough 9 = .ok (.getfield 97, 3) := by decide +kernel
theorem dX10_enough_12 : decode cX10_enough 12 = .ok (.iload_n 1, 1) := by decide +kernel
theorem dX10_enough_13 : decode cX10_enough 13 = .ok (.aload_n 0, 1) := by decide +kernel
theorem dX10_enough_14 : decode cX10_enough 14 = .ok (.getfield 85, 3) := by decide +kernel
theorem dX10_enough_17 : decode cX10_enough 17 = .ok (.iload_n 1, 1) := by decide +kernel
theorem dX10_enough_18 : decode cX10_enough 18 = .ok (.iaload, 1) := by decide +kernel
theorem dX10_enough_19 : decode cX10_enough 19 = .ok (.iastore, 1) := by decide +kernel
theorem dX10_enough_20 : decode cX10_enough 20 = .ok (.aload_n 0, 1) := by decide +kernel
theorem dX10_enough_21 : decode cX10_enough 21 = .ok (.getfield 100, 3) := by decide +kernel
theorem dX10_enough_24 : decode cX10_enough 24 = .ok (.iload_n 1, 1) := by decide +kernel
theorem dX10_enough_25 : decode cX10_enough 25 = .ok (.aload_n 0, 1) := by decide +kernel
theorem dX10_enough_26 : decode cX10_enough 26 = .ok (.getfield 88, 3) := by decide +kernel
theorem dX10_enough_29 : decode cX10_enough 29 = .ok (.iload_n 1, 1) := by decide +kernel
theorem dX10_enough_30 : decode cX10_enough 30 = .ok (.iaload, 1) := by decide +kernel
theorem dX10_enough_31 : decode cX10_enough 31 = .ok (.iastore, 1) := by decide +kernel
theorem dX10_enough_32 : decode cX10_enough 32 = .ok (.aload_n 0, 1) := by decide +kernel
theorem dX10_enough_33 : decode cX10_enough 33 = .ok (.getfield 103, 3) := by decide +kernel
theorem dX10_enough_36 : decode cX10_enough 36 = .ok (.iload_n 1, 1) := by decide +kernel
theorem dX10_enough_37 : decode cX10_enough 37 = .ok (.aload_n 0, 1) := by decide +kernel
theorem dX10_enough_38 : decode cX10_enough 38 = .ok (.getfield 91, 3) := by decide +kernel
theorem dX10_enough_41 : decode cX10_enough 41 = .ok (.iload_n 1, 1) := by decide +kernel
theorem dX10_enough_42 : decode cX10_enough 42 = .ok (.iaload, 1) := by decide +kernel
theorem dX10_enough_43 : decode cX10_enough 43 = .ok (.iastore, 1) := by decide +kernel
theorem dX10_enough_44 : decode cX10_enough 44 = .ok (.iinc 1 1, 3) := by decide +kernel
theorem dX10_enough_47 : decode cX10_enough 47 = .ok (.goto (-45), 3) := by decide +kernel
theorem dX10_enough_50 : decode cX10_enough 50 = .ok (.aload_n 0, 1) := by decide +kernel
theorem dX10_enough_51 : decode cX10_enough 51 = .ok (.invokevirtual 325, 3) := by decide +kernel
theorem dX10_enough_54 : decode cX10_enough 54 = .ok (.iconst 1, 1) := by decide +kernel
theorem dX10_enough_55 : decode cX10_enough 55 = .ok (.aload_n 0, 1) := by decide +kernel
theorem dX10_enough_56 : decode cX10_enough 56 = .ok (.invokevirtual 328, 3) := by decide +kernel
theorem dX10_enough_59 : decode cX10_enough 59 = .ok (.invokestatic 268, 3) := by decide +kernel
theorem dX10_enough_62 : decode cX10_enough 62 = .ok (.istore_n 1, 1) := by decide +kernel
theorem dX10_enough_63 : decode cX10_enough 63 = .ok (.iconst 0, 1) := by decide +kernel
theorem dX10_enough_64 : decode cX10_enough 64 = .ok (.istore_n 2, 1) := by decide +kernel
theorem dX10_enough_65 : decode cX10_enough 65 = .ok (.iload_n 2, 1) := by decide +kernel
theorem dX10_enough_66 : decode cX10_enough 66 = .ok (.bipush 12, 2) := by decide +kernel
theorem dX10_enough_68 : decode cX10_enough 68 = .ok (.if_icmp .ge 45, 3) := by decide +kernel
theorem dX10_enough_71 : decode cX10_enough 71 = .ok (.aload_n 0, 1) := by decide +kernel
theorem dX10_enough_72 : decode cX10_enough 72 = .ok (.getfield 85, 3) := by decide +kernel
theorem dX10_enough_75 : decode cX10_enough 75 = .ok (.iload_n 2, 1) := by decide +kernel
theorem dX10_enough_76 : decode cX10_enough 76 = .ok (.aload_n 0, 1) := by decide +kernel
theorem dX10_enough_77 : decode cX10_enough 77 = .ok (.getfield 97, 3) := by decide +kernel
theorem dX10_enough_80 : decode cX10_enough 80 = .ok (.iload_n 2, 1) := by decide +kernel
theorem dX10_enough_81 : decode cX10_enough 81 = .ok (.iaload, 1) := by decide +kernel
theorem dX10_enough_82 : decode cX10_enough 82 = .ok (.iastore, 1) := by decide +kernel
theorem dX10_enough_83 : decode cX10_enough 83 = .ok (.aload_n 0, 1) := by decide +kernel
theorem dX10_enough_84 : decode cX10_enough 84 = .ok (.getfield 88, 3) := by decide +kernel
theorem dX10_enough_87 : decode cX10_enough 87 = .ok (.iload_n 2, 1) := by decide +kernel
theorem dX10_enough_88 : decode cX10_enough 88 = .ok (.aload_n 0, 1) := by decide +kernel
theorem dX10_enough_89 : decode cX10_enough 89 = .ok (.getfield 100, 3) := by decide +kernel
theorem dX10_enough_92 : decode cX10_enough 92 = .ok (.iload_n 2, 1) := by decide +kernel
theorem dX10_enough_93 : decode cX10_enough 93 = .ok (.iaload, 1) := by decide +kernel
theorem dX10_enough_94 : decode cX10_enough 94 = .ok (.iastore, 1) := by decide +kernel
theorem dX10_enough_95 : decode cX10_enough 95 = .ok (.aload_n 0, 1) := by decide +kernel
theorem dX10_enough_96 : decode cX10_enough 96 = .ok (.getfield 91, 3) := by decide +kernel
theorem dX10_enough_99 : decode cX10_enough 99 = .ok (.iload_n 2, 1) := by decide +kernel
theorem dX10_enough_100 : decode cX10_enough 100 = .ok (.aload_n 0, 1) := by decide +kernel
theorem dX10_enough_101 : decode cX10_enough 101 = .ok (.getfield 103, 3) := by decide +kernel
theorem dX10_enough_104 : decode cX10_enough 104 = .ok (.iload_n 2, 1) := by decide +kernel
theorem dX10_enough_105 : decode cX10_enough 105 = .ok (.iaload, 1) := by decide +kernel
theorem dX10_enough_106 : decode cX10_enough 106 = .ok (.iastore, 1) := by decide +kernel
theorem dX10_enough_107 : decode cX10_enough 107 = .ok (.iinc 2 1, 3) := by decide +kernel
theorem dX10_enough_110 : decode cX10_enough 110 = .ok (.goto (-45), 3) := by decide +kernel
theorem dX10_enough_113 : decode cX10_enough 113 = .ok (.iload_n 1, 1) := by decide +kernel
theorem dX10_enough_114 : decode cX10_enough 114 = .ok (.ireturn, 1) := by decide +kernel
theorem dX10_colourOf_0 : decode cX10_colourOf 0 = .ok (.iconst 0, 1) := by decide +kernel
theorem dX10_colourOf_1 : decode cX10_colourOf 1 = .ok (.istore_n 3, 1) := by decide +kernel
theorem dX10_colourOf_2 : decode cX10_colourOf 2 = .ok (.iload_n 3, 1) := by decide +kernel
theorem dX10_colourOf_3 : decode cX10_colourOf 3 = .ok (.aload_n 0, 1) := by decide +kernel
theorem dX10_colourOf_4 : decode cX10_colourOf 4 = .ok (.getfield 67, 3) := by decide +kernel
theorem dX10_colourOf_7 : decode cX10_colourOf 7 = .ok (.if_icmp .ge 48, 3) := by decide +kernel
theorem dX10_colourOf_10 : decode cX10_colourOf 10 = .ok (.aload_n 0, 1) := by decide +kernel
theorem dX10_colourOf_11 : decode cX10_colourOf 11 = .ok (.getfield 94, 3) := by decide +kernel
theorem dX10_colourOf_14 : decode cX10_colourOf 14 = .ok (.bipush 8, 2) := by decide +kernel
theorem dX10_colourOf_16 : decode cX10_colourOf 16 = .ok (.iload_n 1, 1) := by decide +kernel
theorem dX10_colourOf_17 : decode cX10_colourOf 17 = .ok (.imul, 1) := by decide +kernel
theorem dX10_colourOf_18 : decode cX10_colourOf 18 = .ok (.iload_n 3, 1) := by decide +kernel
theorem dX10_colourOf_19 : decode cX10_colourOf 19 = .ok (.iadd, 1) := by decide +kernel
theorem dX10_colourOf_20 : decode cX10_colourOf 20 = .ok (.iaload, 1) := by decide +kernel
theorem dX10_colourOf_21 : decode cX10_colourOf 21 = .ok (.ifCond .lt 28, 3) := by decide +kernel
theorem dX10_colourOf_24 : decode cX10_colourOf 24 = .ok (.aload_n 0, 1) := by decide +kernel
theorem dX10_colourOf_25 : decode cX10_colourOf 25 = .ok (.getfield 73, 3) := by decide +kernel
theorem dX10_colourOf_28 : decode cX10_colourOf 28 = .ok (.iload_n 3, 1) := by decide +kernel
theorem dX10_colourOf_29 : decode cX10_colourOf 29 = .ok (.iaload, 1) := by decide +kernel
theorem dX10_colourOf_30 : decode cX10_colourOf 30 = .ok (.iload_n 2, 1) := by decide +kernel
theorem dX10_colourOf_31 : decode cX10_colourOf 31 = .ok (.invokestatic 255, 3) := by decide +kernel
theorem dX10_colourOf_34 : decode cX10_colourOf 34 = .ok (.ifCond .eq 15, 3) := by decide +kernel
theorem dX10_colourOf_37 : decode cX10_colourOf 37 = .ok (.aload_n 0, 1) := by decide +kernel
theorem dX10_colourOf_38 : decode cX10_colourOf 38 = .ok (.getfield 94, 3) := by decide +kernel
theorem dX10_colourOf_41 : decode cX10_colourOf 41 = .ok (.bipush 8, 2) := by decide +kernel
theorem dX10_colourOf_43 : decode cX10_colourOf 43 = .ok (.iload_n 1, 1) := by decide +kernel
theorem dX10_colourOf_44 : decode cX10_colourOf 44 = .ok (.imul, 1) := by decide +kernel
theorem dX10_colourOf_45 : decode cX10_colourOf 45 = .ok (.iload_n 3, 1) := by decide +kernel
theorem dX10_colourOf_46 : decode cX10_colourOf 46 = .ok (.iadd, 1) := by decide +kernel
theorem dX10_colourOf_47 : decode cX10_colourOf 47 = .ok (.iaload, 1) := by decide +kernel
theorem dX10_colourOf_48 : decode cX10_colourOf 48 = .ok (.ireturn, 1) := by decide +kernel
theorem dX10_colourOf_49 : decode cX10_colourOf 49 = .ok (.iinc 3 1, 3) := by decide +kernel
theorem dX10_colourOf_52 : decode cX10_colourOf 52 = .ok (.goto (-50), 3) := by decide +kernel
theorem dX10_colourOf_55 : decode cX10_colourOf 55 = .ok (.iconst (-1), 1) := by decide +kernel
theorem dX10_colourOf_56 : decode cX10_colourOf 56 = .ok (.ireturn, 1) := by decide +kernel
theorem dX10_held_0 : decode cX10_held 0 = .ok (.aload_n 0, 1) := by decide +kernel
theorem dX10_held_1 : decode cX10_held 1 = .ok (.getfield 127, 3) := by decide +kernel
theorem dX10_held_4 : decode cX10_held 4 = .ok (.iconst 0, 1) := by decide +kernel
theorem dX10_held_5 : decode cX10_held 5 = .ok (.iaload, 1) := by decide +kernel
theorem dX10_held_6 : decode cX10_held 6 = .ok (.iload_n 1, 1) := by decide +kernel
theorem dX10_held_7 : decode cX10_held 7 = .ok (.if_icmp .ne 7, 3) := by decide +kernel
theorem dX10_held_10 : decode cX10_held 10 = .ok (.iconst 0, 1) := by decide +kernel
theorem dX10_held_11 : decode cX10_held 11 = .ok (.goto 18, 3) := by decide +kernel
theorem dX10_held_14 : decode cX10_held 14 = .ok (.aload_n 0, 1) := by decide +kernel
theorem dX10_held_15 : decode cX10_held 15 = .ok (.getfield 127, 3) := by decide +kernel
theorem dX10_held_18 : decode cX10_held 18 = .ok (.iconst 1, 1) := by decide +kernel
theorem dX10_held_19 : decode cX10_held 19 = .ok (.iaload, 1) := by decide +kernel
theorem dX10_held_20 : decode cX10_held 20 = .ok (.iload_n 1, 1) := by decide +kernel
theorem dX10_held_21 : decode cX10_held 21 = .ok (.if_icmp .ne 7, 3) := by decide +kernel
theorem dX10_held_24 : decode cX10_held 24 = .ok (.iconst 1, 1) := by decide +kernel
theorem dX10_held_25 : decode cX10_held 25 = .ok (.goto 4, 3) := by decide +kernel
theorem dX10_held_28 : decode cX10_held 28 = .ok (.iconst (-1), 1) := by decide +kernel
theorem dX10_held_29 : decode cX10_held 29 = .ok (.ireturn, 1) := by decide +kernel
theorem dX10_holds_0 : decode cX10_holds 0 = .ok (.aload_n 0, 1) := by decide +kernel
theorem dX10_holds_1 : decode cX10_holds 1 = .ok (.iload_n 1, 1) := by decide +kernel
theorem dX10_holds_2 : decode cX10_holds 2 = .ok (.invokevirtual 347, 3) := by decide +kernel
theorem dX10_holds_5 : decode cX10_holds 5 = .ok (.ifCond .lt 7, 3) := by decide +kernel
theorem dX10_holds_8 : decode cX10_holds 8 = .ok (.iconst 1, 1) := by decide +kernel
theorem dX10_holds_9 : decode cX10_holds 9 = .ok (.goto 4, 3) := by decide +kernel
theorem dX10_holds_12 : decode cX10_holds 12 = .ok (.iconst 0, 1) := by decide +kernel
theorem dX10_holds_13 : decode cX10_holds 13 = .ok (.istore_n 2, 1) := by decide +kernel
theorem dX10_holds_14 : decode cX10_holds 14 = .ok (.iload_n 2, 1) := by decide +kernel
theorem dX10_holds_15 : decode cX10_holds 15 = .ok (.ifCond .eq 11, 3) := by decide +kernel
theorem dX10_holds_18 : decode cX10_holds 18 = .ok (.aload_n 0, 1) := by decide +kernel
theorem dX10_holds_19 : decode cX10_holds 19 = .ok (.iload_n 1, 1) := by decide +kernel
theorem dX10_holds_20 : decode cX10_holds 20 = .ok (.invokevirtual 347, 3) := by decide +kernel
theorem dX10_holds_23 : decode cX10_holds 23 = .ok (.goto 7, 3) := by decide +kernel
theorem dX10_holds_26 : decode cX10_holds 26 = .ok (.aload_n 0, 1) := by decide +kernel
theorem dX10_holds_27 : decode cX10_holds 27 = .ok (.getfield 130, 3) := by decide +kernel
theorem dX10_holds_30 : decode cX10_holds 30 = .ok (.istore_n 3, 1) := by decide +kernel
theorem dX10_holds_31 : decode cX10_holds 31 = .ok (.aload_n 0, 1) := by decide +kernel
theorem dX10_holds_32 : decode cX10_holds 32 = .ok (.getfield 127, 3) := by decide +kernel
theorem dX10_holds_35 : decode cX10_holds 35 = .ok (.iload_n 3, 1) := by decide +kernel
theorem dX10_holds_36 : decode cX10_holds 36 = .ok (.iload_n 1, 1) := by decide +kernel
theorem dX10_holds_37 : decode cX10_holds 37 = .ok (.iastore, 1) := by decide +kernel
theorem dX10_holds_38 : decode cX10_holds 38 = .ok (.aload_n 0, 1) := by decide +kernel
theorem dX10_holds_39 : decode cX10_holds 39 = .ok (.iconst 1, 1) := by decide +kernel
theorem dX10_holds_40 : decode cX10_holds 40 = .ok (.iload_n 3, 1) := by decide +kernel
theorem dX10_holds_41 : decode cX10_holds 41 = .ok (.isub, 1) := by decide +kernel
theorem dX10_holds_42 : decode cX10_holds 42 = .ok (.putfield 130, 3) := by decide +kernel
theorem dX10_holds_45 : decode cX10_holds 45 = .ok (.iload_n 2, 1) := by decide +kernel
theorem dX10_holds_46 : decode cX10_holds 46 = .ok (.ireturn, 1) := by decide +kernel
theorem dX10_got_0 : decode cX10_got 0 = .ok (.aload_n 0, 1) := by decide +kernel
theorem dX10_got_1 : decode cX10_got 1 = .ok (.getfield 136, 3) := by decide +kernel
theorem dX10_got_4 : decode cX10_got 4 = .ok (.ifCond .ne 10, 3) := by decide +kernel
theorem dX10_got_7 : decode cX10_got 7 = .ok (.aload_n 0, 1) := by decide +kernel
theorem dX10_got_8 : decode cX10_got 8 = .ok (.getfield 106, 3) := by decide +kernel
theorem dX10_got_11 : decode cX10_got 11 = .ok (.iload_n 1, 1) := by decide +kernel
theorem dX10_got_12 : decode cX10_got 12 = .ok (.iaload, 1) := by decide +kernel
theorem dX10_got_13 : decode cX10_got 13 = .ok (.ireturn, 1) := by decide +kernel
theorem dX10_got_14 : decode cX10_got 14 = .ok (.aload_n 0, 1) := by decide +kernel
theorem dX10_got_15 : decode cX10_got 15 = .ok (.getfield 85, 3) := by decide +kernel
theorem dX10_got_18 : decode cX10_got 18 = .ok (.iload_n 1, 1) := by decide +kernel
theorem dX10_got_19 : decode cX10_got 19 = .ok (.iaload, 1) := by decide +kernel
theorem dX10_got_20 : decode cX10_got 20 = .ok (.ifCond .ne 15, 3) := by decide +kernel
theorem dX10_got_23 : decode cX10_got 23 = .ok (.aload_n 0, 1) := by decide +kernel
theorem dX10_got_24 : decode cX10_got 24 = .ok (.getfield 109, 3) := by decide +kernel
theorem dX10_got_27 : decode cX10_got 27 = .ok (.aload_n 0, 1) := by decide +kernel
theorem dX10_got_28 : decode cX10_got 28 = .ok (.getfield 88, 3) := by decide +kernel
theorem dX10_got_31 : decode cX10_got 31 = .ok (.iload_n 1, 1) := by decide +kernel
theorem dX10_got_32 : decode cX10_got 32 = .ok (.iaload, 1) := by decide +kernel
theorem dX10_got_33 : decode cX10_got 33 = .ok (.iaload, 1) := by decide +kernel
theorem dX10_got_34 : decode cX10_got 34 = .ok (.ireturn, 1) := by decide +kernel
theorem dX10_got_35 : decode cX10_got 35 = .ok (.aload_n 0, 1) := by decide +kernel
theorem dX10_got_36 : decode cX10_got 36 = .ok (.getfield 85, 3) := by decide +kernel
theorem dX10_got_39 : decode cX10_got 39 = .ok (.iload_n 1, 1) := by decide +kernel
theorem dX10_got_40 : decode cX10_got 40 = .ok (.iaload, 1) := by decide +kernel
theorem dX10_got_41 : decode cX10_got 41 = .ok (.iconst 2, 1) := by decide +kernel
theorem dX10_got_42 : decode cX10_got 42 = .ok (.if_icmp .ne 24, 3) := by decide +kernel
theorem dX10_got_45 : decode cX10_got 45 = .ok (.aload_n 0, 1) := by decide +kernel
theorem dX10_got_46 : decode cX10_got 46 = .ok (.getfield 118, 3) := by decide +kernel
theorem dX10_got_49 : decode cX10_got 49 = .ok (.iconst 3, 1) := by decide +kernel
theorem dX10_got_50 : decode cX10_got 50 = .ok (.dup2, 1) := by decide +kernel
theorem dX10_got_51 : decode cX10_got 51 = .ok (.iaload, 1) := by decide +kernel
theorem dX10_got_52 : decode cX10_got 52 = .ok (.iconst 1, 1) := by decide +kernel
theorem dX10_got_53 : decode cX10_got 53 = .ok (.iadd, 1) := by decide +kernel
theorem dX10_got_54 : decode cX10_got 54 = .ok (.iastore, 1) := by decide +kernel
theorem dX10_got_55 : decode cX10_got 55 = .ok (.aload_n 0, 1) := by decide +kernel
theorem dX10_got_56 : decode cX10_got 56 = .ok (.getfield 48, 3) := by decide +kernel
theorem dX10_got_59 : decode cX10_got 59 = .ok (.aload_n 0, 1) := by decide +kernel
theorem dX10_got_60 : decode cX10_got 60 = .ok (.iload_n 1, 1) := by decide +kernel
theorem dX10_got_61 : decode cX10_got 61 = .ok (.invokevirtual 295, 3) := by decide +kernel
theorem dX10_got_64 : decode cX10_got 64 = .ok (.iaload, 1) := by decide +kernel
theorem dX10_got_65 : decode cX10_got 65 = .ok (.ireturn, 1) := by decide +kernel
theorem dX10_got_66 : decode cX10_got 66 = .ok (.aload_n 0, 1) := by decide +kernel
theorem dX10_got_67 : decode cX10_got 67 = .ok (.iload_n 1, 1) := by decide +kernel
theorem dX10_got_68 : decode cX10_got 68 = .ok (.aload_n 0, 1) := by decide +kernel
theorem dX10_got_69 : decode cX10_got 69 = .ok (.getfield 133, 3) := by decide +kernel
theorem dX10_got_72 : decode cX10_got 72 = .ok (.invokevirtual 350, 3) := by decide +kernel
theorem dX10_got_75 : decode cX10_got 75 = .ok (.istore_n 2, 1) := by decide +kernel
theorem dX10_got_76 : decode cX10_got 76 = .ok (.iload_n 2, 1) := by decide +kernel
theorem dX10_got_77 : decode cX10_got 77 = .ok (.ifCond .lt 10, 3) := by decide +kernel
theorem dX10_got_80 : decode cX10_got 80 = .ok (.aload_n 0, 1) := by decide +kernel
theorem dX10_got_81 : decode cX10_got 81 = .ok (.getfield 109, 3) := by decide +kernel
theorem dX10_got_84 : decode cX10_got 84 = .ok (.iload_n 2, 1) := by decide +kernel
theorem dX10_got_85 : decode cX10_got 85 = .ok (.iaload, 1) := by decide +kernel
theorem dX10_got_86 : decode cX10_got 86 = .ok (.ireturn, 1) := by decide +kernel
theorem dX10_got_87 : decode cX10_got 87 = .ok (.aload_n 0, 1) := by decide +kernel
theorem dX10_got_88 : decode cX10_got 88 = .ok (.iload_n 1, 1) := by decide +kernel
theorem dX10_got_89 : decode cX10_got 89 = .ok (.invokevirtual 353, 3) := by decide +kernel
theorem dX10_got_92 : decode cX10_got 92 = .ok (.ifCond .ne 13, 3) := by decide +kernel
theorem dX10_got_95 : decode cX10_got 95 = .ok (.aload_n 0, 1) := by decide +kernel
theorem dX10_got_96 : decode cX10_got 96 = .ok (.getfield 118, 3) := by decide +kernel
theorem dX10_got_99 : decode cX10_got 99 = .ok (.iconst 1, 1) := by decide +kernel
theorem dX10_got_100 : decode cX10_got 100 = .ok (.dup2, 1) := by decide +kernel
theorem dX10_got_101 : decode cX10_got 101 = .ok (.iaload, 1) := by decide +kernel
theorem dX10_got_102 : decode cX10_got 102 = .ok (.iconst 1, 1) := by decide +kernel
theorem dX10_got_103 : decode cX10_got 103 = .ok (.iadd, 1) := by decide +kernel
theorem dX10_got_104 : decode cX10_got 104 = .ok (.iastore, 1) := by decide +kernel
theorem dX10_got_105 : decode cX10_got 105 = .ok (.aload_n 0, 1) := by decide +kernel
theorem dX10_got_106 : decode cX10_got 106 = .ok (.getfield 112, 3) := by decide +kernel
theorem dX10_got_109 : decode cX10_got 109 = .ok (.aload_n 0, 1) := by decide +kernel
theorem dX10_got_110 : decode cX10_got 110 = .ok (.getfield 91, 3) := by decide +kernel
theorem dX10_got_113 : decode cX10_got 113 = .ok (.iload_n 1, 1) := by decide +kernel
theorem dX10_got_114 : decode cX10_got 114 = .ok (.iaload, 1) := by decide +kernel
theorem dX10_got_115 : decode cX10_got 115 = .ok (.iaload, 1) := by decide +kernel
theorem dX10_got_116 : decode cX10_got 116 = .ok (.ireturn, 1) := by decide +kernel
theorem dX10_puts_0 : decode cX10_puts 0 = .ok (.aload_n 0, 1) := by decide +kernel
theorem dX10_puts_1 : decode cX10_puts 1 = .ok (.getfield 106, 3) := by decide +kernel
theorem dX10_puts_4 : decode cX10_puts 4 = .ok (.iload_n 1, 1) := by decide +kernel
theorem dX10_puts_5 : decode cX10_puts 5 = .ok (.iload_n 2, 1) := by decide +kernel
theorem dX10_puts_6 : decode cX10_puts 6 = .ok (.iastore, 1) := by decide +kernel
theorem dX10_puts_7 : decode cX10_puts 7 = .ok (.aload_n 0, 1) := by decide +kernel
theorem dX10_puts_8 : decode cX10_puts 8 = .ok (.getfield 136, 3) := by decide +kernel
theorem dX10_puts_11 : decode cX10_puts 11 = .ok (.ifCond .eq 13, 3) := by decide +kernel
theorem dX10_puts_14 : decode cX10_puts 14 = .ok (.aload_n 0, 1) := by decide +kernel
theorem dX10_puts_15 : decode cX10_puts 15 = .ok (.getfield 85, 3) := by decide +kernel
theorem dX10_puts_18 : decode cX10_puts 18 = .ok (.iload_n 1, 1) := by decide +kernel
theorem dX10_puts_19 : decode cX10_puts 19 = .ok (.iaload, 1) := by decide +kernel
theorem dX10_puts_20 : decode cX10_puts 20 = .ok (.iconst 2, 1) := by decide +kernel
theorem dX10_puts_21 : decode cX10_puts 21 = .ok (.if_icmp .ne 4, 3) := by decide +kernel
theorem dX10_puts_24 : decode cX10_puts 24 = .ok (.return_, 1) := by decide +kernel
theorem dX10_puts_25 : decode cX10_puts 25 = .ok (.aload_n 0, 1) := by decide +kernel
theorem dX10_puts_26 : decode cX10_puts 26 = .ok (.getfield 85, 3) := by decide +kernel
theorem dX10_puts_29 : decode cX10_puts 29 = .ok (.iload_n 1, 1) := by decide +kernel
theorem dX10_puts_30 : decode cX10_puts 30 = .ok (.iaload, 1) := by decide +kernel
theorem dX10_puts_31 : decode cX10_puts 31 = .ok (.ifCond .ne 12, 3) := by decide +kernel
theorem dX10_puts_34 : decode cX10_puts 34 = .ok (.aload_n 0, 1) := by decide +kernel
theorem dX10_puts_35 : decode cX10_puts 35 = .ok (.getfield 88, 3) := by decide +kernel
theorem dX10_puts_38 : decode cX10_puts 38 = .ok (.iload_n 1, 1) := by decide +kernel
theorem dX10_puts_39 : decode cX10_puts 39 = .ok (.iaload, 1) := by decide +kernel
theorem dX10_puts_40 : decode cX10_puts 40 = .ok (.goto 12, 3) := by decide +kernel
theorem dX10_puts_43 : decode cX10_puts 43 = .ok (.aload_n 0, 1) := by decide +kernel
theorem dX10_puts_44 : decode cX10_puts 44 = .ok (.iload_n 1, 1) := by decide +kernel
theorem dX10_puts_45 : decode cX10_puts 45 = .ok (.aload_n 0, 1) := by decide +kernel
theorem dX10_puts_46 : decode cX10_puts 46 = .ok (.getfield 133, 3) := by decide +kernel
theorem dX10_puts_49 : decode cX10_puts 49 = .ok (.invokevirtual 350, 3) := by decide +kernel
theorem dX10_puts_52 : decode cX10_puts 52 = .ok (.istore_n 3, 1) := by decide +kernel
theorem dX10_puts_53 : decode cX10_puts 53 = .ok (.iload_n 3, 1) := by decide +kernel
theorem dX10_puts_54 : decode cX10_puts 54 = .ok (.ifCond .lt 11, 3) := by decide +kernel
theorem dX10_puts_57 : decode cX10_puts 57 = .ok (.aload_n 0, 1) := by decide +kernel
theorem dX10_puts_58 : decode cX10_puts 58 = .ok (.getfield 109, 3) := by decide +kernel
theorem dX10_puts_61 : decode cX10_puts 61 = .ok (.iload_n 3, 1) := by decide +kernel
theorem dX10_puts_62 : decode cX10_puts 62 = .ok (.iload_n 2, 1) := by decide +kernel
theorem dX10_puts_63 : decode cX10_puts 63 = .ok (.iastore, 1) := by decide +kernel
theorem dX10_puts_64 : decode cX10_puts 64 = .ok (.return_, 1) := by decide +kernel
theorem dX10_puts_65 : decode cX10_puts 65 = .ok (.aload_n 0, 1) := by decide +kernel
theorem dX10_puts_66 : decode cX10_puts 66 = .ok (.iload_n 1, 1) := by decide +kernel
theorem dX10_puts_67 : decode cX10_puts 67 = .ok (.invokevirtual 353, 3) := by decide +kernel
theorem dX10_puts_70 : decode cX10_puts 70 = .ok (.istore 4, 2) := by decide +kernel
theorem dX10_puts_72 : decode cX10_puts 72 = .ok (.aload_n 0, 1) := by decide +kernel
theorem dX10_puts_73 : decode cX10_puts 73 = .ok (.getfield 112, 3) := by decide +kernel
theorem dX10_puts_76 : decode cX10_puts 76 = .ok (.aload_n 0, 1) := by decide +kernel
theorem dX10_puts_77 : decode cX10_puts 77 = .ok (.getfield 91, 3) := by decide +kernel
theorem dX10_puts_80 : decode cX10_puts 80 = .ok (.iload_n 1, 1) := by decide +kernel
theorem dX10_puts_81 : decode cX10_puts 81 = .ok (.iaload, 1) := by decide +kernel
theorem dX10_puts_82 : decode cX10_puts 82 = .ok (.iload_n 2, 1) := by decide +kernel
theorem dX10_puts_83 : decode cX10_puts 83 = .ok (.iastore, 1) := by decide +kernel
theorem dX10_puts_84 : decode cX10_puts 84 = .ok (.aload_n 0, 1) := by decide +kernel
theorem dX10_puts_85 : decode cX10_puts 85 = .ok (.getfield 118, 3) := by decide +kernel
theorem dX10_puts_88 : decode cX10_puts 88 = .ok (.iconst 2, 1) := by decide +kernel
theorem dX10_puts_89 : decode cX10_puts 89 = .ok (.dup2, 1) := by decide +kernel
theorem dX10_puts_90 : decode cX10_puts 90 = .ok (.iaload, 1) := by decide +kernel
theorem dX10_puts_91 : decode cX10_puts 91 = .ok (.iconst 1, 1) := by decide +kernel
theorem dX10_puts_92 : decode cX10_puts 92 = .ok (.iadd, 1) := by decide +kernel
theorem dX10_puts_93 : decode cX10_puts 93 = .ok (.iastore, 1) := by decide +kernel
theorem dX10_puts_94 : decode cX10_puts 94 = .ok (.return_, 1) := by decide +kernel
theorem dX10_does_0 : decode cX10_does 0 = .ok (.aload_n 0, 1) := by decide +kernel
theorem dX10_does_1 : decode cX10_does 1 = .ok (.getfield 42, 3) := by decide +kernel
theorem dX10_does_4 : decode cX10_does 4 = .ok (.iload_n 1, 1) := by decide +kernel
theorem dX10_does_5 : decode cX10_does 5 = .ok (.iaload, 1) := by decide +kernel
theorem dX10_does_6 : decode cX10_does 6 = .ok (.ifCond .ne 20, 3) := by decide +kernel
theorem dX10_does_9 : decode cX10_does 9 = .ok (.aload_n 0, 1) := by decide +kernel
theorem dX10_does_10 : decode cX10_does 10 = .ok (.aload_n 0, 1) := by decide +kernel
theorem dX10_does_11 : decode cX10_does 11 = .ok (.getfield 45, 3) := by decide +kernel
theorem dX10_does_14 : decode cX10_does 14 = .ok (.iload_n 1, 1) := by decide +kernel
theorem dX10_does_15 : decode cX10_does 15 = .ok (.iaload, 1) := by decide +kernel
theorem dX10_does_16 : decode cX10_does 16 = .ok (.aload_n 0, 1) := by decide +kernel
theorem dX10_does_17 : decode cX10_does 17 = .ok (.getfield 48, 3) := by decide +kernel
theorem dX10_does_20 : decode cX10_does 20 = .ok (.iload_n 1, 1) := by decide +kernel
theorem dX10_does_21 : decode cX10_does 21 = .ok (.iaload, 1) := by decide +kernel
theorem dX10_does_22 : decode cX10_does 22 = .ok (.invokevirtual 356, 3) := by decide +kernel
theorem dX10_does_25 : decode cX10_does 25 = .ok (.return_, 1) := by decide +kernel
theorem dX10_does_26 : decode cX10_does 26 = .ok (.aload_n 0, 1) := by decide +kernel
theorem dX10_does_27 : decode cX10_does 27 = .ok (.aload_n 0, 1) := by decide +kernel
theorem dX10_does_28 : decode cX10_does 28 = .ok (.getfield 48, 3) := by decide +kernel
theorem dX10_does_31 : decode cX10_does 31 = .ok (.iload_n 1, 1) := by decide +kernel
theorem dX10_does_32 : decode cX10_does 32 = .ok (.iaload, 1) := by decide +kernel
theorem dX10_does_33 : decode cX10_does 33 = .ok (.invokevirtual 359, 3) := by decide +kernel
theorem dX10_does_36 : decode cX10_does 36 = .ok (.istore_n 2, 1) := by decide +kernel
theorem dX10_does_37 : decode cX10_does 37 = .ok (.aload_n 0, 1) := by decide +kernel
theorem dX10_does_38 : decode cX10_does 38 = .ok (.getfield 42, 3) := by decide +kernel
theorem dX10_does_41 : decode cX10_does 41 = .ok (.iload_n 1, 1) := by decide +kernel
theorem dX10_does_42 : decode cX10_does 42 = .ok (.iaload, 1) := by decide +kernel
theorem dX10_does_43 : decode cX10_does 43 = .ok (.iconst 2, 1) := by decide +kernel
theorem dX10_does_44 : decode cX10_does 44 = .ok (.if_icmp .ge 7, 3) := by decide +kernel
theorem dX10_does_47 : decode cX10_does 47 = .ok (.iconst 0, 1) := by decide +kernel
theorem dX10_does_48 : decode cX10_does 48 = .ok (.goto 32, 3) := by decide +kernel
theorem dX10_does_51 : decode cX10_does 51 = .ok (.aload_n 0, 1) := by decide +kernel
theorem dX10_does_52 : decode cX10_does 52 = .ok (.getfield 51, 3) := by decide +kernel
theorem dX10_does_55 : decode cX10_does 55 = .ok (.iload_n 1, 1) := by decide +kernel
theorem dX10_does_56 : decode cX10_does 56 = .ok (.iaload, 1) := by decide +kernel
theorem dX10_does_57 : decode cX10_does 57 = .ok (.aload_n 0, 1) := by decide +kernel
theorem dX10_does_58 : decode cX10_does 58 = .ok (.getfield 48, 3) := by decide +kernel
theorem dX10_does_61 : decode cX10_does 61 = .ok (.iload_n 1, 1) := by decide +kernel
theorem dX10_does_62 : decode cX10_does 62 = .ok (.iaload, 1) := by decide +kernel
theorem dX10_does_63 : decode cX10_does 63 = .ok (.if_icmp .ne 7, 3) := by decide +kernel
theorem dX10_does_66 : decode cX10_does 66 = .ok (.iload_n 2, 1) := by decide +kernel
theorem dX10_does_67 : decode cX10_does 67 = .ok (.goto 13, 3) := by decide +kernel
theorem dX10_does_70 : decode cX10_does 70 = .ok (.aload_n 0, 1) := by decide +kernel
theorem dX10_does_71 : decode cX10_does 71 = .ok (.aload_n 0, 1) := by decide +kernel
theorem dX10_does_72 : decode cX10_does 72 = .ok (.getfield 51, 3) := by decide +kernel
theorem dX10_does_75 : decode cX10_does 75 = .ok (.iload_n 1, 1) := by decide +kernel
theorem dX10_does_76 : decode cX10_does 76 = .ok (.iaload, 1) := by decide +kernel
theorem dX10_does_77 : decode cX10_does 77 = .ok (.invokevirtual 359, 3) := by decide +kernel
theorem dX10_does_80 : decode cX10_does 80 = .ok (.istore_n 3, 1) := by decide +kernel
theorem dX10_does_81 : decode cX10_does 81 = .ok (.aload_n 0, 1) := by decide +kernel
theorem dX10_does_82 : decode cX10_does 82 = .ok (.aload_n 0, 1) := by decide +kernel
theorem dX10_does_83 : decode cX10_does 83 = .ok (.getfield 45, 3) := by decide +kernel
theorem dX10_does_86 : decode cX10_does 86 = .ok (.iload_n 1, 1) := by decide +kernel
theorem dX10_does_87 : decode cX10_does 87 = .ok (.iaload, 1) := by decide +kernel
theorem dX10_does_88 : decode cX10_does 88 = .ok (.aload_n 0, 1) := by decide +kernel
theorem dX10_does_89 : decode cX10_does 89 = .ok (.getfield 42, 3) := by decide +kernel
theorem dX10_does_92 : decode cX10_does 92 = .ok (.iload_n 1, 1) := by decide +kernel
theorem dX10_does_93 : decode cX10_does 93 = .ok (.iaload, 1) := by decide +kernel
theorem dX10_does_94 : decode cX10_does 94 = .ok (.iconst 1, 1) := by decide +kernel
theorem dX10_does_95 : decode cX10_does 95 = .ok (.if_icmp .ne 7, 3) := by decide +kernel
theorem dX10_does_98 : decode cX10_does 98 = .ok (.iload_n 2, 1) := by decide +kernel
theorem dX10_does_99 : decode cX10_does 99 = .ok (.goto 38, 3) := by decide +kernel
theorem dX10_does_102 : decode cX10_does 102 = .ok (.aload_n 0, 1) := by decide +kernel
theorem dX10_does_103 : decode cX10_does 103 = .ok (.getfield 42, 3) := by decide +kernel
theorem dX10_does_106 : decode cX10_does 106 = .ok (.iload_n 1, 1) := by decide +kernel
theorem dX10_does_107 : decode cX10_does 107 = .ok (.iaload, 1) := by decide +kernel
theorem dX10_does_108 : decode cX10_does 108 = .ok (.iconst 2, 1) := by decide +kernel
theorem dX10_does_109 : decode cX10_does 109 = .ok (.if_icmp .ne 9, 3) := by decide +kernel
theorem dX10_does_112 : decode cX10_does 112 = .ok (.iload_n 2, 1) := by decide +kernel
theorem dX10_does_113 : decode cX10_does 113 = .ok (.iload_n 3, 1) := by decide +kernel
theorem dX10_does_114 : decode cX10_does 114 = .ok (.iadd, 1) := by decide +kernel
theorem dX10_does_115 : decode cX10_does 115 = .ok (.goto 22, 3) := by decide +kernel
theorem dX10_does_118 : decode cX10_does 118 = .ok (.aload_n 0, 1) := by decide +kernel
theorem dX10_does_119 : decode cX10_does 119 = .ok (.getfield 42, 3) := by decide +kernel
theorem dX10_does_122 : decode cX10_does 122 = .ok (.iload_n 1, 1) := by decide +kernel
theorem dX10_does_123 : decode cX10_does 123 = .ok (.iaload, 1) := by decide +kernel
theorem dX10_does_124 : decode cX10_does 124 = .ok (.iconst 3, 1) := by decide +kernel
theorem dX10_does_125 : decode cX10_does 125 = .ok (.if_icmp .ne 9, 3) := by decide +kernel
theorem dX10_does_128 : decode cX10_does 128 = .ok (.iload_n 2, 1) := by decide +kernel
theorem dX10_does_129 : decode cX10_does 129 = .ok (.iload_n 3, 1) := by decide +kernel
theorem dX10_does_130 : decode cX10_does 130 = .ok (.isub, 1) := by decide +kernel
theorem dX10_does_131 : decode cX10_does 131 = .ok (.goto 6, 3) := by decide +kernel
theorem dX10_does_134 : decode cX10_does 134 = .ok (.iload_n 2, 1) := by decide +kernel
theorem dX10_does_135 : decode cX10_does 135 = .ok (.iload_n 3, 1) := by decide +kernel
theorem dX10_does_136 : decode cX10_does 136 = .ok (.imul, 1) := by decide +kernel
theorem dX10_does_137 : decode cX10_does 137 = .ok (.invokevirtual 356, 3) := by decide +kernel
theorem dX10_does_140 : decode cX10_does 140 = .ok (.return_, 1) := by decide +kernel
theorem dX10_goesInto_0 : decode cX10_goesInto 0 = .ok (.iconst 0, 1) := by decide +kernel
theorem dX10_goesInto_1 : decode cX10_goesInto 1 = .ok (.istore_n 3, 1) := by decide +kernel
theorem dX10_goesInto_2 : decode cX10_goesInto 2 = .ok (.iload_n 3, 1) := by decide +kernel
theorem dX10_goesInto_3 : decode cX10_goesInto 3 = .ok (.aload_n 0, 1) := by decide +kernel
theorem dX10_goesInto_4 : decode cX10_goesInto 4 = .ok (.getfield 67, 3) := by decide +kernel
theorem dX10_goesInto_7 : decode cX10_goesInto 7 = .ok (.if_icmp .ge 144, 3) := by decide +kernel
theorem dX10_goesInto_10 : decode cX10_goesInto 10 = .ok (.iload_n 1, 1) := by decide +kernel
theorem dX10_goesInto_11 : decode cX10_goesInto 11 = .ok (.ifCond .lt 134, 3) := by decide +kernel
theorem dX10_goesInto_14 : decode cX10_goesInto 14 = .ok (.aload_n 0, 1) := by decide +kernel
theorem dX10_goesInto_15 : decode cX10_goesInto 15 = .ok (.getfield 73, 3) := by decide +kernel
theorem dX10_goesInto_18 : decode cX10_goesInto 18 = .ok (.iload_n 3, 1) := by decide +kernel
theorem dX10_goesInto_19 : decode cX10_goesInto 19 = .ok (.iaload, 1) := by decide +kernel
theorem dX10_goesInto_20 : decode cX10_goesInto 20 = .ok (.iload_n 1, 1) := by decide +kernel
theorem dX10_goesInto_21 : decode cX10_goesInto 21 = .ok (.invokestatic 255, 3) := by decide +kernel
theorem dX10_goesInto_24 : decode cX10_goesInto 24 = .ok (.ifCond .eq 121, 3) := by decide +kernel
theorem dX10_goesInto_27 : decode cX10_goesInto 27 = .ok (.aload_n 0, 1) := by decide +kernel
theorem dX10_goesInto_28 : decode cX10_goesInto 28 = .ok (.getfield 73, 3) := by decide +kernel
theorem dX10_goesInto_31 : decode cX10_goesInto 31 = .ok (.iload_n 3, 1) := by decide +kernel
theorem dX10_goesInto_32 : decode cX10_goesInto 32 = .ok (.iaload, 1) := by decide +kernel
theorem dX10_goesInto_33 : decode cX10_goesInto 33 = .ok (.iload_n 2, 1) := by decide +kernel
theorem dX10_goesInto_34 : decode cX10_goesInto 34 = .ok (.invokestatic 255, 3) := by decide +kernel
theorem dX10_goesInto_37 : decode cX10_goesInto 37 = .ok (.ifCond .eq 6, 3) := by decide +kernel
theorem dX10_goesInto_40 : decode cX10_goesInto 40 = .ok (.goto 105, 3) := by decide +kernel
theorem dX10_goesInto_43 : decode cX10_goesInto 43 = .ok (.aload_n 0, 1) := by decide +kernel
theorem dX10_goesInto_44 : decode cX10_goesInto 44 = .ok (.aload_n 0, 1) := by decide +kernel
theorem dX10_goesInto_45 : decode cX10_goesInto 45 = .ok (.getfield 73, 3) := by decide +kernel
theorem dX10_goesInto_48 : decode cX10_goesInto 48 = .ok (.iload_n 3, 1) := by decide +kernel
theorem dX10_goesInto_49 : decode cX10_goesInto 49 = .ok (.iaload, 1) := by decide +kernel
theorem dX10_goesInto_50 : decode cX10_goesInto 50 = .ok (.invokevirtual 309, 3) := by decide +kernel
theorem dX10_goesInto_53 : decode cX10_goesInto 53 = .ok (.aload_n 0, 1) := by decide +kernel
theorem dX10_goesInto_54 : decode cX10_goesInto 54 = .ok (.getfield 61, 3) := by decide +kernel
theorem dX10_goesInto_57 : decode cX10_goesInto 57 = .ok (.iload_n 2, 1) := by decide +kernel
theorem dX10_goesInto_58 : decode cX10_goesInto 58 = .ok (.iaload, 1) := by decide +kernel
theorem dX10_goesInto_59 : decode cX10_goesInto 59 = .ok (.iand, 1) := by decide +kernel
theorem dX10_goesInto_60 : decode cX10_goesInto 60 = .ok (.istore 4, 2) := by decide +kernel
theorem dX10_goesInto_62 : decode cX10_goesInto 62 = .ok (.iconst 0, 1) := by decide +kernel
theorem dX10_goesInto_63 : decode cX10_goesInto 63 = .ok (.istore 5, 2) := by decide +kernel
theorem dX10_goesInto_65 : decode cX10_goesInto 65 = .ok (.iload 5, 2) := by decide +kernel
theorem dX10_goesInto_67 : decode cX10_goesInto 67 = .ok (.bipush 12, 2) := by decide +kernel
theorem dX10_goesInto_69 : decode cX10_goesInto 69 = .ok (.if_icmp .ge 76, 3) := by decide +kernel
theorem dX10_goesInto_72 : decode cX10_goesInto 72 = .ok (.aload_n 0, 1) := by decide +kernel
theorem dX10_goesInto_73 : decode cX10_goesInto 73 = .ok (.getfield 94, 3) := by decide +kernel
theorem dX10_goesInto_76 : decode cX10_goesInto 76 = .ok (.bipush 8, 2) := by decide +kernel
theorem dX10_goesInto_78 : decode cX10_goesInto 78 = .ok (.iload 5, 2) := by decide +kernel
theorem dX10_goesInto_80 : decode cX10_goesInto 80 = .ok (.imul, 1) := by decide +kernel
theorem dX10_goesInto_81 : decode cX10_goesInto 81 = .ok (.iload_n 3, 1) := by decide +kernel
theorem dX10_goesInto_82 : decode cX10_goesInto 82 = .ok (.iadd, 1) := by decide +kernel
theorem dX10_goesInto_83 : decode cX10_goesInto 83 = .ok (.iaload, 1) := by decide +kernel
theorem dX10_goesInto_84 : decode cX10_goesInto 84 = .ok (.ifCond .lt 55, 3) := by decide +kernel
theorem dX10_goesInto_87 : decode cX10_goesInto 87 = .ok (.iload 4, 2) := by decide +kernel
theorem dX10_goesInto_89 : decode cX10_goesInto 89 = .ok (.iload 5, 2) := by decide +kernel
theorem dX10_goesInto_91 : decode cX10_goesInto 91 = .ok (.invokestatic 255, 3) := by decide +kernel
theorem dX10_goesInto_94 : decode cX10_goesInto 94 = .ok (.ifCond .ne 6, 3) := by decide +kernel
theorem dX10_goesInto_97 : decode cX10_goesInto 97 = .ok (.goto 42, 3) := by decide +kernel
theorem dX10_goesInto_100 : decode cX10_goesInto 100 = .ok (.aload_n 0, 1) := by decide +kernel
theorem dX10_goesInto_101 : decode cX10_goesInto 101 = .ok (.getfield 112, 3) := by decide +kernel
theorem dX10_goesInto_104 : decode cX10_goesInto 104 = .ok (.aload_n 0, 1) := by decide +kernel
theorem dX10_goesInto_105 : decode cX10_goesInto 105 = .ok (.getfield 91, 3) := by decide +kernel
theorem dX10_goesInto_108 : decode cX10_goesInto 108 = .ok (.iload 5, 2) := by decide +kernel
theorem dX10_goesInto_110 : decode cX10_goesInto 110 = .ok (.iaload, 1) := by decide +kernel
theorem dX10_goesInto_111 : decode cX10_goesInto 111 = .ok (.aload_n 0, 1) := by decide +kernel
theorem dX10_goesInto_112 : decode cX10_goesInto 112 = .ok (.getfield 109, 3) := by decide +kernel
theorem dX10_goesInto_115 : decode cX10_goesInto 115 = .ok (.aload_n 0, 1) := by decide +kernel
theorem dX10_goesInto_116 : decode cX10_goesInto 116 = .ok (.getfield 94, 3) := by decide +kernel
theorem dX10_goesInto_119 : decode cX10_goesInto 119 = .ok (.bipush 8, 2) := by decide +kernel
theorem dX10_goesInto_121 : decode cX10_goesInto 121 = .ok (.iload 5, 2) := by decide +kernel
theorem dX10_goesInto_123 : decode cX10_goesInto 123 = .ok (.imul, 1) := by decide +kernel
theorem dX10_goesInto_124 : decode cX10_goesInto 124 = .ok (.iload_n 3, 1) := by decide +kernel
theorem dX10_goesInto_125 : decode cX10_goesInto 125 = .ok (.iadd, 1) := by decide +kernel
theorem dX10_goesInto_126 : decode cX10_goesInto 126 = .ok (.iaload, 1) := by decide +kernel
theorem dX10_goesInto_127 : decode cX10_goesInto 127 = .ok (.iaload, 1) := by decide +kernel
theorem dX10_goesInto_128 : decode cX10_goesInto 128 = .ok (.iastore, 1) := by decide +kernel
theorem dX10_goesInto_129 : decode cX10_goesInto 129 = .ok (.aload_n 0, 1) := by decide +kernel
theorem dX10_goesInto_130 : decode cX10_goesInto 130 = .ok (.getfield 118, 3) := by decide +kernel
theorem dX10_goesInto_133 : decode cX10_goesInto 133 = .ok (.iconst 2, 1) := by decide +kernel
theorem dX10_goesInto_134 : decode cX10_goesInto 134 = .ok (.dup2, 1) := by decide +kernel
theorem dX10_goesInto_135 : decode cX10_goesInto 135 = .ok (.iaload, 1) := by decide +kernel
theorem dX10_goesInto_136 : decode cX10_goesInto 136 = .ok (.iconst 1, 1) := by decide +kernel
theorem dX10_goesInto_137 : decode cX10_goesInto 137 = .ok (.iadd, 1) := by decide +kernel
theorem dX10_goesInto_138 : decode cX10_goesInto 138 = .ok (.iastore, 1) := by decide +kernel
theorem dX10_goesInto_139 : decode cX10_goesInto 139 = .ok (.iinc 5 1, 3) := by decide +kernel
theorem dX10_goesInto_142 : decode cX10_goesInto 142 = .ok (.goto (-77), 3) := by decide +kernel
theorem dX10_goesInto_145 : decode cX10_goesInto 145 = .ok (.iinc 3 1, 3) := by decide +kernel
theorem dX10_goesInto_148 : decode cX10_goesInto 148 = .ok (.goto (-146), 3) := by decide +kernel
theorem dX10_goesInto_151 : decode cX10_goesInto 151 = .ok (.iconst 0, 1) := by decide +kernel
theorem dX10_goesInto_152 : decode cX10_goesInto 152 = .ok (.istore_n 3, 1) := by decide +kernel
theorem dX10_goesInto_153 : decode cX10_goesInto 153 = .ok (.iload_n 3, 1) := by decide +kernel
theorem dX10_goesInto_154 : decode cX10_goesInto 154 = .ok (.aload_n 0, 1) := by decide +kernel
theorem dX10_goesInto_155 : decode cX10_goesInto 155 = .ok (.getfield 67, 3) := by decide +kernel
theorem dX10_goesInto_158 : decode cX10_goesInto 158 = .ok (.if_icmp .ge 126, 3) := by decide +kernel
theorem dX10_goesInto_161 : decode cX10_goesInto 161 = .ok (.aload_n 0, 1) := by decide +kernel
theorem dX10_goesInto_162 : decode cX10_goesInto 162 = .ok (.getfield 70, 3) := by decide +kernel
theorem dX10_goesInto_165 : decode cX10_goesInto 165 = .ok (.iload_n 3, 1) := by decide +kernel
theorem dX10_goesInto_166 : decode cX10_goesInto 166 = .ok (.iaload, 1) := by decide +kernel
theorem dX10_goesInto_167 : decode cX10_goesInto 167 = .ok (.iload_n 2, 1) := by decide +kernel
theorem dX10_goesInto_168 : decode cX10_goesInto 168 = .ok (.if_icmp .ne 110, 3) := by decide +kernel
theorem dX10_goesInto_171 : decode cX10_goesInto 171 = .ok (.iload_n 1, 1) := by decide +kernel
theorem dX10_goesInto_172 : decode cX10_goesInto 172 = .ok (.ifCond .lt 19, 3) := by decide +kernel
theorem dX10_goesInto_175 : decode cX10_goesInto 175 = .ok (.aload_n 0, 1) := by decide +kernel
theorem dX10_goesInto_176 : decode cX10_goesInto 176 = .ok (.getfield 73, 3) := by decide +kernel
theorem dX10_goesInto_179 : decode cX10_goesInto 179 = .ok (.iload_n 3, 1) := by decide +kernel
theorem dX10_goesInto_180 : decode cX10_goesInto 180 = .ok (.iaload, 1) := by decide +kernel
theorem dX10_goesInto_181 : decode cX10_goesInto 181 = .ok (.iload_n 1, 1) := by decide +kernel
theorem dX10_goesInto_182 : decode cX10_goesInto 182 = .ok (.invokestatic 255, 3) := by decide +kernel
theorem dX10_goesInto_185 : decode cX10_goesInto 185 = .ok (.ifCond .eq 6, 3) := by decide +kernel
theorem dX10_goesInto_188 : decode cX10_goesInto 188 = .ok (.goto 90, 3) := by decide +kernel
theorem dX10_goesInto_191 : decode cX10_goesInto 191 = .ok (.iconst 0, 1) := by decide +kernel
theorem dX10_goesInto_192 : decode cX10_goesInto 192 = .ok (.istore 4, 2) := by decide +kernel
theorem dX10_goesInto_194 : decode cX10_goesInto 194 = .ok (.iload 4, 2) := by decide +kernel
theorem dX10_goesInto_196 : decode cX10_goesInto 196 = .ok (.bipush 12, 2) := by decide +kernel
theorem dX10_goesInto_198 : decode cX10_goesInto 198 = .ok (.if_icmp .ge 80, 3) := by decide +kernel
theorem dX10_goesInto_201 : decode cX10_goesInto 201 = .ok (.aload_n 0, 1) := by decide +kernel
theorem dX10_goesInto_202 : decode cX10_goesInto 202 = .ok (.getfield 94, 3) := by decide +kernel
theorem dX10_goesInto_205 : decode cX10_goesInto 205 = .ok (.bipush 8, 2) := by decide +kernel
theorem dX10_goesInto_207 : decode cX10_goesInto 207 = .ok (.iload 4, 2) := by decide +kernel
theorem dX10_goesInto_209 : decode cX10_goesInto 209 = .ok (.imul, 1) := by decide +kernel
theorem dX10_goesInto_210 : decode cX10_goesInto 210 = .ok (.iload_n 3, 1) := by decide +kernel
theorem dX10_goesInto_211 : decode cX10_goesInto 211 = .ok (.iadd, 1) := by decide +kernel
theorem dX10_goesInto_212 : decode cX10_goesInto 212 = .ok (.iaload, 1) := by decide +kernel
theorem dX10_goesInto_213 : decode cX10_goesInto 213 = .ok (.ifCond .lt 59, 3) := by decide +kernel
theorem dX10_goesInto_216 : decode cX10_goesInto 216 = .ok (.aload_n 0, 1) := by decide +kernel
theorem dX10_goesInto_217 : decode cX10_goesInto 217 = .ok (.getfield 61, 3) := by decide +kernel
theorem dX10_goesInto_220 : decode cX10_goesInto 220 = .ok (.iload_n 2, 1) := by decide +kernel
theorem dX10_goesInto_221 : decode cX10_goesInto 221 = .ok (.iaload, 1) := by decide +kernel
theorem dX10_goesInto_222 : decode cX10_goesInto 222 = .ok (.iload 4, 2) := by decide +kernel
theorem dX10_goesInto_224 : decode cX10_goesInto 224 = .ok (.invokestatic 255, 3) := by decide +kernel
theorem dX10_goesInto_227 : decode cX10_goesInto 227 = .ok (.ifCond .ne 6, 3) := by decide +kernel
theorem dX10_goesInto_230 : decode cX10_goesInto 230 = .ok (.goto 42, 3) := by decide +kernel
theorem dX10_goesInto_233 : decode cX10_goesInto 233 = .ok (.aload_n 0, 1) := by decide +kernel
theorem dX10_goesInto_234 : decode cX10_goesInto 234 = .ok (.getfield 109, 3) := by decide +kernel
theorem dX10_goesInto_237 : decode cX10_goesInto 237 = .ok (.aload_n 0, 1) := by decide +kernel
theorem dX10_goesInto_238 : decode cX10_goesInto 238 = .ok (.getfield 94, 3) := by decide +kernel
theorem dX10_goesInto_241 : decode cX10_goesInto 241 = .ok (.bipush 8, 2) := by decide +kernel
theorem dX10_goesInto_243 : decode cX10_goesInto 243 = .ok (.iload 4, 2) := by decide +kernel
theorem dX10_goesInto_245 : decode cX10_goesInto 245 = .ok (.imul, 1) := by decide +kernel
theorem dX10_goesInto_246 : decode cX10_goesInto 246 = .ok (.iload_n 3, 1) := by decide +kernel
theorem dX10_goesInto_247 : decode cX10_goesInto 247 = .ok (.iadd, 1) := by decide +kernel
theorem dX10_goesInto_248 : decode cX10_goesInto 248 = .ok (.iaload, 1) := by decide +kernel
theorem dX10_goesInto_249 : decode cX10_goesInto 249 = .ok (.aload_n 0, 1) := by decide +kernel
theorem dX10_goesInto_250 : decode cX10_goesInto 250 = .ok (.getfield 112, 3) := by decide +kernel
theorem dX10_goesInto_253 : decode cX10_goesInto 253 = .ok (.aload_n 0, 1) := by decide +kernel
theorem dX10_goesInto_254 : decode cX10_goesInto 254 = .ok (.getfield 91, 3) := by decide +kernel
theorem dX10_goesInto_257 : decode cX10_goesInto 257 = .ok (.iload 4, 2) := by decide +kernel
theorem dX10_goesInto_259 : decode cX10_goesInto 259 = .ok (.iaload, 1) := by decide +kernel
theorem dX10_goesInto_260 : decode cX10_goesInto 260 = .ok (.iaload, 1) := by decide +kernel
theorem dX10_goesInto_261 : decode cX10_goesInto 261 = .ok (.iastore, 1) := by decide +kernel
theorem dX10_goesInto_262 : decode cX10_goesInto 262 = .ok (.aload_n 0, 1) := by decide +kernel
theorem dX10_goesInto_263 : decode cX10_goesInto 263 = .ok (.getfield 118, 3) := by decide +kernel
theorem dX10_goesInto_266 : decode cX10_goesInto 266 = .ok (.iconst 1, 1) := by decide +kernel
theorem dX10_goesInto_267 : decode cX10_goesInto 267 = .ok (.dup2, 1) := by decide +kernel
theorem dX10_goesInto_268 : decode cX10_goesInto 268 = .ok (.iaload, 1) := by decide +kernel
theorem dX10_goesInto_269 : decode cX10_goesInto 269 = .ok (.iconst 1, 1) := by decide +kernel
theorem dX10_goesInto_270 : decode cX10_goesInto 270 = .ok (.iadd, 1) := by decide +kernel
theorem dX10_goesInto_271 : decode cX10_goesInto 271 = .ok (.iastore, 1) := by decide +kernel
theorem dX10_goesInto_272 : decode cX10_goesInto 272 = .ok (.iinc 4 1, 3) := by decide +kernel
theorem dX10_goesInto_275 : decode cX10_goesInto 275 = .ok (.goto (-81), 3) := by decide +kernel
theorem dX10_goesInto_278 : decode cX10_goesInto 278 = .ok (.iinc 3 1, 3) := by decide +kernel
theorem dX10_goesInto_281 : decode cX10_goesInto 281 = .ok (.goto (-128), 3) := by decide +kernel
theorem dX10_goesInto_284 : decode cX10_goesInto 284 = .ok (.return_, 1) := by decide +kernel
theorem dX10_enters_0 : decode cX10_enters 0 = .ok (.iconst 0, 1) := by decide +kernel
theorem dX10_enters_1 : decode cX10_enters 1 = .ok (.istore_n 1, 1) := by decide +kernel
theorem dX10_enters_2 : decode cX10_enters 2 = .ok (.iload_n 1, 1) := by decide +kernel
theorem dX10_enters_3 : decode cX10_enters 3 = .ok (.bipush 12, 2) := by decide +kernel
theorem dX10_enters_5 : decode cX10_enters 5 = .ok (.if_icmp .ge 90, 3) := by decide +kernel
theorem dX10_enters_8 : decode cX10_enters 8 = .ok (.aload_n 0, 1) := by decide +kernel
theorem dX10_enters_9 : decode cX10_enters 9 = .ok (.getfield 106, 3) := by decide +kernel
theorem dX10_enters_12 : decode cX10_enters 12 = .ok (.iload_n 1, 1) := by decide +kernel
theorem dX10_enters_13 : decode cX10_enters 13 = .ok (.aload_n 0, 1) := by decide +kernel
theorem dX10_enters_14 : decode cX10_enters 14 = .ok (.getfield 54, 3) := by decide +kernel
theorem dX10_enters_17 : decode cX10_enters 17 = .ok (.iload_n 1, 1) := by decide +kernel
theorem dX10_enters_18 : decode cX10_enters 18 = .ok (.iaload, 1) := by decide +kernel
theorem dX10_enters_19 : decode cX10_enters 19 = .ok (.iastore, 1) := by decide +kernel
theorem dX10_enters_20 : decode cX10_enters 20 = .ok (.aload_n 0, 1) := by decide +kernel
theorem dX10_enters_21 : decode cX10_enters 21 = .ok (.getfield 136, 3) := by decide +kernel
theorem dX10_enters_24 : decode cX10_enters 24 = .ok (.ifCond .eq 65, 3) := by decide +kernel
theorem dX10_enters_27 : decode cX10_enters 27 = .ok (.aload_n 0, 1) := by decide +kernel
theorem dX10_enters_28 : decode cX10_enters 28 = .ok (.getfield 61, 3) := by decide +kernel
theorem dX10_enters_31 : decode cX10_enters 31 = .ok (.iconst 0, 1) := by decide +kernel
theorem dX10_enters_32 : decode cX10_enters 32 = .ok (.iaload, 1) := by decide +kernel
theorem dX10_enters_33 : decode cX10_enters 33 = .ok (.iload_n 1, 1) := by decide +kernel
theorem dX10_enters_34 : decode cX10_enters 34 = .ok (.invokestatic 255, 3) := by decide +kernel
theorem dX10_enters_37 : decode cX10_enters 37 = .ok (.ifCond .ne 6, 3) := by decide +kernel
theorem dX10_enters_40 : decode cX10_enters 40 = .ok (.goto 49, 3) := by decide +kernel
theorem dX10_enters_43 : decode cX10_enters 43 = .ok (.aload_n 0, 1) := by decide +kernel
theorem dX10_enters_44 : decode cX10_enters 44 = .ok (.getfield 85, 3) := by decide +kernel
theorem dX10_enters_47 : decode cX10_enters 47 = .ok (.iload_n 1, 1) := by decide +kernel
theorem dX10_enters_48 : decode cX10_enters 48 = .ok (.iaload, 1) := by decide +kernel
theorem dX10_enters_49 : decode cX10_enters 49 = .ok (.ifCond .ne 23, 3) := by decide +kernel
theorem dX10_enters_52 : decode cX10_enters 52 = .ok (.aload_n 0, 1) := by decide +kernel
theorem dX10_enters_53 : decode cX10_enters 53 = .ok (.getfield 109, 3) := by decide +kernel
theorem dX10_enters_56 : decode cX10_enters 56 = .ok (.aload_n 0, 1) := by decide +kernel
theorem dX10_enters_57 : decode cX10_enters 57 = .ok (.getfield 88, 3) := by decide +kernel
theorem dX10_enters_60 : decode cX10_enters 60 = .ok (.iload_n 1, 1) := by decide +kernel
theorem dX10_enters_61 : decode cX10_enters 61 = .ok (.iaload, 1) := by decide +kernel
theorem dX10_enters_62 : decode cX10_enters 62 = .ok (.aload_n 0, 1) := by decide +kernel
theorem dX10_enters_63 : decode cX10_enters 63 = .ok (.getfield 54, 3) := by decide +kernel
theorem dX10_enters_66 : decode cX10_enters 66 = .ok (.iload_n 1, 1) := by decide +kernel
theorem dX10_enters_67 : decode cX10_enters 67 = .ok (.iaload, 1) := by decide +kernel
theorem dX10_enters_68 : decode cX10_enters 68 = .ok (.iastore, 1) := by decide +kernel
theorem dX10_enters_69 : decode cX10_enters 69 = .ok (.goto 20, 3) := by decide +kernel
theorem dX10_enters_72 : decode cX10_enters 72 = .ok (.aload_n 0, 1) := by decide +kernel
theorem dX10_enters_73 : decode cX10_enters 73 = .ok (.getfield 112, 3) := by decide +kernel
theorem dX10_enters_76 : decode cX10_enters 76 = .ok (.aload_n 0, 1) := by decide +kernel
theorem dX10_enters_77 : decode cX10_enters 77 = .ok (.getfield 91, 3) := by decide +kernel
theorem dX10_enters_80 : decode cX10_enters 80 = .ok (.iload_n 1, 1) := by decide +kernel
theorem dX10_enters_81 : decode cX10_enters 81 = .ok (.iaload, 1) := by decide +kernel
theorem dX10_enters_82 : decode cX10_enters 82 = .ok (.aload_n 0, 1) := by decide +kernel
theorem dX10_enters_83 : decode cX10_enters 83 = .ok (.getfield 54, 3) := by decide +kernel
theorem dX10_enters_86 : decode cX10_enters 86 = .ok (.iload_n 1, 1) := by decide +kernel
theorem dX10_enters_87 : decode cX10_enters 87 = .ok (.iaload, 1) := by decide +kernel
theorem dX10_enters_88 : decode cX10_enters 88 = .ok (.iastore, 1) := by decide +kernel
theorem dX10_enters_89 : decode cX10_enters 89 = .ok (.iinc 1 1, 3) := by decide +kernel
theorem dX10_enters_92 : decode cX10_enters 92 = .ok (.goto (-90), 3) := by decide +kernel
theorem dX10_enters_95 : decode cX10_enters 95 = .ok (.aload_n 0, 1) := by decide +kernel
theorem dX10_enters_96 : decode cX10_enters 96 = .ok (.getfield 136, 3) := by decide +kernel
theorem dX10_enters_99 : decode cX10_enters 99 = .ok (.ifCond .eq 9, 3) := by decide +kernel
theorem dX10_enters_102 : decode cX10_enters 102 = .ok (.aload_n 0, 1) := by decide +kernel
theorem dX10_enters_103 : decode cX10_enters 103 = .ok (.iconst (-1), 1) := by decide +kernel
theorem dX10_enters_104 : decode cX10_enters 104 = .ok (.iconst 0, 1) := by decide +kernel
theorem dX10_enters_105 : decode cX10_enters 105 = .ok (.invokevirtual 362, 3) := by decide +kernel
theorem dX10_enters_108 : decode cX10_enters 108 = .ok (.return_, 1) := by decide +kernel
theorem dX10_executes_0 : decode cX10_executes 0 = .ok (.iconst 0, 1) := by decide +kernel
theorem dX10_executes_1 : decode cX10_executes 1 = .ok (.istore_n 2, 1) := by decide +kernel
theorem dX10_executes_2 : decode cX10_executes 2 = .ok (.iload_n 2, 1) := by decide +kernel
theorem dX10_executes_3 : decode cX10_executes 3 = .ok (.iconst 4, 1) := by decide +kernel
theorem dX10_executes_4 : decode cX10_executes 4 = .ok (.if_icmp .ge 16, 3) := by decide +kernel
theorem dX10_executes_7 : decode cX10_executes 7 = .ok (.aload_n 0, 1) := by decide +kernel
theorem dX10_executes_8 : decode cX10_executes 8 = .ok (.getfield 118, 3) := by decide +kernel
theorem dX10_executes_11 : decode cX10_executes 11 = .ok (.iload_n 2, 1) := by decide +kernel
theorem dX10_executes_12 : decode cX10_executes 12 = .ok (.iconst 0, 1) := by decide +kernel
theorem dX10_executes_13 : decode cX10_executes 13 = .ok (.iastore, 1) := by decide +kernel
theorem dX10_executes_14 : decode cX10_executes 14 = .ok (.iinc 2 1, 3) := by decide +kernel
theorem dX10_executes_17 : decode cX10_executes 17 = .ok (.goto (-15), 3) := by decide +kernel
theorem dX10_executes_20 : decode cX10_executes 20 = .ok (.iconst 0, 1) := by decide +kernel
theorem dX10_executes_21 : decode cX10_executes 21 = .ok (.istore_n 2, 1) := by decide +kernel
theorem dX10_executes_22 : decode cX10_executes 22 = .ok (.iload_n 2, 1) := by decide +kernel
theorem dX10_executes_23 : decode cX10_executes 23 = .ok (.bipush 8, 2) := by decide +kernel
theorem dX10_executes_25 : decode cX10_executes 25 = .ok (.if_icmp .ge 16, 3) := by decide +kernel
theorem dX10_executes_28 : decode cX10_executes 28 = .ok (.aload_n 0, 1) := by decide +kernel
theorem dX10_executes_29 : decode cX10_executes 29 = .ok (.getfield 124, 3) := by decide +kernel
theorem dX10_executes_32 : decode cX10_executes 32 = .ok (.iload_n 2, 1) := by decide +kernel
theorem dX10_executes_33 : decode cX10_executes 33 = .ok (.iconst 0, 1) := by decide +kernel
theorem dX10_executes_34 : decode cX10_executes 34 = .ok (.iastore, 1) := by decide +kernel
theorem dX10_executes_35 : decode cX10_executes 35 = .ok (.iinc 2 1, 3) := by decide +kernel
theorem dX10_executes_38 : decode cX10_executes 38 = .ok (.goto (-16), 3) := by decide +kernel
theorem dX10_executes_41 : decode cX10_executes 41 = .ok (.aload_n 0, 1) := by decide +kernel
theorem dX10_executes_42 : decode cX10_executes 42 = .ok (.invokevirtual 252, 3) := by decide +kernel
theorem dX10_executes_45 : decode cX10_executes 45 = .ok (.aload_n 0, 1) := by decide +kernel
theorem dX10_executes_46 : decode cX10_executes 46 = .ok (.invokevirtual 276, 3) := by decide +kernel
theorem dX10_executes_49 : decode cX10_executes 49 = .ok (.aload_n 0, 1) := by decide +kernel
theorem dX10_executes_50 : decode cX10_executes 50 = .ok (.iconst 0, 1) := by decide +kernel
theorem dX10_executes_51 : decode cX10_executes 51 = .ok (.putfield 133, 3) := by decide +kernel
theorem dX10_executes_54 : decode cX10_executes 54 = .ok (.aload_n 0, 1) := by decide +kernel
theorem dX10_executes_55 : decode cX10_executes 55 = .ok (.invokevirtual 365, 3) := by decide +kernel
theorem dX10_executes_58 : decode cX10_executes 58 = .ok (.aload_n 0, 1) := by decide +kernel
theorem dX10_executes_59 : decode cX10_executes 59 = .ok (.getfield 127, 3) := by decide +kernel
theorem dX10_executes_62 : decode cX10_executes 62 = .ok (.iconst 0, 1) := by decide +kernel
theorem dX10_executes_63 : decode cX10_executes 63 = .ok (.iconst (-1), 1) := by decide +kernel
theorem dX10_executes_64 : decode cX10_executes 64 = .ok (.iastore, 1) := by decide +kernel
theorem dX10_executes_65 : decode cX10_executes 65 = .ok (.aload_n 0, 1) := by decide +kernel
theorem dX10_executes_66 : decode cX10_executes 66 = .ok (.getfield 127, 3) := by decide +kernel
theorem dX10_executes_69 : decode cX10_executes 69 = .ok (.iconst 1, 1) := by decide +kernel
theorem dX10_executes_70 : decode cX10_executes 70 = .ok (.iconst (-1), 1) := by decide +kernel
theorem dX10_executes_71 : decode cX10_executes 71 = .ok (.iastore, 1) := by decide +kernel
theorem dX10_executes_72 : decode cX10_executes 72 = .ok (.aload_n 0, 1) := by decide +kernel
theorem dX10_executes_73 : decode cX10_executes 73 = .ok (.iconst 0, 1) := by decide +kernel
theorem dX10_executes_74 : decode cX10_executes 74 = .ok (.putfield 130, 3) := by decide +kernel
theorem dX10_executes_77 : decode cX10_executes 77 = .ok (.aload_n 0, 1) := by decide +kernel
theorem dX10_executes_78 : decode cX10_executes 78 = .ok (.getfield 124, 3) := by decide +kernel
theorem dX10_executes_81 : decode cX10_executes 81 = .ok (.aload_n 0, 1) := by decide +kernel
theorem dX10_executes_82 : decode cX10_executes 82 = .ok (.getfield 133, 3) := by decide +kernel
theorem dX10_executes_85 : decode cX10_executes 85 = .ok (.dup2, 1) := by decide +kernel
