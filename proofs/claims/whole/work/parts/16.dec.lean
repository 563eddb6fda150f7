theorem dX3_execute_122 : decode cX3_execute 122 = .ok (.iconst 0, 1) := by decide +kernel
theorem dX3_execute_123 : decode cX3_execute 123 = .ok (.ireturn, 1) := by decide +kernel
theorem dX6_placeInitial_0 : decode cX6_placeInitial 0 = .ok (.aload_n 0, 1) := by decide +kernel
theorem dX6_placeInitial_1 : decode cX6_placeInitial 1 = .ok (.getfield 24, 3) := by decide +kernel
theorem dX6_placeInitial_4 : decode cX6_placeInitial 4 = .ok (.getfield 54, 3) := by decide +kernel
theorem dX6_placeInitial_7 : decode cX6_placeInitial 7 = .ok (.iload_n 1, 1) := by decide +kernel
theorem dX6_placeInitial_8 : decode cX6_placeInitial 8 = .ok (.iaload, 1) := by decide +kernel
theorem dX6_placeInitial_9 : decode cX6_placeInitial 9 = .ok (.ifCond .ne 29, 3) := by decide +kernel
theorem dX6_placeInitial_12 : decode cX6_placeInitial 12 = .ok (.aload_n 0, 1) := by decide +kernel
theorem dX6_placeInitial_13 : decode cX6_placeInitial 13 = .ok (.getfield 9, 3) := by decide +kernel
theorem dX6_placeInitial_16 : decode cX6_placeInitial 16 = .ok (.aload_n 0, 1) := by decide +kernel
theorem dX6_placeInitial_17 : decode cX6_placeInitial 17 = .ok (.getfield 24, 3) := by decide +kernel
theorem dX6_placeInitial_20 : decode cX6_placeInitial 20 = .ok (.getfield 57, 3) := by decide +kernel
theorem dX6_placeInitial_23 : decode cX6_placeInitial 23 = .ok (.iload_n 1, 1) := by decide +kernel
theorem dX6_placeInitial_24 : decode cX6_placeInitial 24 = .ok (.iaload, 1) := by decide +kernel
theorem dX6_placeInitial_25 : decode cX6_placeInitial 25 = .ok (.aload_n 0, 1) := by decide +kernel
theorem dX6_placeInitial_26 : decode cX6_placeInitial 26 = .ok (.getfield 60, 3) := by decide +kernel
theorem dX6_placeInitial_29 : decode cX6_placeInitial 29 = .ok (.getfield 64, 3) := by decide +kernel
theorem dX6_placeInitial_32 : decode cX6_placeInitial 32 = .ok (.iload_n 1, 1) := by decide +kernel
theorem dX6_placeInitial_33 : decode cX6_placeInitial 33 = .ok (.iaload, 1) := by decide +kernel
theorem dX6_placeInitial_34 : decode cX6_placeInitial 34 = .ok (.iastore, 1) := by decide +kernel
theorem dX6_placeInitial_35 : decode cX6_placeInitial 35 = .ok (.goto 39, 3) := by decide +kernel
theorem dX6_placeInitial_38 : decode cX6_placeInitial 38 = .ok (.aload_n 0, 1) := by decide +kernel
theorem dX6_placeInitial_39 : decode cX6_placeInitial 39 = .ok (.getfield 24, 3) := by decide +kernel
theorem dX6_placeInitial_42 : decode cX6_placeInitial 42 = .ok (.getfield 54, 3) := by decide +kernel
theorem dX6_placeInitial_45 : decode cX6_placeInitial 45 = .ok (.iload_n 1, 1) := by decide +kernel
theorem dX6_placeInitial_46 : decode cX6_placeInitial 46 = .ok (.iaload, 1) := by decide +kernel
theorem dX6_placeInitial_47 : decode cX6_placeInitial 47 = .ok (.iconst 1, 1) := by decide +kernel
theorem dX6_placeInitial_48 : decode cX6_placeInitial 48 = .ok (.if_icmp .ne 26, 3) := by decide +kernel
theorem dX6_placeInitial_51 : decode cX6_placeInitial 51 = .ok (.aload_n 0, 1) := by decide +kernel
theorem dX6_placeInitial_52 : decode cX6_placeInitial 52 = .ok (.getfield 15, 3) := by decide +kernel
theorem dX6_placeInitial_55 : decode cX6_placeInitial 55 = .ok (.aload_n 0, 1) := by decide +kernel
theorem dX6_placeInitial_56 : decode cX6_placeInitial 56 = .ok (.getfield 24, 3) := by decide +kernel
theorem dX6_placeInitial_59 : decode cX6_placeInitial 59 = .ok (.getfield 69, 3) := by decide +kernel
theorem dX6_placeInitial_62 : decode cX6_placeInitial 62 = .ok (.iload_n 1, 1) := by decide +kernel
theorem dX6_placeInitial_63 : decode cX6_placeInitial 63 = .ok (.iaload, 1) := by decide +kernel
theorem dX6_placeInitial_64 : decode cX6_placeInitial 64 = .ok (.aload_n 0, 1) := by decide +kernel
theorem dX6_placeInitial_65 : decode cX6_placeInitial 65 = .ok (.getfield 60, 3) := by decide +kernel
theorem dX6_placeInitial_68 : decode cX6_placeInitial 68 = .ok (.getfield 64, 3) := by decide +kernel
theorem dX6_placeInitial_71 : decode cX6_placeInitial 71 = .ok (.iload_n 1, 1) := by decide +kernel
theorem dX6_placeInitial_72 : decode cX6_placeInitial 72 = .ok (.iaload, 1) := by decide +kernel
theorem dX6_placeInitial_73 : decode cX6_placeInitial 73 = .ok (.iastore, 1) := by decide +kernel
theorem dX6_placeInitial_74 : decode cX6_placeInitial 74 = .ok (.return_, 1) := by decide +kernel
theorem dX6_prepare_0 : decode cX6_prepare 0 = .ok (.aload_n 0, 1) := by decide +kernel
theorem dX6_prepare_1 : decode cX6_prepare 1 = .ok (.getfield 9, 3) := by decide +kernel
theorem dX6_prepare_4 : decode cX6_prepare 4 = .ok (.iconst 0, 1) := by decide +kernel
theorem dX6_prepare_5 : decode cX6_prepare 5 = .ok (.invokestatic 28, 3) := by decide +kernel
theorem dX6_prepare_8 : decode cX6_prepare 8 = .ok (.aload_n 0, 1) := by decide +kernel
theorem dX6_prepare_9 : decode cX6_prepare 9 = .ok (.getfield 15, 3) := by decide +kernel
theorem dX6_prepare_12 : decode cX6_prepare 12 = .ok (.iconst 0, 1) := by decide +kernel
theorem dX6_prepare_13 : decode cX6_prepare 13 = .ok (.invokestatic 28, 3) := by decide +kernel
theorem dX6_prepare_16 : decode cX6_prepare 16 = .ok (.aload_n 0, 1) := by decide +kernel
theorem dX6_prepare_17 : decode cX6_prepare 17 = .ok (.getfield 24, 3) := by decide +kernel
theorem dX6_prepare_20 : decode cX6_prepare 20 = .ok (.getfield 34, 3) := by decide +kernel
theorem dX6_prepare_23 : decode cX6_prepare 23 = .ok (.iconst 0, 1) := by decide +kernel
theorem dX6_prepare_24 : decode cX6_prepare 24 = .ok (.invokevirtual 40, 3) := by decide +kernel
theorem dX6_prepare_27 : decode cX6_prepare 27 = .ok (.istore_n 1, 1) := by decide +kernel
theorem dX6_prepare_28 : decode cX6_prepare 28 = .ok (.iconst 0, 1) := by decide +kernel
theorem dX6_prepare_29 : decode cX6_prepare 29 = .ok (.istore_n 2, 1) := by decide +kernel
theorem dX6_prepare_30 : decode cX6_prepare 30 = .ok (.iload_n 2, 1) := by decide +kernel
theorem dX6_prepare_31 : decode cX6_prepare 31 = .ok (.bipush 12, 2) := by decide +kernel
theorem dX6_prepare_33 : decode cX6_prepare 33 = .ok (.if_icmp .ge 22, 3) := by decide +kernel
theorem dX6_prepare_36 : decode cX6_prepare 36 = .ok (.iload_n 1, 1) := by decide +kernel
theorem dX6_prepare_37 : decode cX6_prepare 37 = .ok (.iload_n 2, 1) := by decide +kernel
theorem dX6_prepare_38 : decode cX6_prepare 38 = .ok (.invokestatic 46, 3) := by decide +kernel
theorem dX6_prepare_41 : decode cX6_prepare 41 = .ok (.ifCond .eq 8, 3) := by decide +kernel
theorem dX6_prepare_44 : decode cX6_prepare 44 = .ok (.aload_n 0, 1) := by decide +kernel
theorem dX6_prepare_45 : decode cX6_prepare 45 = .ok (.iload_n 2, 1) := by decide +kernel
theorem dX6_prepare_46 : decode cX6_prepare 46 = .ok (.invokevirtual 50, 3) := by decide +kernel
theorem dX6_prepare_49 : decode cX6_prepare 49 = .ok (.iinc 2 1, 3) := by decide +kernel
theorem dX6_prepare_52 : decode cX6_prepare 52 = .ok (.goto (-22), 3) := by decide +kernel
theorem dX6_prepare_55 : decode cX6_prepare 55 = .ok (.return_, 1) := by decide +kernel
theorem dX6_loadPromoted_0 : decode cX6_loadPromoted 0 = .ok (.aload_n 0, 1) := by decide +kernel
theorem dX6_loadPromoted_1 : decode cX6_loadPromoted 1 = .ok (.getfield 24, 3) := by decide +kernel
theorem dX6_loadPromoted_4 : decode cX6_loadPromoted 4 = .ok (.getfield 34, 3) := by decide +kernel
theorem dX6_loadPromoted_7 : decode cX6_loadPromoted 7 = .ok (.iload_n 2, 1) := by decide +kernel
theorem dX6_loadPromoted_8 : decode cX6_loadPromoted 8 = .ok (.invokevirtual 40, 3) := by decide +kernel
theorem dX6_loadPromoted_11 : decode cX6_loadPromoted 11 = .ok (.istore_n 3, 1) := by decide +kernel
theorem dX6_loadPromoted_12 : decode cX6_loadPromoted 12 = .ok (.iconst 0, 1) := by decide +kernel
theorem dX6_loadPromoted_13 : decode cX6_loadPromoted 13 = .ok (.istore 4, 2) := by decide +kernel
theorem dX6_loadPromoted_15 : decode cX6_loadPromoted 15 = .ok (.iload 4, 2) := by decide +kernel
theorem dX6_loadPromoted_17 : decode cX6_loadPromoted 17 = .ok (.bipush 12, 2) := by decide +kernel
theorem dX6_loadPromoted_19 : decode cX6_loadPromoted 19 = .ok (.if_icmp .ge 73, 3) := by decide +kernel
theorem dX6_loadPromoted_22 : decode cX6_loadPromoted 22 = .ok (.aload_n 0, 1) := by decide +kernel
theorem dX6_loadPromoted_23 : decode cX6_loadPromoted 23 = .ok (.getfield 24, 3) := by decide +kernel
theorem dX6_loadPromoted_26 : decode cX6_loadPromoted 26 = .ok (.getfield 101, 3) := by decide +kernel
theorem dX6_loadPromoted_29 : decode cX6_loadPromoted 29 = .ok (.iload_n 1, 1) := by decide +kernel
theorem dX6_loadPromoted_30 : decode cX6_loadPromoted 30 = .ok (.bipush 12, 2) := by decide +kernel
theorem dX6_loadPromoted_32 : decode cX6_loadPromoted 32 = .ok (.imul, 1) := by decide +kernel
theorem dX6_loadPromoted_33 : decode cX6_loadPromoted 33 = .ok (.iload 4, 2) := by decide +kernel
theorem dX6_loadPromoted_35 : decode cX6_loadPromoted 35 = .ok (.iadd, 1) := by decide +kernel
theorem dX6_loadPromoted_36 : decode cX6_loadPromoted 36 = .ok (.iaload, 1) := by decide +kernel
theorem dX6_loadPromoted_37 : decode cX6_loadPromoted 37 = .ok (.istore 5, 2) := by decide +kernel
theorem dX6_loadPromoted_39 : decode cX6_loadPromoted 39 = .ok (.iload 5, 2) := by decide +kernel
theorem dX6_loadPromoted_41 : decode cX6_loadPromoted 41 = .ok (.iconst (-1), 1) := by decide +kernel
theorem dX6_loadPromoted_42 : decode cX6_loadPromoted 42 = .ok (.if_icmp .eq 44, 3) := by decide +kernel
theorem dX6_loadPromoted_45 : decode cX6_loadPromoted 45 = .ok (.iload_n 3, 1) := by decide +kernel
theorem dX6_loadPromoted_46 : decode cX6_loadPromoted 46 = .ok (.iload 4, 2) := by decide +kernel
theorem dX6_loadPromoted_48 : decode cX6_loadPromoted 48 = .ok (.invokestatic 46, 3) := by decide +kernel
theorem dX6_loadPromoted_51 : decode cX6_loadPromoted 51 = .ok (.ifCond .eq 35, 3) := by decide +kernel
theorem dX6_loadPromoted_54 : decode cX6_loadPromoted 54 = .ok (.aload_n 0, 1) := by decide +kernel
theorem dX6_loadPromoted_55 : decode cX6_loadPromoted 55 = .ok (.getfield 9, 3) := by decide +kernel
theorem dX6_loadPromoted_58 : decode cX6_loadPromoted 58 = .ok (.iload 5, 2) := by decide +kernel
theorem dX6_loadPromoted_60 : decode cX6_loadPromoted 60 = .ok (.aload_n 0, 1) := by decide +kernel
theorem dX6_loadPromoted_61 : decode cX6_loadPromoted 61 = .ok (.getfield 15, 3) := by decide +kernel
theorem dX6_loadPromoted_64 : decode cX6_loadPromoted 64 = .ok (.aload_n 0, 1) := by decide +kernel
theorem dX6_loadPromoted_65 : decode cX6_loadPromoted 65 = .ok (.getfield 24, 3) := by decide +kernel
theorem dX6_loadPromoted_68 : decode cX6_loadPromoted 68 = .ok (.getfield 69, 3) := by decide +kernel
theorem dX6_loadPromoted_71 : decode cX6_loadPromoted 71 = .ok (.iload 4, 2) := by decide +kernel
theorem dX6_loadPromoted_73 : decode cX6_loadPromoted 73 = .ok (.iaload, 1) := by decide +kernel
theorem dX6_loadPromoted_74 : decode cX6_loadPromoted 74 = .ok (.iaload, 1) := by decide +kernel
theorem dX6_loadPromoted_75 : decode cX6_loadPromoted 75 = .ok (.iastore, 1) := by decide +kernel
theorem dX6_loadPromoted_76 : decode cX6_loadPromoted 76 = .ok (.aload_n 0, 1) := by decide +kernel
theorem dX6_loadPromoted_77 : decode cX6_loadPromoted 77 = .ok (.dup, 1) := by decide +kernel
theorem dX6_loadPromoted_78 : decode cX6_loadPromoted 78 = .ok (.getfield 107, 3) := by decide +kernel
theorem dX6_loadPromoted_81 : decode cX6_loadPromoted 81 = .ok (.iconst 1, 1) := by decide +kernel
theorem dX6_loadPromoted_82 : decode cX6_loadPromoted 82 = .ok (.iadd, 1) := by decide +kernel
theorem dX6_loadPromoted_83 : decode cX6_loadPromoted 83 = .ok (.putfield 107, 3) := by decide +kernel
theorem dX6_loadPromoted_86 : decode cX6_loadPromoted 86 = .ok (.iinc 4 1, 3) := by decide +kernel
theorem dX6_loadPromoted_89 : decode cX6_loadPromoted 89 = .ok (.goto (-74), 3) := by decide +kernel
theorem dX6_loadPromoted_92 : decode cX6_loadPromoted 92 = .ok (.return_, 1) := by decide +kernel
theorem dX6_storePromoted_0 : decode cX6_storePromoted 0 = .ok (.aload_n 0, 1) := by decide +kernel
theorem dX6_storePromoted_1 : decode cX6_storePromoted 1 = .ok (.getfield 24, 3) := by decide +kernel
theorem dX6_storePromoted_4 : decode cX6_storePromoted 4 = .ok (.getfield 34, 3) := by decide +kernel
theorem dX6_storePromoted_7 : decode cX6_storePromoted 7 = .ok (.iload_n 2, 1) := by decide +kernel
theorem dX6_storePromoted_8 : decode cX6_storePromoted 8 = .ok (.invokevirtual 40, 3) := by decide +kernel
theorem dX6_storePromoted_11 : decode cX6_storePromoted 11 = .ok (.aload_n 0, 1) := by decide +kernel
theorem dX6_storePromoted_12 : decode cX6_storePromoted 12 = .ok (.getfield 24, 3) := by decide +kernel
theorem dX6_storePromoted_15 : decode cX6_storePromoted 15 = .ok (.getfield 98, 3) := by decide +kernel
theorem dX6_storePromoted_18 : decode cX6_storePromoted 18 = .ok (.iload_n 1, 1) := by decide +kernel
theorem dX6_storePromoted_19 : decode cX6_storePromoted 19 = .ok (.iaload, 1) := by decide +kernel
theorem dX6_storePromoted_20 : decode cX6_storePromoted 20 = .ok (.iand, 1) := by decide +kernel
theorem dX6_storePromoted_21 : decode cX6_storePromoted 21 = .ok (.istore_n 3, 1) := by decide +kernel
theorem dX6_storePromoted_22 : decode cX6_storePromoted 22 = .ok (.iconst 0, 1) := by decide +kernel
theorem dX6_storePromoted_23 : decode cX6_storePromoted 23 = .ok (.istore 4, 2) := by decide +kernel
theorem dX6_storePromoted_25 : decode cX6_storePromoted 25 = .ok (.iload 4, 2) := by decide +kernel
theorem dX6_storePromoted_27 : decode cX6_storePromoted 27 = .ok (.bipush 12, 2) := by decide +kernel
theorem dX6_storePromoted_29 : decode cX6_storePromoted 29 = .ok (.if_icmp .ge 73, 3) := by decide +kernel
theorem dX6_storePromoted_32 : decode cX6_storePromoted 32 = .ok (.aload_n 0, 1) := by decide +kernel
theorem dX6_storePromoted_33 : decode cX6_storePromoted 33 = .ok (.getfield 24, 3) := by decide +kernel
theorem dX6_storePromoted_36 : decode cX6_storePromoted 36 = .ok (.getfield 101, 3) := by decide +kernel
theorem dX6_storePromoted_39 : decode cX6_storePromoted 39 = .ok (.iload_n 1, 1) := by decide +kernel
theorem dX6_storePromoted_40 : decode cX6_storePromoted 40 = .ok (.bipush 12, 2) := by decide +kernel
theorem dX6_storePromoted_42 : decode cX6_storePromoted 42 = .ok (.imul, 1) := by decide +kernel
theorem dX6_storePromoted_43 : decode cX6_storePromoted 43 = .ok (.iload 4, 2) := by decide +kernel
theorem dX6_storePromoted_45 : decode cX6_storePromoted 45 = .ok (.iadd, 1) := by decide +kernel
theorem dX6_storePromoted_46 : decode cX6_storePromoted 46 = .ok (.iaload, 1) := by decide +kernel
theorem dX6_storePromoted_47 : decode cX6_storePromoted 47 = .ok (.istore 5, 2) := by decide +kernel
theorem dX6_storePromoted_49 : decode cX6_storePromoted 49 = .ok (.iload 5, 2) := by decide +kernel
theorem dX6_storePromoted_51 : decode cX6_storePromoted 51 = .ok (.iconst (-1), 1) := by decide +kernel
theorem dX6_storePromoted_52 : decode cX6_storePromoted 52 = .ok (.if_icmp .eq 44, 3) := by decide +kernel
theorem dX6_storePromoted_55 : decode cX6_storePromoted 55 = .ok (.iload_n 3, 1) := by decide +kernel
theorem dX6_storePromoted_56 : decode cX6_storePromoted 56 = .ok (.iload 4, 2) := by decide +kernel
theorem dX6_storePromoted_58 : decode cX6_storePromoted 58 = .ok (.invokestatic 46, 3) := by decide +kernel
theorem dX6_storePromoted_61 : decode cX6_storePromoted 61 = .ok (.ifCond .eq 35, 3) := by decide +kernel
theorem dX6_storePromoted_64 : decode cX6_storePromoted 64 = .ok (.aload_n 0, 1) := by decide +kernel
theorem dX6_storePromoted_65 : decode cX6_storePromoted 65 = .ok (.getfield 15, 3) := by decide +kernel
theorem dX6_storePromoted_68 : decode cX6_storePromoted 68 = .ok (.aload_n 0, 1) := by decide +kernel
theorem dX6_storePromoted_69 : decode cX6_storePromoted 69 = .ok (.getfield 24, 3) := by decide +kernel
theorem dX6_storePromoted_72 : decode cX6_storePromoted 72 = .ok (.getfield 69, 3) := by decide +kernel
theorem dX6_storePromoted_75 : decode cX6_storePromoted 75 = .ok (.iload 4, 2) := by decide +kernel
theorem dX6_storePromoted_77 : decode cX6_storePromoted 77 = .ok (.iaload, 1) := by decide +kernel
theorem dX6_storePromoted_78 : decode cX6_storePromoted 78 = .ok (.aload_n 0, 1) := by decide +kernel
theorem dX6_storePromoted_79 : decode cX6_storePromoted 79 = .ok (.getfield 9, 3) := by decide +kernel
theorem dX6_storePromoted_82 : decode cX6_storePromoted 82 = .ok (.iload 5, 2) := by decide +kernel
theorem dX6_storePromoted_84 : decode cX6_storePromoted 84 = .ok (.iaload, 1) := by decide +kernel
theorem dX6_storePromoted_85 : decode cX6_storePromoted 85 = .ok (.iastore, 1) := by decide +kernel
theorem dX6_storePromoted_86 : decode cX6_storePromoted 86 = .ok (.aload_n 0, 1) := by decide +kernel
theorem dX6_storePromoted_87 : decode cX6_storePromoted 87 = .ok (.dup, 1) := by decide +kernel
theorem dX6_storePromoted_88 : decode cX6_storePromoted 88 = .ok (.getfield 104, 3) := by decide +kernel
theorem dX6_storePromoted_91 : decode cX6_storePromoted 91 = .ok (.iconst 1, 1) := by decide +kernel
theorem dX6_storePromoted_92 : decode cX6_storePromoted 92 = .ok (.iadd, 1) := by decide +kernel
theorem dX6_storePromoted_93 : decode cX6_storePromoted 93 = .ok (.putfield 104, 3) := by decide +kernel
theorem dX6_storePromoted_96 : decode cX6_storePromoted 96 = .ok (.iinc 4 1, 3) := by decide +kernel
theorem dX6_storePromoted_99 : decode cX6_storePromoted 99 = .ok (.goto (-74), 3) := by decide +kernel
theorem dX6_storePromoted_102 : decode cX6_storePromoted 102 = .ok (.return_, 1) := by decide +kernel
theorem dX6_enter_0 : decode cX6_enter 0 = .ok (.iconst 0, 1) := by decide +kernel
theorem dX6_enter_1 : decode cX6_enter 1 = .ok (.istore_n 3, 1) := by decide +kernel
theorem dX6_enter_2 : decode cX6_enter 2 = .ok (.iload_n 3, 1) := by decide +kernel
theorem dX6_enter_3 : decode cX6_enter 3 = .ok (.aload_n 0, 1) := by decide +kernel
theorem dX6_enter_4 : decode cX6_enter 4 = .ok (.getfield 24, 3) := by decide +kernel
theorem dX6_enter_7 : decode cX6_enter 7 = .ok (.getfield 72, 3) := by decide +kernel
theorem dX6_enter_10 : decode cX6_enter 10 = .ok (.getfield 76, 3) := by decide +kernel
theorem dX6_enter_13 : decode cX6_enter 13 = .ok (.if_icmp .ge 45, 3) := by decide +kernel
theorem dX6_enter_16 : decode cX6_enter 16 = .ok (.aload_n 0, 1) := by decide +kernel
theorem dX6_enter_17 : decode cX6_enter 17 = .ok (.getfield 24, 3) := by decide +kernel
theorem dX6_enter_20 : decode cX6_enter 20 = .ok (.getfield 72, 3) := by decide +kernel
theorem dX6_enter_23 : decode cX6_enter 23 = .ok (.iload_n 3, 1) := by decide +kernel
theorem dX6_enter_24 : decode cX6_enter 24 = .ok (.iload_n 1, 1) := by decide +kernel
theorem dX6_enter_25 : decode cX6_enter 25 = .ok (.invokevirtual 82, 3) := by decide +kernel
theorem dX6_enter_28 : decode cX6_enter 28 = .ok (.ifCond .eq 24, 3) := by decide +kernel
theorem dX6_enter_31 : decode cX6_enter 31 = .ok (.aload_n 0, 1) := by decide +kernel
theorem dX6_enter_32 : decode cX6_enter 32 = .ok (.getfield 24, 3) := by decide +kernel
theorem dX6_enter_35 : decode cX6_enter 35 = .ok (.getfield 72, 3) := by decide +kernel
theorem dX6_enter_38 : decode cX6_enter 38 = .ok (.iload_n 3, 1) := by decide +kernel
theorem dX6_enter_39 : decode cX6_enter 39 = .ok (.iload_n 2, 1) := by decide +kernel
theorem dX6_enter_40 : decode cX6_enter 40 = .ok (.invokevirtual 82, 3) := by decide +kernel
theorem dX6_enter_43 : decode cX6_enter 43 = .ok (.ifCond .ne 9, 3) := by decide +kernel
theorem dX6_enter_46 : decode cX6_enter 46 = .ok (.aload_n 0, 1) := by decide +kernel
theorem dX6_enter_47 : decode cX6_enter 47 = .ok (.iload_n 3, 1) := by decide +kernel
theorem dX6_enter_48 : decode cX6_enter 48 = .ok (.iload_n 2, 1) := by decide +kernel
theorem dX6_enter_49 : decode cX6_enter 49 = .ok (.invokevirtual 85, 3) := by decide +kernel
theorem dX6_enter_52 : decode cX6_enter 52 = .ok (.iinc 3 1, 3) := by decide +kernel
theorem dX6_enter_55 : decode cX6_enter 55 = .ok (.goto (-53), 3) := by decide +kernel
theorem dX6_enter_58 : decode cX6_enter 58 = .ok (.iconst 0, 1) := by decide +kernel
theorem dX6_enter_59 : decode cX6_enter 59 = .ok (.istore_n 3, 1) := by decide +kernel
theorem dX6_enter_60 : decode cX6_enter 60 = .ok (.iload_n 3, 1) := by decide +kernel
theorem dX6_enter_61 : decode cX6_enter 61 = .ok (.aload_n 0, 1) := by decide +kernel
theorem dX6_enter_62 : decode cX6_enter 62 = .ok (.getfield 24, 3) := by decide +kernel
theorem dX6_enter_65 : decode cX6_enter 65 = .ok (.getfield 72, 3) := by decide +kernel
theorem dX6_enter_68 : decode cX6_enter 68 = .ok (.getfield 76, 3) := by decide +kernel
theorem dX6_enter_71 : decode cX6_enter 71 = .ok (.if_icmp .ge 46, 3) := by decide +kernel
theorem dX6_enter_74 : decode cX6_enter 74 = .ok (.aload_n 0, 1) := by decide +kernel
theorem dX6_enter_75 : decode cX6_enter 75 = .ok (.getfield 24, 3) := by decide +kernel
theorem dX6_enter_78 : decode cX6_enter 78 = .ok (.getfield 72, 3) := by decide +kernel
theorem dX6_enter_81 : decode cX6_enter 81 = .ok (.getfield 89, 3) := by decide +kernel
theorem dX6_enter_84 : decode cX6_enter 84 = .ok (.iload_n 3, 1) := by decide +kernel
theorem dX6_enter_85 : decode cX6_enter 85 = .ok (.iaload, 1) := by decide +kernel
theorem dX6_enter_86 : decode cX6_enter 86 = .ok (.iload_n 2, 1) := by decide +kernel
theorem dX6_enter_87 : decode cX6_enter 87 = .ok (.if_icmp .ne 24, 3) := by decide +kernel
theorem dX6_enter_90 : decode cX6_enter 90 = .ok (.aload_n 0, 1) := by decide +kernel
theorem dX6_enter_91 : decode cX6_enter 91 = .ok (.getfield 24, 3) := by decide +kernel
theorem dX6_enter_94 : decode cX6_enter 94 = .ok (.getfield 72, 3) := by decide +kernel
theorem dX6_enter_97 : decode cX6_enter 97 = .ok (.iload_n 3, 1) := by decide +kernel
theorem dX6_enter_98 : decode cX6_enter 98 = .ok (.iload_n 1, 1) := by decide +kernel
theorem dX6_enter_99 : decode cX6_enter 99 = .ok (.invokevirtual 82, 3) := by decide +kernel
theorem dX6_enter_102 : decode cX6_enter 102 = .ok (.ifCond .ne 9, 3) := by decide +kernel
theorem dX6_enter_105 : decode cX6_enter 105 = .ok (.aload_n 0, 1) := by decide +kernel
theorem dX6_enter_106 : decode cX6_enter 106 = .ok (.iload_n 3, 1) := by decide +kernel
theorem dX6_enter_107 : decode cX6_enter 107 = .ok (.iload_n 2, 1) := by decide +kernel
theorem dX6_enter_108 : decode cX6_enter 108 = .ok (.invokevirtual 92, 3) := by decide +kernel
theorem dX6_enter_111 : decode cX6_enter 111 = .ok (.iinc 3 1, 3) := by decide +kernel
theorem dX6_enter_114 : decode cX6_enter 114 = .ok (.goto (-54), 3) := by decide +kernel
theorem dX6_enter_117 : decode cX6_enter 117 = .ok (.aload_n 0, 1) := by decide +kernel
theorem dX6_enter_118 : decode cX6_enter 118 = .ok (.getfield 21, 3) := by decide +kernel
theorem dX6_enter_121 : decode cX6_enter 121 = .ok (.iconst 0, 1) := by decide +kernel
theorem dX6_enter_122 : decode cX6_enter 122 = .ok (.iconst (-1), 1) := by decide +kernel
theorem dX6_enter_123 : decode cX6_enter 123 = .ok (.iastore, 1) := by decide +kernel
theorem dX6_enter_124 : decode cX6_enter 124 = .ok (.aload_n 0, 1) := by decide +kernel
theorem dX6_enter_125 : decode cX6_enter 125 = .ok (.getfield 21, 3) := by decide +kernel
theorem dX6_enter_128 : decode cX6_enter 128 = .ok (.iconst 1, 1) := by decide +kernel
theorem dX6_enter_129 : decode cX6_enter 129 = .ok (.iconst (-1), 1) := by decide +kernel
theorem dX6_enter_130 : decode cX6_enter 130 = .ok (.iastore, 1) := by decide +kernel
theorem dX6_enter_131 : decode cX6_enter 131 = .ok (.aload_n 0, 1) := by decide +kernel
theorem dX6_enter_132 : decode cX6_enter 132 = .ok (.iconst 1, 1) := by decide +kernel
theorem dX6_enter_133 : decode cX6_enter 133 = .ok (.putfield 95, 3) := by decide +kernel
theorem dX6_enter_136 : decode cX6_enter 136 = .ok (.return_, 1) := by decide +kernel
theorem dX5_registerIn_0 : decode cX5_registerIn 0 = .ok (.aload_n 0, 1) := by decide +kernel
theorem dX5_registerIn_1 : decode cX5_registerIn 1 = .ok (.getfield 15, 3) := by decide +kernel
theorem dX5_registerIn_4 : decode cX5_registerIn 4 = .ok (.iload_n 2, 1) := by decide +kernel
theorem dX5_registerIn_5 : decode cX5_registerIn 5 = .ok (.iaload, 1) := by decide +kernel
theorem dX5_registerIn_6 : decode cX5_registerIn 6 = .ok (.istore_n 3, 1) := by decide +kernel
theorem dX5_registerIn_7 : decode cX5_registerIn 7 = .ok (.iconst 0, 1) := by decide +kernel
theorem dX5_registerIn_8 : decode cX5_registerIn 8 = .ok (.istore 4, 2) := by decide +kernel
theorem dX5_registerIn_10 : decode cX5_registerIn 10 = .ok (.iload 4, 2) := by decide +kernel
theorem dX5_registerIn_12 : decode cX5_registerIn 12 = .ok (.aload_n 0, 1) := by decide +kernel
theorem dX5_registerIn_13 : decode cX5_registerIn 13 = .ok (.getfield 38, 3) := by decide +kernel
theorem dX5_registerIn_16 : decode cX5_registerIn 16 = .ok (.getfield 114, 3) := by decide +kernel
theorem dX5_registerIn_19 : decode cX5_registerIn 19 = .ok (.if_icmp .ge 49, 3) := by decide +kernel
theorem dX5_registerIn_22 : decode cX5_registerIn 22 = .ok (.aload_n 0, 1) := by decide +kernel
theorem dX5_registerIn_23 : decode cX5_registerIn 23 = .ok (.getfield 21, 3) := by decide +kernel
theorem dX5_registerIn_26 : decode cX5_registerIn 26 = .ok (.iload 4, 2) := by decide +kernel
theorem dX5_registerIn_28 : decode cX5_registerIn 28 = .ok (.bipush 12, 2) := by decide +kernel
theorem dX5_registerIn_30 : decode cX5_registerIn 30 = .ok (.imul, 1) := by decide +kernel
theorem dX5_registerIn_31 : decode cX5_registerIn 31 = .ok (.iload_n 2, 1) := by decide +kernel
theorem dX5_registerIn_32 : decode cX5_registerIn 32 = .ok (.iadd, 1) := by decide +kernel
theorem dX5_registerIn_33 : decode cX5_registerIn 33 = .ok (.iaload, 1) := by decide +kernel
theorem dX5_registerIn_34 : decode cX5_registerIn 34 = .ok (.istore 5, 2) := by decide +kernel
theorem dX5_registerIn_36 : decode cX5_registerIn 36 = .ok (.iload 5, 2) := by decide +kernel
theorem dX5_registerIn_38 : decode cX5_registerIn 38 = .ok (.iconst (-1), 1) := by decide +kernel
theorem dX5_registerIn_39 : decode cX5_registerIn 39 = .ok (.if_icmp .eq 23, 3) := by decide +kernel
theorem dX5_registerIn_42 : decode cX5_registerIn 42 = .ok (.aload_n 0, 1) := by decide +kernel
theorem dX5_registerIn_43 : decode cX5_registerIn 43 = .ok (.getfield 38, 3) := by decide +kernel
theorem dX5_registerIn_46 : decode cX5_registerIn 46 = .ok (.getfield 189, 3) := by decide +kernel
theorem dX5_registerIn_49 : decode cX5_registerIn 49 = .ok (.iload 4, 2) := by decide +kernel
theorem dX5_registerIn_51 : decode cX5_registerIn 51 = .ok (.iaload, 1) := by decide +kernel
theorem dX5_registerIn_52 : decode cX5_registerIn 52 = .ok (.iload_n 1, 1) := by decide +kernel
theorem dX5_registerIn_53 : decode cX5_registerIn 53 = .ok (.invokestatic 83, 3) := by decide +kernel
theorem dX5_registerIn_56 : decode cX5_registerIn 56 = .ok (.ifCond .eq 6, 3) := by decide +kernel
theorem dX5_registerIn_59 : decode cX5_registerIn 59 = .ok (.iload 5, 2) := by decide +kernel
theorem dX5_registerIn_61 : decode cX5_registerIn 61 = .ok (.istore_n 3, 1) := by decide +kernel
theorem dX5_registerIn_62 : decode cX5_registerIn 62 = .ok (.iinc 4 1, 3) := by decide +kernel
theorem dX5_registerIn_65 : decode cX5_registerIn 65 = .ok (.goto (-55), 3) := by decide +kernel
theorem dX5_registerIn_68 : decode cX5_registerIn 68 = .ok (.iload_n 3, 1) := by decide +kernel
theorem dX5_registerIn_69 : decode cX5_registerIn 69 = .ok (.ireturn, 1) := by decide +kernel
theorem dX6_scratchFor_0 : decode cX6_scratchFor 0 = .ok (.aload_n 0, 1) := by decide +kernel
theorem dX6_scratchFor_1 : decode cX6_scratchFor 1 = .ok (.getfield 21, 3) := by decide +kernel
theorem dX6_scratchFor_4 : decode cX6_scratchFor 4 = .ok (.iconst 0, 1) := by decide +kernel
theorem dX6_scratchFor_5 : decode cX6_scratchFor 5 = .ok (.iaload, 1) := by decide +kernel
theorem dX6_scratchFor_6 : decode cX6_scratchFor 6 = .ok (.iload_n 1, 1) := by decide +kernel
theorem dX6_scratchFor_7 : decode cX6_scratchFor 7 = .ok (.if_icmp .ne 5, 3) := by decide +kernel
theorem dX6_scratchFor_10 : decode cX6_scratchFor 10 = .ok (.iconst 0, 1) := by decide +kernel
theorem dX6_scratchFor_11 : decode cX6_scratchFor 11 = .ok (.ireturn, 1) := by decide +kernel
theorem dX6_scratchFor_12 : decode cX6_scratchFor 12 = .ok (.aload_n 0, 1) := by decide +kernel
theorem dX6_scratchFor_13 : decode cX6_scratchFor 13 = .ok (.getfield 21, 3) := by decide +kernel
theorem dX6_scratchFor_16 : decode cX6_scratchFor 16 = .ok (.iconst 1, 1) := by decide +kernel
theorem dX6_scratchFor_17 : decode cX6_scratchFor 17 = .ok (.iaload, 1) := by decide +kernel
theorem dX6_scratchFor_18 : decode cX6_scratchFor 18 = .ok (.iload_n 1, 1) := by decide +kernel
theorem dX6_scratchFor_19 : decode cX6_scratchFor 19 = .ok (.if_icmp .ne 7, 3) := by decide +kernel
theorem dX6_scratchFor_22 : decode cX6_scratchFor 22 = .ok (.iconst 1, 1) := by decide +kernel
theorem dX6_scratchFor_23 : decode cX6_scratchFor 23 = .ok (.goto 9, 3) := by decide +kernel
theorem dX6_scratchFor_26 : decode cX6_scratchFor 26 = .ok (.iconst 1, 1) := by decide +kernel
theorem dX6_scratchFor_27 : decode cX6_scratchFor 27 = .ok (.aload_n 0, 1) := by decide +kernel
theorem dX6_scratchFor_28 : decode cX6_scratchFor 28 = .ok (.getfield 95, 3) := by decide +kernel
theorem dX6_scratchFor_31 : decode cX6_scratchFor 31 = .ok (.isub, 1) := by decide +kernel
theorem dX6_scratchFor_32 : decode cX6_scratchFor 32 = .ok (.ireturn, 1) := by decide +kernel
theorem dX6_fetchFromMemory_0 : decode cX6_fetchFromMemory 0 = .ok (.aload_n 0, 1) := by decide +kernel
theorem dX6_fetchFromMemory_1 : decode cX6_fetchFromMemory 1 = .ok (.iload_n 1, 1) := by decide +kernel
theorem dX6_fetchFromMemory_2 : decode cX6_fetchFromMemory 2 = .ok (.invokevirtual 126, 3) := by decide +kernel
theorem dX6_fetchFromMemory_5 : decode cX6_fetchFromMemory 5 = .ok (.istore_n 2, 1) := by decide +kernel
theorem dX6_fetchFromMemory_6 : decode cX6_fetchFromMemory 6 = .ok (.aload_n 0, 1) := by decide +kernel
theorem dX6_fetchFromMemory_7 : decode cX6_fetchFromMemory 7 = .ok (.getfield 21, 3) := by decide +kernel
theorem dX6_fetchFromMemory_10 : decode cX6_fetchFromMemory 10 = .ok (.iload_n 2, 1) := by decide +kernel
theorem dX6_fetchFromMemory_11 : decode cX6_fetchFromMemory 11 = .ok (.iaload, 1) := by decide +kernel
theorem dX6_fetchFromMemory_12 : decode cX6_fetchFromMemory 12 = .ok (.iload_n 1, 1) := by decide +kernel
theorem dX6_fetchFromMemory_13 : decode cX6_fetchFromMemory 13 = .ok (.if_icmp .eq 40, 3) := by decide +kernel
theorem dX6_fetchFromMemory_16 : decode cX6_fetchFromMemory 16 = .ok (.aload_n 0, 1) := by decide +kernel
theorem dX6_fetchFromMemory_17 : decode cX6_fetchFromMemory 17 = .ok (.getfield 21, 3) := by decide +kernel
theorem dX6_fetchFromMemory_20 : decode cX6_fetchFromMemory 20 = .ok (.iload_n 2, 1) := by decide +kernel
theorem dX6_fetchFromMemory_21 : decode cX6_fetchFromMemory 21 = .ok (.iload_n 1, 1) := by decide +kernel
theorem dX6_fetchFromMemory_22 : decode cX6_fetchFromMemory 22 = .ok (.iastore, 1) := by decide +kernel
theorem dX6_fetchFromMemory_23 : decode cX6_fetchFromMemory 23 = .ok (.aload_n 0, 1) := by decide +kernel
theorem dX6_fetchFromMemory_24 : decode cX6_fetchFromMemory 24 = .ok (.getfield 18, 3) := by decide +kernel
theorem dX6_fetchFromMemory_27 : decode cX6_fetchFromMemory 27 = .ok (.iload_n 2, 1) := by decide +kernel
theorem dX6_fetchFromMemory_28 : decode cX6_fetchFromMemory 28 = .ok (.aload_n 0, 1) := by decide +kernel
theorem dX6_fetchFromMemory_29 : decode cX6_fetchFromMemory 29 = .ok (.getfield 15, 3) := by decide +kernel
theorem dX6_fetchFromMemory_32 : decode cX6_fetchFromMemory 32 = .ok (.aload_n 0, 1) := by decide +kernel
theorem dX6_fetchFromMemory_33 : decode cX6_fetchFromMemory 33 = .ok (.getfield 24, 3) := by decide +kernel
theorem dX6_fetchFromMemory_36 : decode cX6_fetchFromMemory 36 = .ok (.getfield 69, 3) := by decide +kernel
theorem dX6_fetchFromMemory_39 : decode cX6_fetchFromMemory 39 = .ok (.iload_n 1, 1) := by decide +kernel
theorem dX6_fetchFromMemory_40 : decode cX6_fetchFromMemory 40 = .ok (.iaload, 1) := by decide +kernel
theorem dX6_fetchFromMemory_41 : decode cX6_fetchFromMemory 41 = .ok (.iaload, 1) := by decide +kernel
theorem dX6_fetchFromMemory_42 : decode cX6_fetchFromMemory 42 = .ok (.iastore, 1) := by decide +kernel
theorem dX6_fetchFromMemory_43 : decode cX6_fetchFromMemory 43 = .ok (.aload_n 0, 1) := by decide +kernel
theorem dX6_fetchFromMemory_44 : decode cX6_fetchFromMemory 44 = .ok (.dup, 1) := by decide +kernel
theorem dX6_fetchFromMemory_45 : decode cX6_fetchFromMemory 45 = .ok (.getfield 107, 3) := by decide +kernel
theorem dX6_fetchFromMemory_48 : decode cX6_fetchFromMemory 48 = .ok (.iconst 1, 1) := by decide +kernel
theorem dX6_fetchFromMemory_49 : decode cX6_fetchFromMemory 49 = .ok (.iadd, 1) := by decide +kernel
theorem dX6_fetchFromMemory_50 : decode cX6_fetchFromMemory 50 = .ok (.putfield 107, 3) := by decide +kernel
theorem dX6_fetchFromMemory_53 : decode cX6_fetchFromMemory 53 = .ok (.aload_n 0, 1) := by decide +kernel
theorem dX6_fetchFromMemory_54 : decode cX6_fetchFromMemory 54 = .ok (.iload_n 2, 1) := by decide +kernel
theorem dX6_fetchFromMemory_55 : decode cX6_fetchFromMemory 55 = .ok (.putfield 95, 3) := by decide +kernel
theorem dX6_fetchFromMemory_58 : decode cX6_fetchFromMemory 58 = .ok (.aload_n 0, 1) := by decide +kernel
theorem dX6_fetchFromMemory_59 : decode cX6_fetchFromMemory 59 = .ok (.getfield 18, 3) := by decide +kernel
theorem dX6_fetchFromMemory_62 : decode cX6_fetchFromMemory 62 = .ok (.iload_n 2, 1) := by decide +kernel
theorem dX6_fetchFromMemory_63 : decode cX6_fetchFromMemory 63 = .ok (.iaload, 1) := by decide +kernel
theorem dX6_fetchFromMemory_64 : decode cX6_fetchFromMemory 64 = .ok (.ireturn, 1) := by decide +kernel
theorem dX6_fetch_0 : decode cX6_fetch 0 = .ok (.aload_n 0, 1) := by decide +kernel
theorem dX6_fetch_1 : decode cX6_fetch 1 = .ok (.getfield 24, 3) := by decide +kernel
theorem dX6_fetch_4 : decode cX6_fetch 4 = .ok (.getfield 54, 3) := by decide +kernel
theorem dX6_fetch_7 : decode cX6_fetch 7 = .ok (.iload_n 1, 1) := by decide +kernel
theorem dX6_fetch_8 : decode cX6_fetch 8 = .ok (.iaload, 1) := by decide +kernel
theorem dX6_fetch_9 : decode cX6_fetch 9 = .ok (.iconst 2, 1) := by decide +kernel
theorem dX6_fetch_10 : decode cX6_fetch 10 = .ok (.if_icmp .ne 26, 3) := by decide +kernel
theorem dX6_fetch_13 : decode cX6_fetch 13 = .ok (.aload_n 0, 1) := by decide +kernel
theorem dX6_fetch_14 : decode cX6_fetch 14 = .ok (.dup, 1) := by decide +kernel
theorem dX6_fetch_15 : decode cX6_fetch 15 = .ok (.getfield 110, 3) := by decide +kernel
theorem dX6_fetch_18 : decode cX6_fetch 18 = .ok (.iconst 1, 1) := by decide +kernel
theorem dX6_fetch_19 : decode cX6_fetch 19 = .ok (.iadd, 1) := by decide +kernel
theorem dX6_fetch_20 : decode cX6_fetch 20 = .ok (.putfield 110, 3) := by decide +kernel
theorem dX6_fetch_23 : decode cX6_fetch 23 = .ok (.aload_n 0, 1) := by decide +kernel
theorem dX6_fetch_24 : decode cX6_fetch 24 = .ok (.getfield 24, 3) := by decide +kernel
theorem dX6_fetch_27 : decode cX6_fetch 27 = .ok (.getfield 34, 3) := by decide +kernel
theorem dX6_fetch_30 : decode cX6_fetch 30 = .ok (.getfield 113, 3) := by decide +kernel
theorem dX6_fetch_33 : decode cX6_fetch 33 = .ok (.iload_n 1, 1) := by decide +kernel
theorem dX6_fetch_34 : decode cX6_fetch 34 = .ok (.iaload, 1) := by decide +kernel
theorem dX6_fetch_35 : decode cX6_fetch 35 = .ok (.ireturn, 1) := by decide +kernel
theorem dX6_fetch_36 : decode cX6_fetch 36 = .ok (.aload_n 0, 1) := by decide +kernel
theorem dX6_fetch_37 : decode cX6_fetch 37 = .ok (.getfield 24, 3) := by decide +kernel
theorem dX6_fetch_40 : decode cX6_fetch 40 = .ok (.aload_n 0, 1) := by decide +kernel
theorem dX6_fetch_41 : decode cX6_fetch 41 = .ok (.getfield 116, 3) := by decide +kernel
theorem dX6_fetch_44 : decode cX6_fetch 44 = .ok (.iload_n 1, 1) := by decide +kernel
theorem dX6_fetch_45 : decode cX6_fetch 45 = .ok (.invokevirtual 119, 3) := by decide +kernel
theorem dX6_fetch_48 : decode cX6_fetch 48 = .ok (.istore_n 2, 1) := by decide +kernel
theorem dX6_fetch_49 : decode cX6_fetch 49 = .ok (.iload_n 2, 1) := by decide +kernel
theorem dX6_fetch_50 : decode cX6_fetch 50 = .ok (.iconst (-1), 1) := by decide +kernel
theorem dX6_fetch_51 : decode cX6_fetch 51 = .ok (.if_icmp .eq 12, 3) := by decide +kernel
theorem dX6_fetch_54 : decode cX6_fetch 54 = .ok (.aload_n 0, 1) := by decide +kernel
theorem dX6_fetch_55 : decode cX6_fetch 55 = .ok (.getfield 9, 3) := by decide +kernel
theorem dX6_fetch_58 : decode cX6_fetch 58 = .ok (.iload_n 2, 1) := by decide +kernel
theorem dX6_fetch_59 : decode cX6_fetch 59 = .ok (.iaload, 1) := by decide +kernel
theorem dX6_fetch_60 : decode cX6_fetch 60 = .ok (.goto 8, 3) := by decide +kernel
theorem dX6_fetch_63 : decode cX6_fetch 63 = .ok (.aload_n 0, 1) := by decide +kernel
theorem dX6_fetch_64 : decode cX6_fetch 64 = .ok (.iload_n 1, 1) := by decide +kernel
theorem dX6_fetch_65 : decode cX6_fetch 65 = .ok (.invokevirtual 123, 3) := by decide +kernel
theorem dX6_fetch_68 : decode cX6_fetch 68 = .ok (.ireturn, 1) := by decide +kernel
theorem dX6_putInMemory_0 : decode cX6_putInMemory 0 = .ok (.aload_n 0, 1) := by decide +kernel
theorem dX6_putInMemory_1 : decode cX6_putInMemory 1 = .ok (.iload_n 1, 1) := by decide +kernel
theorem dX6_putInMemory_2 : decode cX6_putInMemory 2 = .ok (.invokevirtual 126, 3) := by decide +kernel
theorem dX6_putInMemory_5 : decode cX6_putInMemory 5 = .ok (.istore_n 3, 1) := by decide +kernel
theorem dX6_putInMemory_6 : decode cX6_putInMemory 6 = .ok (.aload_n 0, 1) := by decide +kernel
theorem dX6_putInMemory_7 : decode cX6_putInMemory 7 = .ok (.getfield 21, 3) := by decide +kernel
theorem dX6_putInMemory_10 : decode cX6_putInMemory 10 = .ok (.iload_n 3, 1) := by decide +kernel
theorem dX6_putInMemory_11 : decode cX6_putInMemory 11 = .ok (.iload_n 1, 1) := by decide +kernel
theorem dX6_putInMemory_12 : decode cX6_putInMemory 12 = .ok (.iastore, 1) := by decide +kernel
theorem dX6_putInMemory_13 : decode cX6_putInMemory 13 = .ok (.aload_n 0, 1) := by decide +kernel
theorem dX6_putInMemory_14 : decode cX6_putInMemory 14 = .ok (.getfield 18, 3) := by decide +kernel
theorem dX6_putInMemory_17 : decode cX6_putInMemory 17 = .ok (.iload_n 3, 1) := by decide +kernel
theorem dX6_putInMemory_18 : decode cX6_putInMemory 18 = .ok (.iload_n 2, 1) := by decide +kernel
theorem dX6_putInMemory_19 : decode cX6_putInMemory 19 = .ok (.iastore, 1) := by decide +kernel
theorem dX6_putInMemory_20 : decode cX6_putInMemory 20 = .ok (.aload_n 0, 1) := by decide +kernel
theorem dX6_putInMemory_21 : decode cX6_putInMemory 21 = .ok (.iload_n 3, 1) := by decide +kernel
theorem dX6_putInMemory_22 : decode cX6_putInMemory 22 = .ok (.putfield 95, 3) := by decide +kernel
theorem dX6_putInMemory_25 : decode cX6_putInMemory 25 = .ok (.aload_n 0, 1) := by decide +kernel
theorem dX6_putInMemory_26 : decode cX6_putInMemory 26 = .ok (.getfield 15, 3) := by decide +kernel
theorem dX6_putInMemory_29 : decode cX6_putInMemory 29 = .ok (.aload_n 0, 1) := by decide +kernel
theorem dX6_putInMemory_30 : decode cX6_putInMemory 30 = .ok (.getfield 24, 3) := by decide +kernel
theorem dX6_putInMemory_33 : decode cX6_putInMemory 33 = .ok (.getfield 69, 3) := by decide +kernel
theorem dX6_putInMemory_36 : decode cX6_putInMemory 36 = .ok (.iload_n 1, 1) := by decide +kernel
theorem dX6_putInMemory_37 : decode cX6_putInMemory 37 = .ok (.iaload, 1) := by decide +kernel
theorem dX6_putInMemory_38 : decode cX6_putInMemory 38 = .ok (.iload_n 2, 1) := by decide +kernel
theorem dX6_putInMemory_39 : decode cX6_putInMemory 39 = .ok (.iastore, 1) := by decide +kernel
theorem dX6_putInMemory_40 : decode cX6_putInMemory 40 = .ok (.aload_n 0, 1) := by decide +kernel
theorem dX6_putInMemory_41 : decode cX6_putInMemory 41 = .ok (.dup, 1) := by decide +kernel
theorem dX6_putInMemory_42 : decode cX6_putInMemory 42 = .ok (.getfield 104, 3) := by decide +kernel
theorem dX6_putInMemory_45 : decode cX6_putInMemory 45 = .ok (.iconst 1, 1) := by decide +kernel
theorem dX6_putInMemory_46 : decode cX6_putInMemory 46 = .ok (.iadd, 1) := by decide +kernel
theorem dX6_putInMemory_47 : decode cX6_putInMemory 47 = .ok (.putfield 104, 3) := by decide +kernel
theorem dX6_putInMemory_50 : decode cX6_putInMemory 50 = .ok (.return_, 1) := by decide +kernel
theorem dX6_put_0 : decode cX6_put 0 = .ok (.aload_n 0, 1) := by decide +kernel
theorem dX6_put_1 : decode cX6_put 1 = .ok (.getfield 24, 3) := by decide +kernel
theorem dX6_put_4 : decode cX6_put 4 = .ok (.getfield 54, 3) := by decide +kernel
theorem dX6_put_7 : decode cX6_put 7 = .ok (.iload_n 1, 1) := by decide +kernel
theorem dX6_put_8 : decode cX6_put 8 = .ok (.iaload, 1) := by decide +kernel
theorem dX6_put_9 : decode cX6_put 9 = .ok (.iconst 2, 1) := by decide +kernel
theorem dX6_put_10 : decode cX6_put 10 = .ok (.if_icmp .ne 4, 3) := by decide +kernel
theorem dX6_put_13 : decode cX6_put 13 = .ok (.return_, 1) := by decide +kernel
theorem dX6_put_14 : decode cX6_put 14 = .ok (.aload_n 0, 1) := by decide +kernel
theorem dX6_put_15 : decode cX6_put 15 = .ok (.getfield 24, 3) := by decide +kernel
theorem dX6_put_18 : decode cX6_put 18 = .ok (.aload_n 0, 1) := by decide +kernel
theorem dX6_put_19 : decode cX6_put 19 = .ok (.getfield 116, 3) := by decide +kernel
theorem dX6_put_22 : decode cX6_put 22 = .ok (.iload_n 1, 1) := by decide +kernel
theorem dX6_put_23 : decode cX6_put 23 = .ok (.invokevirtual 119, 3) := by decide +kernel
theorem dX6_put_26 : decode cX6_put 26 = .ok (.istore_n 3, 1) := by decide +kernel
theorem dX6_put_27 : decode cX6_put 27 = .ok (.iload_n 3, 1) := by decide +kernel
theorem dX6_put_28 : decode cX6_put 28 = .ok (.iconst (-1), 1) := by decide +kernel
theorem dX6_put_29 : decode cX6_put 29 = .ok (.if_icmp .eq 13, 3) := by decide +kernel
theorem dX6_put_32 : decode cX6_put 32 = .ok (.aload_n 0, 1) := by decide +kernel
theorem dX6_put_33 : decode cX6_put 33 = .ok (.getfield 9, 3) := by decide +kernel
theorem dX6_put_36 : decode cX6_put 36 = .ok (.iload_n 3, 1) := by decide +kernel
theorem dX6_put_37 : decode cX6_put 37 = .ok (.iload_n 2, 1) := by decide +kernel
theorem dX6_put_38 : decode cX6_put 38 = .ok (.iastore, 1) := by decide +kernel
theorem dX6_put_39 : decode cX6_put 39 = .ok (.goto 9, 3) := by decide +kernel
theorem dX6_put_42 : decode cX6_put 42 = .ok (.aload_n 0, 1) := by decide +kernel
theorem dX6_put_43 : decode cX6_put 43 = .ok (.iload_n 1, 1) := by decide +kernel
theorem dX6_put_44 : decode cX6_put 44 = .ok (.iload_n 2, 1) := by decide +kernel
theorem dX6_put_45 : decode cX6_put 45 = .ok (.invokevirtual 129, 3) := by decide +kernel
theorem dX6_put_48 : decode cX6_put 48 = .ok (.return_, 1) := by decide +kernel
theorem dX9_profile_0 : decode cX9_profile 0 = .ok (.iconst 0, 1) := by decide +kernel
theorem dX9_profile_1 : decode cX9_profile 1 = .ok (.istore_n 1, 1) := by decide +kernel
theorem dX9_profile_2 : decode cX9_profile 2 = .ok (.iconst 0, 1) := by decide +kernel
theorem dX9_profile_3 : decode cX9_profile 3 = .ok (.istore_n 2, 1) := by decide +kernel
theorem dX9_profile_4 : decode cX9_profile 4 = .ok (.iload_n 2, 1) := by decide +kernel
theorem dX9_profile_5 : decode cX9_profile 5 = .ok (.aload_n 0, 1) := by decide +kernel
theorem dX9_profile_6 : decode cX9_profile 6 = .ok (.getfield 25, 3) := by decide +kernel
theorem dX9_profile_9 : decode cX9_profile 9 = .ok (.getfield 83, 3) := by decide +kernel
theorem dX9_profile_12 : decode cX9_profile 12 = .ok (.if_icmp .ge 52, 3) := by decide +kernel
theorem dX9_profile_15 : decode cX9_profile 15 = .ok (.iconst 1, 1) := by decide +kernel
theorem dX9_profile_16 : decode cX9_profile 16 = .ok (.aload_n 0, 1) := by decide +kernel
theorem dX9_profile_17 : decode cX9_profile 17 = .ok (.getfield 73, 3) := by decide +kernel
theorem dX9_profile_20 : decode cX9_profile 20 = .ok (.iload_n 2, 1) := by decide +kernel
theorem dX9_profile_21 : decode cX9_profile 21 = .ok (.iaload, 1) := by decide +kernel
theorem dX9_profile_22 : decode cX9_profile 22 = .ok (.invokestatic 276, 3) := by decide +kernel
theorem dX9_profile_25 : decode cX9_profile 25 = .ok (.istore_n 3, 1) := by decide +kernel
theorem dX9_profile_26 : decode cX9_profile 26 = .ok (.aload_n 0, 1) := by decide +kernel
theorem dX9_profile_27 : decode cX9_profile 27 = .ok (.getfield 25, 3) := by decide +kernel
theorem dX9_profile_30 : decode cX9_profile 30 = .ok (.getfield 103, 3) := by decide +kernel
theorem dX9_profile_33 : decode cX9_profile 33 = .ok (.iload_n 2, 1) := by decide +kernel
theorem dX9_profile_34 : decode cX9_profile 34 = .ok (.aaload, 1) := by decide +kernel
theorem dX9_profile_35 : decode cX9_profile 35 = .ok (.getfield 140, 3) := by decide +kernel
theorem dX9_profile_38 : decode cX9_profile 38 = .ok (.iload_n 3, 1) := by decide +kernel
theorem dX9_profile_39 : decode cX9_profile 39 = .ok (.if_icmp .eq 19, 3) := by decide +kernel
theorem dX9_profile_42 : decode cX9_profile 42 = .ok (.aload_n 0, 1) := by decide +kernel
theorem dX9_profile_43 : decode cX9_profile 43 = .ok (.getfield 25, 3) := by decide +kernel
theorem dX9_profile_46 : decode cX9_profile 46 = .ok (.getfield 103, 3) := by decide +kernel
theorem dX9_profile_49 : decode cX9_profile 49 = .ok (.iload_n 2, 1) := by decide +kernel
theorem dX9_profile_50 : decode cX9_profile 50 = .ok (.aaload, 1) := by decide +kernel
theorem dX9_profile_51 : decode cX9_profile 51 = .ok (.iload_n 3, 1) := by decide +kernel
theorem dX9_profile_52 : decode cX9_profile 52 = .ok (.putfield 140, 3) := by decide +kernel
theorem dX9_profile_55 : decode cX9_profile 55 = .ok (.iinc 1 1, 3) := by decide +kernel
theorem dX9_profile_58 : decode cX9_profile 58 = .ok (.iinc 2 1, 3) := by decide +kernel
theorem dX9_profile_61 : decode cX9_profile 61 = .ok (.goto (-57), 3) := by decide +kernel
theorem dX9_profile_64 : decode cX9_profile 64 = .ok (.aload_n 0, 1) := by decide +kernel
theorem dX9_profile_65 : decode cX9_profile 65 = .ok (.invokevirtual 91, 3) := by decide +kernel
theorem dX9_profile_68 : decode cX9_profile 68 = .ok (.iload_n 1, 1) := by decide +kernel
theorem dX9_profile_69 : decode cX9_profile 69 = .ok (.ireturn, 1) := by decide +kernel
theorem dX0_copyCode_0 : decode cX0_copyCode 0 = .ok (.aload_n 1, 1) := by decide +kernel
theorem dX0_copyCode_1 : decode cX0_copyCode 1 = .ok (.getfield 9, 3) := by decide +kernel
theorem dX0_copyCode_4 : decode cX0_copyCode 4 = .ok (.iconst 0, 1) := by decide +kernel
theorem dX0_copyCode_5 : decode cX0_copyCode 5 = .ok (.aload_n 0, 1) := by decide +kernel
theorem dX0_copyCode_6 : decode cX0_copyCode 6 = .ok (.getfield 9, 3) := by decide +kernel
theorem dX0_copyCode_9 : decode cX0_copyCode 9 = .ok (.iconst 0, 1) := by decide +kernel
theorem dX0_copyCode_10 : decode cX0_copyCode 10 = .ok (.bipush 8, 2) := by decide +kernel
theorem dX0_copyCode_12 : decode cX0_copyCode 12 = .ok (.invokestatic 50, 3) := by decide +kernel
theorem dX0_copyCode_15 : decode cX0_copyCode 15 = .ok (.aload_n 1, 1) := by decide +kernel
theorem dX0_copyCode_16 : decode cX0_copyCode 16 = .ok (.getfield 15, 3) := by decide +kernel
theorem dX0_copyCode_19 : decode cX0_copyCode 19 = .ok (.iconst 0, 1) := by decide +kernel
theorem dX0_copyCode_20 : decode cX0_copyCode 20 = .ok (.aload_n 0, 1) := by decide +kernel
theorem dX0_copyCode_21 : decode cX0_copyCode 21 = .ok (.getfield 15, 3) := by decide +kernel
theorem dX0_copyCode_24 : decode cX0_copyCode 24 = .ok (.iconst 0, 1) := by decide +kernel
theorem dX0_copyCode_25 : decode cX0_copyCode 25 = .ok (.bipush 8, 2) := by decide +kernel
theorem dX0_copyCode_27 : decode cX0_copyCode 27 = .ok (.invokestatic 50, 3) := by decide +kernel
theorem dX0_copyCode_30 : decode cX0_copyCode 30 = .ok (.aload_n 1, 1) := by decide +kernel
theorem dX0_copyCode_31 : decode cX0_copyCode 31 = .ok (.getfield 18, 3) := by decide +kernel
theorem dX0_copyCode_34 : decode cX0_copyCode 34 = .ok (.iconst 0, 1) := by decide +kernel
theorem dX0_copyCode_35 : decode cX0_copyCode 35 = .ok (.aload_n 0, 1) := by decide +kernel
theorem dX0_copyCode_36 : decode cX0_copyCode 36 = .ok (.getfield 18, 3) := by decide +kernel
theorem dX0_copyCode_39 : decode cX0_copyCode 39 = .ok (.iconst 0, 1) := by decide +kernel
theorem dX0_copyCode_40 : decode cX0_copyCode 40 = .ok (.bipush 8, 2) := by decide +kernel
theorem dX0_copyCode_42 : decode cX0_copyCode 42 = .ok (.invokestatic 50, 3) := by decide +kernel
theorem dX0_copyCode_45 : decode cX0_copyCode 45 = .ok (.aload_n 1, 1) := by decide +kernel
theorem dX0_copyCode_46 : decode cX0_copyCode 46 = .ok (.getfield 21, 3) := by decide +kernel
theorem dX0_copyCode_49 : decode cX0_copyCode 49 = .ok (.iconst 0, 1) := by decide +kernel
theorem dX0_copyCode_50 : decode cX0_copyCode 50 = .ok (.aload_n 0, 1) := by decide +kernel
theorem dX0_copyCode_51 : decode cX0_copyCode 51 = .ok (.getfield 21, 3) := by decide +kernel
theorem dX0_copyCode_54 : decode cX0_copyCode 54 = .ok (.iconst 0, 1) := by decide +kernel
theorem dX0_copyCode_55 : decode cX0_copyCode 55 = .ok (.bipush 8, 2) := by decide +kernel
theorem dX0_copyCode_57 : decode cX0_copyCode 57 = .ok (.invokestatic 50, 3) := by decide +kernel
theorem dX0_copyCode_60 : decode cX0_copyCode 60 = .ok (.aload_n 0, 1) := by decide +kernel
theorem dX0_copyCode_61 : decode cX0_copyCode 61 = .ok (.aload_n 1, 1) := by decide +kernel
theorem dX0_copyCode_62 : decode cX0_copyCode 62 = .ok (.getfield 27, 3) := by decide +kernel
theorem dX0_copyCode_65 : decode cX0_copyCode 65 = .ok (.putfield 27, 3) := by decide +kernel
theorem dX0_copyCode_68 : decode cX0_copyCode 68 = .ok (.aload_n 0, 1) := by decide +kernel
theorem dX0_copyCode_69 : decode cX0_copyCode 69 = .ok (.aload_n 1, 1) := by decide +kernel
theorem dX0_copyCode_70 : decode cX0_copyCode 70 = .ok (.getfield 38, 3) := by decide +kernel
theorem dX0_copyCode_73 : decode cX0_copyCode 73 = .ok (.aload_n 1, 1) := by decide +kernel
theorem dX0_copyCode_74 : decode cX0_copyCode 74 = .ok (.getfield 41, 3) := by decide +kernel
theorem dX0_copyCode_77 : decode cX0_copyCode 77 = .ok (.aload_n 1, 1) := by decide +kernel
theorem dX0_copyCode_78 : decode cX0_copyCode 78 = .ok (.getfield 44, 3) := by decide +kernel
theorem dX0_copyCode_81 : decode cX0_copyCode 81 = .ok (.aload_n 1, 1) := by decide +kernel
theorem dX0_copyCode_82 : decode cX0_copyCode 82 = .ok (.getfield 47, 3) := by decide +kernel
theorem dX0_copyCode_85 : decode cX0_copyCode 85 = .ok (.invokevirtual 31, 3) := by decide +kernel
theorem dX0_copyCode_88 : decode cX0_copyCode 88 = .ok (.return_, 1) := by decide +kernel
theorem dX7_copy_0 : decode cX7_copy 0 = .ok (.iconst 0, 1) := by decide +kernel
theorem dX7_copy_1 : decode cX7_copy 1 = .ok (.istore_n 2, 1) := by decide +kernel
theorem dX7_copy_2 : decode cX7_copy 2 = .ok (.iload_n 2, 1) := by decide +kernel
theorem dX7_copy_3 : decode cX7_copy 3 = .ok (.bipush 8, 2) := by decide +kernel
theorem dX7_copy_5 : decode cX7_copy 5 = .ok (.if_icmp .ge 42, 3) := by decide +kernel
theorem dX7_copy_8 : decode cX7_copy 8 = .ok (.aload_n 0, 1) := by decide +kernel
theorem dX7_copy_9 : decode cX7_copy 9 = .ok (.getfield 11, 3) := by decide +kernel
theorem dX7_copy_12 : decode cX7_copy 12 = .ok (.iload_n 2, 1) := by decide +kernel
theorem dX7_copy_13 : decode cX7_copy 13 = .ok (.aaload, 1) := by decide +kernel
theorem dX7_copy_14 : decode cX7_copy 14 = .ok (.aload_n 1, 1) := by decide +kernel
theorem dX7_copy_15 : decode cX7_copy 15 = .ok (.getfield 11, 3) := by decide +kernel
theorem dX7_copy_18 : decode cX7_copy 18 = .ok (.iload_n 2, 1) := by decide +kernel
theorem dX7_copy_19 : decode cX7_copy 19 = .ok (.aaload, 1) := by decide +kernel
theorem dX7_copy_20 : decode cX7_copy 20 = .ok (.invokevirtual 35, 3) := by decide +kernel
theorem dX7_copy_23 : decode cX7_copy 23 = .ok (.aload_n 0, 1) := by decide +kernel
theorem dX7_copy_24 : decode cX7_copy 24 = .ok (.getfield 11, 3) := by decide +kernel
theorem dX7_copy_27 : decode cX7_copy 27 = .ok (.iload_n 2, 1) := by decide +kernel
theorem dX7_copy_28 : decode cX7_copy 28 = .ok (.aaload, 1) := by decide +kernel
theorem dX7_copy_29 : decode cX7_copy 29 = .ok (.aload_n 1, 1) := by decide +kernel
theorem dX7_copy_30 : decode cX7_copy 30 = .ok (.getfield 11, 3) := by decide +kernel
theorem dX7_copy_33 : decode cX7_copy 33 = .ok (.iload_n 2, 1) := by decide +kernel
theorem dX7_copy_34 : decode cX7_copy 34 = .ok (.aaload, 1) := by decide +kernel
theorem dX7_copy_35 : decode cX7_copy 35 = .ok (.getfield 39, 3) := by decide +kernel
theorem dX7_copy_38 : decode cX7_copy 38 = .ok (.putfield 39, 3) := by decide +kernel
theorem dX7_copy_41 : decode cX7_copy 41 = .ok (.iinc 2 1, 3) := by decide +kernel
theorem dX7_copy_44 : decode cX7_copy 44 = .ok (.goto (-42), 3) := by decide +kernel
theorem dX7_copy_47 : decode cX7_copy 47 = .ok (.aload_n 1, 1) := by decide +kernel
theorem dX7_copy_48 : decode cX7_copy 48 = .ok (.getfield 17, 3) := by decide +kernel
theorem dX7_copy_51 : decode cX7_copy 51 = .ok (.iconst 0, 1) := by decide +kernel
theorem dX7_copy_52 : decode cX7_copy 52 = .ok (.aload_n 0, 1) := by decide +kernel
theorem dX7_copy_53 : decode cX7_copy 53 = .ok (.getfield 17, 3) := by decide +kernel
theorem dX7_copy_56 : decode cX7_copy 56 = .ok (.iconst 0, 1) := by decide +kernel
theorem dX7_copy_57 : decode cX7_copy 57 = .ok (.bipush 12, 2) := by decide +kernel
theorem dX7_copy_59 : decode cX7_copy 59 = .ok (.invokestatic 42, 3) := by decide +kernel
theorem dX7_copy_62 : decode cX7_copy 62 = .ok (.aload_n 0, 1) := by decide +kernel
theorem dX7_copy_63 : decode cX7_copy 63 = .ok (.aload_n 1, 1) := by decide +kernel
theorem dX7_copy_64 : decode cX7_copy 64 = .ok (.getfield 22, 3) := by decide +kernel
theorem dX7_copy_67 : decode cX7_copy 67 = .ok (.putfield 22, 3) := by decide +kernel
theorem dX7_copy_70 : decode cX7_copy 70 = .ok (.return_, 1) := by decide +kernel
theorem dX9_saveSnapshot_0 : decode cX9_saveSnapshot 0 = .ok (.aload_n 0, 1) := by decide +kernel
theorem dX9_saveSnapshot_1 : decode cX9_saveSnapshot 1 = .ok (.getfield 29, 3) := by decide +kernel
theorem dX9_saveSnapshot_4 : decode cX9_saveSnapshot 4 = .ok (.aload_n 0, 1) := by decide +kernel
theorem dX9_saveSnapshot_5 : decode cX9_saveSnapshot 5 = .ok (.getfield 25, 3) := by decide +kernel
theorem dX9_saveSnapshot_8 : decode cX9_saveSnapshot 8 = .ok (.invokevirtual 314, 3) := by decide +kernel
theorem dX9_saveSnapshot_11 : decode cX9_saveSnapshot 11 = .ok (.aload_n 0, 1) := by decide +kernel
theorem dX9_saveSnapshot_12 : decode cX9_saveSnapshot 12 = .ok (.iconst 1, 1) := by decide +kernel
theorem dX9_saveSnapshot_13 : decode cX9_saveSnapshot 13 = .ok (.putfield 317, 3) := by decide +kernel
theorem dX9_saveSnapshot_16 : decode cX9_saveSnapshot 16 = .ok (.aload_n 0, 1) := by decide +kernel
theorem dX9_saveSnapshot_17 : decode cX9_saveSnapshot 17 = .ok (.getfield 25, 3) := by decide +kernel
theorem dX9_saveSnapshot_20 : decode cX9_saveSnapshot 20 = .ok (.getfield 83, 3) := by decide +kernel
theorem dX9_saveSnapshot_23 : decode cX9_saveSnapshot 23 = .ok (.ireturn, 1) := by decide +kernel
