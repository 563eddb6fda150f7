theorem dX0_init_0 : decode cX0_init 0 = .ok (.aload_n 0, 1) := by decide +kernel
theorem dX0_init_1 : decode cX0_init 1 = .ok (.invokespecial 3, 3) := by decide +kernel
theorem dX0_init_4 : decode cX0_init 4 = .ok (.aload_n 0, 1) := by decide +kernel
theorem dX0_init_5 : decode cX0_init 5 = .ok (.bipush 8, 2) := by decide +kernel
theorem dX0_init_7 : decode cX0_init 7 = .ok (.newarray .int, 2) := by decide +kernel
theorem dX0_init_9 : decode cX0_init 9 = .ok (.putfield 9, 3) := by decide +kernel
theorem dX0_init_12 : decode cX0_init 12 = .ok (.aload_n 0, 1) := by decide +kernel
theorem dX0_init_13 : decode cX0_init 13 = .ok (.bipush 8, 2) := by decide +kernel
theorem dX0_init_15 : decode cX0_init 15 = .ok (.newarray .int, 2) := by decide +kernel
theorem dX0_init_17 : decode cX0_init 17 = .ok (.putfield 15, 3) := by decide +kernel
theorem dX0_init_20 : decode cX0_init 20 = .ok (.aload_n 0, 1) := by decide +kernel
theorem dX0_init_21 : decode cX0_init 21 = .ok (.bipush 8, 2) := by decide +kernel
theorem dX0_init_23 : decode cX0_init 23 = .ok (.newarray .int, 2) := by decide +kernel
theorem dX0_init_25 : decode cX0_init 25 = .ok (.putfield 18, 3) := by decide +kernel
theorem dX0_init_28 : decode cX0_init 28 = .ok (.aload_n 0, 1) := by decide +kernel
theorem dX0_init_29 : decode cX0_init 29 = .ok (.bipush 8, 2) := by decide +kernel
theorem dX0_init_31 : decode cX0_init 31 = .ok (.newarray .int, 2) := by decide +kernel
theorem dX0_init_33 : decode cX0_init 33 = .ok (.putfield 21, 3) := by decide +kernel
theorem dX0_init_36 : decode cX0_init 36 = .ok (.aload_n 0, 1) := by decide +kernel
theorem dX0_init_37 : decode cX0_init 37 = .ok (.invokevirtual 24, 3) := by decide +kernel
theorem dX0_init_40 : decode cX0_init 40 = .ok (.return_, 1) := by decide +kernel
theorem dX7_init_0 : decode cX7_init 0 = .ok (.aload_n 0, 1) := by decide +kernel
theorem dX7_init_1 : decode cX7_init 1 = .ok (.invokespecial 3, 3) := by decide +kernel
theorem dX7_init_4 : decode cX7_init 4 = .ok (.aload_n 0, 1) := by decide +kernel
theorem dX7_init_5 : decode cX7_init 5 = .ok (.bipush 8, 2) := by decide +kernel
theorem dX7_init_7 : decode cX7_init 7 = .ok (.anewarray 9, 3) := by decide +kernel
theorem dX7_init_10 : decode cX7_init 10 = .ok (.putfield 11, 3) := by decide +kernel
theorem dX7_init_13 : decode cX7_init 13 = .ok (.aload_n 0, 1) := by decide +kernel
theorem dX7_init_14 : decode cX7_init 14 = .ok (.bipush 12, 2) := by decide +kernel
theorem dX7_init_16 : decode cX7_init 16 = .ok (.newarray .int, 2) := by decide +kernel
theorem dX7_init_18 : decode cX7_init 18 = .ok (.putfield 17, 3) := by decide +kernel
theorem dX7_init_21 : decode cX7_init 21 = .ok (.iconst 0, 1) := by decide +kernel
theorem dX7_init_22 : decode cX7_init 22 = .ok (.istore_n 1, 1) := by decide +kernel
theorem dX7_init_23 : decode cX7_init 23 = .ok (.iload_n 1, 1) := by decide +kernel
theorem dX7_init_24 : decode cX7_init 24 = .ok (.bipush 8, 2) := by decide +kernel
theorem dX7_init_26 : decode cX7_init 26 = .ok (.if_icmp .ge 22, 3) := by decide +kernel
theorem dX7_init_29 : decode cX7_init 29 = .ok (.aload_n 0, 1) := by decide +kernel
theorem dX7_init_30 : decode cX7_init 30 = .ok (.getfield 11, 3) := by decide +kernel
theorem dX7_init_33 : decode cX7_init 33 = .ok (.iload_n 1, 1) := by decide +kernel
theorem dX7_init_34 : decode cX7_init 34 = .ok (.new 9, 3) := by decide +kernel
theorem dX7_init_37 : decode cX7_init 37 = .ok (.dup, 1) := by decide +kernel
theorem dX7_init_38 : decode cX7_init 38 = .ok (.invokespecial 21, 3) := by decide +kernel
theorem dX7_init_41 : decode cX7_init 41 = .ok (.aastore, 1) := by decide +kernel
theorem dX7_init_42 : decode cX7_init 42 = .ok (.iinc 1 1, 3) := by decide +kernel
theorem dX7_init_45 : decode cX7_init 45 = .ok (.goto (-22), 3) := by decide +kernel
theorem dX7_init_48 : decode cX7_init 48 = .ok (.aload_n 0, 1) := by decide +kernel
theorem dX7_init_49 : decode cX7_init 49 = .ok (.iconst 1, 1) := by decide +kernel
theorem dX7_init_50 : decode cX7_init 50 = .ok (.putfield 22, 3) := by decide +kernel
theorem dX7_init_53 : decode cX7_init 53 = .ok (.return_, 1) := by decide +kernel
theorem dX1_init_0 : decode cX1_init 0 = .ok (.aload_n 0, 1) := by decide +kernel
theorem dX1_init_1 : decode cX1_init 1 = .ok (.invokespecial 3, 3) := by decide +kernel
theorem dX1_init_4 : decode cX1_init 4 = .ok (.aload_n 0, 1) := by decide +kernel
theorem dX1_init_5 : decode cX1_init 5 = .ok (.bipush 72, 2) := by decide +kernel
theorem dX1_init_7 : decode cX1_init 7 = .ok (.newarray .int, 2) := by decide +kernel
theorem dX1_init_9 : decode cX1_init 9 = .ok (.putfield 9, 3) := by decide +kernel
theorem dX1_init_12 : decode cX1_init 12 = .ok (.aload_n 0, 1) := by decide +kernel
theorem dX1_init_13 : decode cX1_init 13 = .ok (.bipush 96, 2) := by decide +kernel
theorem dX1_init_15 : decode cX1_init 15 = .ok (.newarray .int, 2) := by decide +kernel
theorem dX1_init_17 : decode cX1_init 17 = .ok (.putfield 15, 3) := by decide +kernel
theorem dX1_init_20 : decode cX1_init 20 = .ok (.aload_n 0, 1) := by decide +kernel
theorem dX1_init_21 : decode cX1_init 21 = .ok (.bipush 96, 2) := by decide +kernel
theorem dX1_init_23 : decode cX1_init 23 = .ok (.newarray .int, 2) := by decide +kernel
theorem dX1_init_25 : decode cX1_init 25 = .ok (.putfield 18, 3) := by decide +kernel
theorem dX1_init_28 : decode cX1_init 28 = .ok (.aload_n 0, 1) := by decide +kernel
theorem dX1_init_29 : decode cX1_init 29 = .ok (.bipush 12, 2) := by decide +kernel
theorem dX1_init_31 : decode cX1_init 31 = .ok (.newarray .int, 2) := by decide +kernel
theorem dX1_init_33 : decode cX1_init 33 = .ok (.putfield 21, 3) := by decide +kernel
theorem dX1_init_36 : decode cX1_init 36 = .ok (.aload_n 0, 1) := by decide +kernel
theorem dX1_init_37 : decode cX1_init 37 = .ok (.bipush 12, 2) := by decide +kernel
theorem dX1_init_39 : decode cX1_init 39 = .ok (.newarray .int, 2) := by decide +kernel
theorem dX1_init_41 : decode cX1_init 41 = .ok (.putfield 24, 3) := by decide +kernel
theorem dX1_init_44 : decode cX1_init 44 = .ok (.aload_n 0, 1) := by decide +kernel
theorem dX1_init_45 : decode cX1_init 45 = .ok (.bipush 12, 2) := by decide +kernel
theorem dX1_init_47 : decode cX1_init 47 = .ok (.newarray .int, 2) := by decide +kernel
theorem dX1_init_49 : decode cX1_init 49 = .ok (.putfield 27, 3) := by decide +kernel
theorem dX1_init_52 : decode cX1_init 52 = .ok (.aload_n 0, 1) := by decide +kernel
theorem dX1_init_53 : decode cX1_init 53 = .ok (.aload_n 1, 1) := by decide +kernel
theorem dX1_init_54 : decode cX1_init 54 = .ok (.putfield 30, 3) := by decide +kernel
theorem dX1_init_57 : decode cX1_init 57 = .ok (.return_, 1) := by decide +kernel
theorem dX2_init_0 : decode cX2_init 0 = .ok (.aload_n 0, 1) := by decide +kernel
theorem dX2_init_1 : decode cX2_init 1 = .ok (.invokespecial 3, 3) := by decide +kernel
theorem dX2_init_4 : decode cX2_init 4 = .ok (.aload_n 0, 1) := by decide +kernel
theorem dX2_init_5 : decode cX2_init 5 = .ok (.bipush 8, 2) := by decide +kernel
theorem dX2_init_7 : decode cX2_init 7 = .ok (.newarray .int, 2) := by decide +kernel
theorem dX2_init_9 : decode cX2_init 9 = .ok (.putfield 9, 3) := by decide +kernel
theorem dX2_init_12 : decode cX2_init 12 = .ok (.aload_n 0, 1) := by decide +kernel
theorem dX2_init_13 : decode cX2_init 13 = .ok (.bipush 8, 2) := by decide +kernel
theorem dX2_init_15 : decode cX2_init 15 = .ok (.newarray .int, 2) := by decide +kernel
theorem dX2_init_17 : decode cX2_init 17 = .ok (.putfield 15, 3) := by decide +kernel
theorem dX2_init_20 : decode cX2_init 20 = .ok (.aload_n 0, 1) := by decide +kernel
theorem dX2_init_21 : decode cX2_init 21 = .ok (.aload_n 1, 1) := by decide +kernel
theorem dX2_init_22 : decode cX2_init 22 = .ok (.putfield 18, 3) := by decide +kernel
theorem dX2_init_25 : decode cX2_init 25 = .ok (.return_, 1) := by decide +kernel
theorem dX5_init_0 : decode cX5_init 0 = .ok (.aload_n 0, 1) := by decide +kernel
theorem dX5_init_1 : decode cX5_init 1 = .ok (.invokespecial 3, 3) := by decide +kernel
theorem dX5_init_4 : decode cX5_init 4 = .ok (.aload_n 0, 1) := by decide +kernel
theorem dX5_init_5 : decode cX5_init 5 = .ok (.bipush 12, 2) := by decide +kernel
theorem dX5_init_7 : decode cX5_init 7 = .ok (.newarray .int, 2) := by decide +kernel
theorem dX5_init_9 : decode cX5_init 9 = .ok (.putfield 9, 3) := by decide +kernel
theorem dX5_init_12 : decode cX5_init 12 = .ok (.aload_n 0, 1) := by decide +kernel
theorem dX5_init_13 : decode cX5_init 13 = .ok (.bipush 12, 2) := by decide +kernel
theorem dX5_init_15 : decode cX5_init 15 = .ok (.newarray .int, 2) := by decide +kernel
theorem dX5_init_17 : decode cX5_init 17 = .ok (.putfield 15, 3) := by decide +kernel
theorem dX5_init_20 : decode cX5_init 20 = .ok (.aload_n 0, 1) := by decide +kernel
theorem dX5_init_21 : decode cX5_init 21 = .ok (.bipush 12, 2) := by decide +kernel
theorem dX5_init_23 : decode cX5_init 23 = .ok (.newarray .int, 2) := by decide +kernel
theorem dX5_init_25 : decode cX5_init 25 = .ok (.putfield 18, 3) := by decide +kernel
theorem dX5_init_28 : decode cX5_init 28 = .ok (.aload_n 0, 1) := by decide +kernel
theorem dX5_init_29 : decode cX5_init 29 = .ok (.bipush 96, 2) := by decide +kernel
theorem dX5_init_31 : decode cX5_init 31 = .ok (.newarray .int, 2) := by decide +kernel
theorem dX5_init_33 : decode cX5_init 33 = .ok (.putfield 21, 3) := by decide +kernel
theorem dX5_init_36 : decode cX5_init 36 = .ok (.aload_n 0, 1) := by decide +kernel
theorem dX5_init_37 : decode cX5_init 37 = .ok (.bipush 8, 2) := by decide +kernel
theorem dX5_init_39 : decode cX5_init 39 = .ok (.newarray .int, 2) := by decide +kernel
theorem dX5_init_41 : decode cX5_init 41 = .ok (.putfield 24, 3) := by decide +kernel
theorem dX5_init_44 : decode cX5_init 44 = .ok (.aload_n 0, 1) := by decide +kernel
theorem dX5_init_45 : decode cX5_init 45 = .ok (.bipush 8, 2) := by decide +kernel
theorem dX5_init_47 : decode cX5_init 47 = .ok (.newarray .int, 2) := by decide +kernel
theorem dX5_init_49 : decode cX5_init 49 = .ok (.putfield 27, 3) := by decide +kernel
theorem dX5_init_52 : decode cX5_init 52 = .ok (.aload_n 0, 1) := by decide +kernel
theorem dX5_init_53 : decode cX5_init 53 = .ok (.aload_n 1, 1) := by decide +kernel
theorem dX5_init_54 : decode cX5_init 54 = .ok (.putfield 30, 3) := by decide +kernel
theorem dX5_init_57 : decode cX5_init 57 = .ok (.aload_n 0, 1) := by decide +kernel
theorem dX5_init_58 : decode cX5_init 58 = .ok (.aload_n 2, 1) := by decide +kernel
theorem dX5_init_59 : decode cX5_init 59 = .ok (.putfield 34, 3) := by decide +kernel
theorem dX5_init_62 : decode cX5_init 62 = .ok (.aload_n 0, 1) := by decide +kernel
theorem dX5_init_63 : decode cX5_init 63 = .ok (.aload_n 3, 1) := by decide +kernel
theorem dX5_init_64 : decode cX5_init 64 = .ok (.putfield 38, 3) := by decide +kernel
theorem dX5_init_67 : decode cX5_init 67 = .ok (.return_, 1) := by decide +kernel
theorem dX3_init_0 : decode cX3_init 0 = .ok (.aload_n 0, 1) := by decide +kernel
theorem dX3_init_1 : decode cX3_init 1 = .ok (.invokespecial 3, 3) := by decide +kernel
theorem dX3_init_4 : decode cX3_init 4 = .ok (.aload_n 0, 1) := by decide +kernel
theorem dX3_init_5 : decode cX3_init 5 = .ok (.bipush 8, 2) := by decide +kernel
theorem dX3_init_7 : decode cX3_init 7 = .ok (.newarray .int, 2) := by decide +kernel
theorem dX3_init_9 : decode cX3_init 9 = .ok (.putfield 9, 3) := by decide +kernel
theorem dX3_init_12 : decode cX3_init 12 = .ok (.aload_n 0, 1) := by decide +kernel
theorem dX3_init_13 : decode cX3_init 13 = .ok (.aload_n 1, 1) := by decide +kernel
theorem dX3_init_14 : decode cX3_init 14 = .ok (.putfield 15, 3) := by decide +kernel
theorem dX3_init_17 : decode cX3_init 17 = .ok (.return_, 1) := by decide +kernel
theorem dX4_init_0 : decode cX4_init 0 = .ok (.aload_n 0, 1) := by decide +kernel
theorem dX4_init_1 : decode cX4_init 1 = .ok (.aload_n 1, 1) := by decide +kernel
theorem dX4_init_2 : decode cX4_init 2 = .ok (.invokespecial 3, 3) := by decide +kernel
theorem dX4_init_5 : decode cX4_init 5 = .ok (.aload_n 0, 1) := by decide +kernel
theorem dX4_init_6 : decode cX4_init 6 = .ok (.bipush 12, 2) := by decide +kernel
theorem dX4_init_8 : decode cX4_init 8 = .ok (.newarray .int, 2) := by decide +kernel
theorem dX4_init_10 : decode cX4_init 10 = .ok (.putfield 9, 3) := by decide +kernel
theorem dX4_init_13 : decode cX4_init 13 = .ok (.return_, 1) := by decide +kernel
theorem dX6_init_0 : decode cX6_init 0 = .ok (.aload_n 0, 1) := by decide +kernel
theorem dX6_init_1 : decode cX6_init 1 = .ok (.aload_n 1, 1) := by decide +kernel
theorem dX6_init_2 : decode cX6_init 2 = .ok (.invokespecial 3, 3) := by decide +kernel
theorem dX6_init_5 : decode cX6_init 5 = .ok (.aload_n 0, 1) := by decide +kernel
theorem dX6_init_6 : decode cX6_init 6 = .ok (.bipush 12, 2) := by decide +kernel
theorem dX6_init_8 : decode cX6_init 8 = .ok (.newarray .int, 2) := by decide +kernel
theorem dX6_init_10 : decode cX6_init 10 = .ok (.putfield 9, 3) := by decide +kernel
theorem dX6_init_13 : decode cX6_init 13 = .ok (.aload_n 0, 1) := by decide +kernel
theorem dX6_init_14 : decode cX6_init 14 = .ok (.bipush 12, 2) := by decide +kernel
theorem dX6_init_16 : decode cX6_init 16 = .ok (.newarray .int, 2) := by decide +kernel
theorem dX6_init_18 : decode cX6_init 18 = .ok (.putfield 15, 3) := by decide +kernel
theorem dX6_init_21 : decode cX6_init 21 = .ok (.aload_n 0, 1) := by decide +kernel
theorem dX6_init_22 : decode cX6_init 22 = .ok (.iconst 2, 1) := by decide +kernel
theorem dX6_init_23 : decode cX6_init 23 = .ok (.newarray .int, 2) := by decide +kernel
theorem dX6_init_25 : decode cX6_init 25 = .ok (.putfield 18, 3) := by decide +kernel
theorem dX6_init_28 : decode cX6_init 28 = .ok (.aload_n 0, 1) := by decide +kernel
theorem dX6_init_29 : decode cX6_init 29 = .ok (.iconst 2, 1) := by decide +kernel
theorem dX6_init_30 : decode cX6_init 30 = .ok (.newarray .int, 2) := by decide +kernel
theorem dX6_init_32 : decode cX6_init 32 = .ok (.putfield 21, 3) := by decide +kernel
theorem dX6_init_35 : decode cX6_init 35 = .ok (.aload_n 0, 1) := by decide +kernel
theorem dX6_init_36 : decode cX6_init 36 = .ok (.aload_n 2, 1) := by decide +kernel
theorem dX6_init_37 : decode cX6_init 37 = .ok (.putfield 24, 3) := by decide +kernel
theorem dX6_init_40 : decode cX6_init 40 = .ok (.return_, 1) := by decide +kernel
theorem dX8_init_0 : decode cX8_init 0 = .ok (.aload_n 0, 1) := by decide +kernel
theorem dX8_init_1 : decode cX8_init 1 = .ok (.invokespecial 3, 3) := by decide +kernel
theorem dX8_init_4 : decode cX8_init 4 = .ok (.aload_n 0, 1) := by decide +kernel
theorem dX8_init_5 : decode cX8_init 5 = .ok (.bipush 80, 2) := by decide +kernel
theorem dX8_init_7 : decode cX8_init 7 = .ok (.newarray .char, 2) := by decide +kernel
theorem dX8_init_9 : decode cX8_init 9 = .ok (.putfield 9, 3) := by decide +kernel
theorem dX8_init_12 : decode cX8_init 12 = .ok (.aload_n 0, 1) := by decide +kernel
theorem dX8_init_13 : decode cX8_init 13 = .ok (.new 15, 3) := by decide +kernel
theorem dX8_init_16 : decode cX8_init 16 = .ok (.dup, 1) := by decide +kernel
theorem dX8_init_17 : decode cX8_init 17 = .ok (.invokespecial 17, 3) := by decide +kernel
theorem dX8_init_20 : decode cX8_init 20 = .ok (.putfield 18, 3) := by decide +kernel
theorem dX8_init_23 : decode cX8_init 23 = .ok (.return_, 1) := by decide +kernel
theorem dX9_init_0 : decode cX9_init 0 = .ok (.aload_n 0, 1) := by decide +kernel
theorem dX9_init_1 : decode cX9_init 1 = .ok (.invokespecial 3, 3) := by decide +kernel
theorem dX9_init_4 : decode cX9_init 4 = .ok (.new 9, 3) := by decide +kernel
theorem dX9_init_7 : decode cX9_init 7 = .ok (.dup, 1) := by decide +kernel
theorem dX9_init_8 : decode cX9_init 8 = .ok (.invokespecial 11, 3) := by decide +kernel
theorem dX9_init_11 : decode cX9_init 11 = .ok (.astore_n 1, 1) := by decide +kernel
theorem dX9_init_12 : decode cX9_init 12 = .ok (.new 12, 3) := by decide +kernel
theorem dX9_init_15 : decode cX9_init 15 = .ok (.dup, 1) := by decide +kernel
theorem dX9_init_16 : decode cX9_init 16 = .ok (.aload_n 1, 1) := by decide +kernel
theorem dX9_init_17 : decode cX9_init 17 = .ok (.invokespecial 14, 3) := by decide +kernel
theorem dX9_init_20 : decode cX9_init 20 = .ok (.astore_n 2, 1) := by decide +kernel
theorem dX9_init_21 : decode cX9_init 21 = .ok (.new 17, 3) := by decide +kernel
theorem dX9_init_24 : decode cX9_init 24 = .ok (.dup, 1) := by decide +kernel
theorem dX9_init_25 : decode cX9_init 25 = .ok (.aload_n 1, 1) := by decide +kernel
theorem dX9_init_26 : decode cX9_init 26 = .ok (.invokespecial 19, 3) := by decide +kernel
theorem dX9_init_29 : decode cX9_init 29 = .ok (.astore_n 3, 1) := by decide +kernel
theorem dX9_init_30 : decode cX9_init 30 = .ok (.new 20, 3) := by decide +kernel
theorem dX9_init_33 : decode cX9_init 33 = .ok (.dup, 1) := by decide +kernel
theorem dX9_init_34 : decode cX9_init 34 = .ok (.aload_n 1, 1) := by decide +kernel
theorem dX9_init_35 : decode cX9_init 35 = .ok (.aload_n 2, 1) := by decide +kernel
theorem dX9_init_36 : decode cX9_init 36 = .ok (.aload_n 3, 1) := by decide +kernel
theorem dX9_init_37 : decode cX9_init 37 = .ok (.invokespecial 22, 3) := by decide +kernel
theorem dX9_init_40 : decode cX9_init 40 = .ok (.astore 4, 2) := by decide +kernel
theorem dX9_init_42 : decode cX9_init 42 = .ok (.aload_n 0, 1) := by decide +kernel
theorem dX9_init_43 : decode cX9_init 43 = .ok (.aload_n 1, 1) := by decide +kernel
theorem dX9_init_44 : decode cX9_init 44 = .ok (.putfield 25, 3) := by decide +kernel
theorem dX9_init_47 : decode cX9_init 47 = .ok (.aload_n 0, 1) := by decide +kernel
theorem dX9_init_48 : decode cX9_init 48 = .ok (.new 9, 3) := by decide +kernel
theorem dX9_init_51 : decode cX9_init 51 = .ok (.dup, 1) := by decide +kernel
theorem dX9_init_52 : decode cX9_init 52 = .ok (.invokespecial 11, 3) := by decide +kernel
theorem dX9_init_55 : decode cX9_init 55 = .ok (.putfield 29, 3) := by decide +kernel
theorem dX9_init_58 : decode cX9_init 58 = .ok (.aload_n 0, 1) := by decide +kernel
theorem dX9_init_59 : decode cX9_init 59 = .ok (.aload_n 2, 1) := by decide +kernel
theorem dX9_init_60 : decode cX9_init 60 = .ok (.putfield 32, 3) := by decide +kernel
theorem dX9_init_63 : decode cX9_init 63 = .ok (.aload_n 0, 1) := by decide +kernel
theorem dX9_init_64 : decode cX9_init 64 = .ok (.aload_n 3, 1) := by decide +kernel
theorem dX9_init_65 : decode cX9_init 65 = .ok (.putfield 36, 3) := by decide +kernel
theorem dX9_init_68 : decode cX9_init 68 = .ok (.aload_n 0, 1) := by decide +kernel
theorem dX9_init_69 : decode cX9_init 69 = .ok (.aload 4, 2) := by decide +kernel
theorem dX9_init_71 : decode cX9_init 71 = .ok (.putfield 40, 3) := by decide +kernel
theorem dX9_init_74 : decode cX9_init 74 = .ok (.aload_n 0, 1) := by decide +kernel
theorem dX9_init_75 : decode cX9_init 75 = .ok (.new 44, 3) := by decide +kernel
theorem dX9_init_78 : decode cX9_init 78 = .ok (.dup, 1) := by decide +kernel
theorem dX9_init_79 : decode cX9_init 79 = .ok (.aload_n 1, 1) := by decide +kernel
theorem dX9_init_80 : decode cX9_init 80 = .ok (.invokespecial 46, 3) := by decide +kernel
theorem dX9_init_83 : decode cX9_init 83 = .ok (.putfield 47, 3) := by decide +kernel
theorem dX9_init_86 : decode cX9_init 86 = .ok (.aload_n 0, 1) := by decide +kernel
theorem dX9_init_87 : decode cX9_init 87 = .ok (.new 51, 3) := by decide +kernel
theorem dX9_init_90 : decode cX9_init 90 = .ok (.dup, 1) := by decide +kernel
theorem dX9_init_91 : decode cX9_init 91 = .ok (.aload_n 1, 1) := by decide +kernel
theorem dX9_init_92 : decode cX9_init 92 = .ok (.aload 4, 2) := by decide +kernel
theorem dX9_init_94 : decode cX9_init 94 = .ok (.invokespecial 53, 3) := by decide +kernel
theorem dX9_init_97 : decode cX9_init 97 = .ok (.putfield 56, 3) := by decide +kernel
theorem dX9_init_100 : decode cX9_init 100 = .ok (.aload_n 0, 1) := by decide +kernel
theorem dX9_init_101 : decode cX9_init 101 = .ok (.new 59, 3) := by decide +kernel
theorem dX9_init_104 : decode cX9_init 104 = .ok (.dup, 1) := by decide +kernel
theorem dX9_init_105 : decode cX9_init 105 = .ok (.invokespecial 61, 3) := by decide +kernel
theorem dX9_init_108 : decode cX9_init 108 = .ok (.putfield 62, 3) := by decide +kernel
theorem dX9_init_111 : decode cX9_init 111 = .ok (.aload_n 0, 1) := by decide +kernel
theorem dX9_init_112 : decode cX9_init 112 = .ok (.bipush 12, 2) := by decide +kernel
theorem dX9_init_114 : decode cX9_init 114 = .ok (.newarray .int, 2) := by decide +kernel
theorem dX9_init_116 : decode cX9_init 116 = .ok (.putfield 66, 3) := by decide +kernel
theorem dX9_init_119 : decode cX9_init 119 = .ok (.aload_n 0, 1) := by decide +kernel
theorem dX9_init_120 : decode cX9_init 120 = .ok (.iconst 4, 1) := by decide +kernel
theorem dX9_init_121 : decode cX9_init 121 = .ok (.newarray .int, 2) := by decide +kernel
theorem dX9_init_123 : decode cX9_init 123 = .ok (.putfield 70, 3) := by decide +kernel
theorem dX9_init_126 : decode cX9_init 126 = .ok (.aload_n 0, 1) := by decide +kernel
theorem dX9_init_127 : decode cX9_init 127 = .ok (.bipush 8, 2) := by decide +kernel
theorem dX9_init_129 : decode cX9_init 129 = .ok (.newarray .int, 2) := by decide +kernel
theorem dX9_init_131 : decode cX9_init 131 = .ok (.putfield 73, 3) := by decide +kernel
theorem dX9_init_134 : decode cX9_init 134 = .ok (.return_, 1) := by decide +kernel
theorem mk_RX0_31 : Cond.code yX0_finish cX0_finish 5 none ∈ GW ∧ Cond.initialized yX0_finish.cls ∈ GW ∧ Cond.instanceMethod yX0_finish ∈ GW ∧ (Cond.methodLink RX0 31 yX0_finish ∈ GW ∨ (false = true ∧ ∃ host, Cond.methodLinkNest RX0 31 yX0_finish host ∈ NW)) ∧ yX0_finish.cls ≠ "java/lang/invoke/MethodHandle" ∧ yX0_finish.cls ≠ "java/lang/invoke/VarHandle" ∧ (parseMethodDescriptor yX0_finish.desc).map (fun d => d.parameters.length) = some 4 := ⟨w1_58, w1_3, w1_56, Or.inl w1_55, by decide +kernel, by decide +kernel, by decide +kernel⟩
theorem fow_0_0_RX0 : fin_own 0 0 RX0 := fun C T n h => by cases h; rfl
theorem fow_0_1_RX0 : fin_own 0 1 RX0 := fun C T n h => by cases h; rfl
theorem fow_0_2_RX0 : fin_own 0 2 RX0 := fun C T n h => by cases h; rfl
theorem fow_0_3_RX0 : fin_own 0 3 RX0 := fun C T n h => by cases h; rfl
theorem mk_RX0_24 : Cond.code yX0_begin cX0_begin 1 none ∈ GW ∧ Cond.initialized yX0_begin.cls ∈ GW ∧ Cond.instanceMethod yX0_begin ∈ GW ∧ (Cond.methodLink RX0 24 yX0_begin ∈ GW ∨ (false = true ∧ ∃ host, Cond.methodLinkNest RX0 24 yX0_begin host ∈ NW)) ∧ yX0_begin.cls ≠ "java/lang/invoke/MethodHandle" ∧ yX0_begin.cls ≠ "java/lang/invoke/VarHandle" ∧ (parseMethodDescriptor yX0_begin.desc).map (fun d => d.parameters.length) = some 0 := ⟨w1_54, w1_3, w1_52, Or.inl w1_51, by decide +kernel, by decide +kernel, by decide +kernel⟩
theorem fow_6_0_RX7 : fin_own 6 0 RX7 := fun C T n h => by cases h; rfl
theorem fow_6_1_RX7 : fin_own 6 1 RX7 := fun C T n h => by cases h; rfl
theorem cok_RX7_9 : cok 0 10 RX7 9 [.null, .null, .null, .null, .int 0, .int 0, .int 0, .int 0, .int 0, .int 0] := ⟨RX0, TX0, tyX0, rfl, inGX0, tyX0_ok, w1_44, w1_46, w1_3, by decide +kernel⟩
theorem mk_RX7_21 : Cond.code yX0_init cX0_init 1 none ∈ GW ∧ Cond.initialized yX0_init.cls ∈ GW ∧ Cond.instanceMethod yX0_init ∈ GW ∧ (Cond.methodLink RX7 21 yX0_init ∈ GW ∨ (true = true ∧ ∃ host, Cond.methodLinkNest RX7 21 yX0_init host ∈ NW)) ∧ yX0_init.cls ≠ "java/lang/invoke/MethodHandle" ∧ yX0_init.cls ≠ "java/lang/invoke/VarHandle" ∧ (parseMethodDescriptor yX0_init.desc).map (fun d => d.parameters.length) = some 0 := ⟨w1_49, w1_3, w1_48, Or.inl w1_47, by decide +kernel, by decide +kernel, by decide +kernel⟩
theorem fow_1_1_RX1 : fin_own 1 1 RX1 := fun C T n h => by cases h; rfl
theorem fow_1_2_RX1 : fin_own 1 2 RX1 := fun C T n h => by cases h; rfl
theorem fow_1_3_RX1 : fin_own 1 3 RX1 := fun C T n h => by cases h; rfl
theorem fow_1_4_RX1 : fin_own 1 4 RX1 := fun C T n h => by cases h; rfl
theorem fow_1_5_RX1 : fin_own 1 5 RX1 := fun C T n h => by cases h; rfl
theorem fow_1_6_RX1 : fin_own 1 6 RX1 := fun C T n h => by cases h; rfl
theorem fow_1_0_RX1 : fin_own 1 0 RX1 := fun C T n h => by cases h; rfl
theorem fow_2_1_RX2 : fin_own 2 1 RX2 := fun C T n h => by cases h; rfl
theorem fow_2_2_RX2 : fin_own 2 2 RX2 := fun C T n h => by cases h; rfl
theorem fow_2_0_RX2 : fin_own 2 0 RX2 := fun C T n h => by cases h; rfl
theorem fow_4_3_RX5 : fin_own 4 3 RX5 := fun C T n h => by cases h; rfl
theorem fow_4_4_RX5 : fin_own 4 4 RX5 := fun C T n h => by cases h; rfl
theorem fow_4_5_RX5 : fin_own 4 5 RX5 := fun C T n h => by cases h; rfl
theorem fow_4_6_RX5 : fin_own 4 6 RX5 := fun C T n h => by cases h; rfl
theorem fow_4_7_RX5 : fin_own 4 7 RX5 := fun C T n h => by cases h; rfl
theorem fow_4_8_RX5 : fin_own 4 8 RX5 := fun C T n h => by cases h; rfl
theorem fow_4_0_RX5 : fin_own 4 0 RX5 := fun C T n h => by cases h; rfl
theorem fow_4_1_RX5 : fin_own 4 1 RX5 := fun C T n h => by cases h; rfl
theorem fow_4_2_RX5 : fin_own 4 2 RX5 := fun C T n h => by cases h; rfl
theorem fow_3_1_RX3 : fin_own 3 1 RX3 := fun C T n h => by cases h; rfl
theorem fow_3_0_RX3 : fin_own 3 0 RX3 := fun C T n h => by cases h; rfl
theorem fow_5_1_RX3 : fin_own 5 1 RX3 := fun C T n h => by cases h; rfl
theorem fow_5_0_RX3 : fin_own 5 0 RX3 := fun C T n h => by cases h; rfl
theorem mk_RX4_3 : Cond.code yX3_init cX3_init 2 none ∈ GW ∧ Cond.initialized yX3_init.cls ∈ GW ∧ Cond.instanceMethod yX3_init ∈ GW ∧ (Cond.methodLink RX4 3 yX3_init ∈ GW ∨ (true = true ∧ ∃ host, Cond.methodLinkNest RX4 3 yX3_init host ∈ NW)) ∧ yX3_init.cls ≠ "java/lang/invoke/MethodHandle" ∧ yX3_init.cls ≠ "java/lang/invoke/VarHandle" ∧ (parseMethodDescriptor yX3_init.desc).map (fun d => d.parameters.length) = some 1 := ⟨w2_24, w1_7, w2_23, Or.inl w2_22, by decide +kernel, by decide +kernel, by decide +kernel⟩
theorem fow_3_8_RX4 : fin_own 3 8 RX4 := fun C T n h => by cases h; rfl
theorem mk_RX6_3 : Cond.code yX3_init cX3_init 2 none ∈ GW ∧ Cond.initialized yX3_init.cls ∈ GW ∧ Cond.instanceMethod yX3_init ∈ GW ∧ (Cond.methodLink RX6 3 yX3_init ∈ GW ∨ (true = true ∧ ∃ host, Cond.methodLinkNest RX6 3 yX3_init host ∈ NW)) ∧ yX3_init.cls ≠ "java/lang/invoke/MethodHandle" ∧ yX3_init.cls ≠ "java/lang/invoke/VarHandle" ∧ (parseMethodDescriptor yX3_init.desc).map (fun d => d.parameters.length) = some 1 := ⟨w2_24, w1_7, w2_23, Or.inl w2_77, by decide +kernel, by decide +kernel, by decide +kernel⟩
theorem fow_5_9_RX6 : fin_own 5 9 RX6 := fun C T n h => by cases h; rfl
theorem fow_5_10_RX6 : fin_own 5 10 RX6 := fun C T n h => by cases h; rfl
theorem fow_5_11_RX6 : fin_own 5 11 RX6 := fun C T n h => by cases h; rfl
theorem fow_5_12_RX6 : fin_own 5 12 RX6 := fun C T n h => by cases h; rfl
theorem fow_5_8_RX6 : fin_own 5 8 RX6 := fun C T n h => by cases h; rfl
theorem fow_7_0_RX8 : fin_own 7 0 RX8 := fun C T n h => by cases h; rfl
theorem cok_RX8_15 : cok 0 10 RX8 15 [.null, .null, .null, .null, .int 0, .int 0, .int 0, .int 0, .int 0, .int 0] := ⟨RX0, TX0, tyX0, rfl, inGX0, tyX0_ok, w2_111, w1_46, w1_3, by decide +kernel⟩
theorem mk_RX8_17 : Cond.code yX0_init cX0_init 1 none ∈ GW ∧ Cond.initialized yX0_init.cls ∈ GW ∧ Cond.instanceMethod yX0_init ∈ GW ∧ (Cond.methodLink RX8 17 yX0_init ∈ GW ∨ (true = true ∧ ∃ host, Cond.methodLinkNest RX8 17 yX0_init host ∈ NW)) ∧ yX0_init.cls ≠ "java/lang/invoke/MethodHandle" ∧ yX0_init.cls ≠ "java/lang/invoke/VarHandle" ∧ (parseMethodDescriptor yX0_init.desc).map (fun d => d.parameters.length) = some 0 := ⟨w1_49, w1_3, w1_48, Or.inl w2_112, by decide +kernel, by decide +kernel, by decide +kernel⟩
theorem fow_7_1_RX8 : fin_own 7 1 RX8 := fun C T n h => by cases h; rfl
theorem cok_RX9_9 : cok 6 3 RX9 9 [.null, .null, .int 0] := ⟨RX7, TX7, tyX7, rfl, inGX7, tyX7_ok, w1_38, w1_39, w1_2, by decide +kernel⟩
theorem mk_RX9_11 : Cond.code yX7_init cX7_init 2 none ∈ GW ∧ Cond.initialized yX7_init.cls ∈ GW ∧ Cond.instanceMethod yX7_init ∈ GW ∧ (Cond.methodLink RX9 11 yX7_init ∈ GW ∨ (true = true ∧ ∃ host, Cond.methodLinkNest RX9 11 yX7_init host ∈ NW)) ∧ yX7_init.cls ≠ "java/lang/invoke/MethodHandle" ∧ yX7_init.cls ≠ "java/lang/invoke/VarHandle" ∧ (parseMethodDescriptor yX7_init.desc).map (fun d => d.parameters.length) = some 0 := ⟨w1_42, w1_2, w1_41, Or.inl w1_40, by decide +kernel, by decide +kernel, by decide +kernel⟩
theorem cok_RX9_12 : cok 1 7 RX9 12 [.null, .null, .null, .null, .null, .null, .null] := ⟨RX1, TX1, tyX1, rfl, inGX1, tyX1_ok, w1_139, w1_140, w1_4, by decide +kernel⟩
theorem mk_RX9_14 : Cond.code yX1_init cX1_init 2 none ∈ GW ∧ Cond.initialized yX1_init.cls ∈ GW ∧ Cond.instanceMethod yX1_init ∈ GW ∧ (Cond.methodLink RX9 14 yX1_init ∈ GW ∨ (true = true ∧ ∃ host, Cond.methodLinkNest RX9 14 yX1_init host ∈ NW)) ∧ yX1_init.cls ≠ "java/lang/invoke/MethodHandle" ∧ yX1_init.cls ≠ "java/lang/invoke/VarHandle" ∧ (parseMethodDescriptor yX1_init.desc).map (fun d => d.parameters.length) = some 1 := ⟨w1_143, w1_4, w1_142, Or.inl w1_141, by decide +kernel, by decide +kernel, by decide +kernel⟩
theorem cok_RX9_17 : cok 2 4 RX9 17 [.null, .null, .null, .int 0] := ⟨RX2, TX2, tyX2, rfl, inGX2, tyX2_ok, w1_171, w1_172, w1_5, by decide +kernel⟩
theorem mk_RX9_19 : Cond.code yX2_init cX2_init 2 none ∈ GW ∧ Cond.initialized yX2_init.cls ∈ GW ∧ Cond.instanceMethod yX2_init ∈ GW ∧ (Cond.methodLink RX9 19 yX2_init ∈ GW ∨ (true = true ∧ ∃ host, Cond.methodLinkNest RX9 19 yX2_init host ∈ NW)) ∧ yX2_init.cls ≠ "java/lang/invoke/MethodHandle" ∧ yX2_init.cls ≠ "java/lang/invoke/VarHandle" ∧ (parseMethodDescriptor yX2_init.desc).map (fun d => d.parameters.length) = some 1 := ⟨w1_175, w1_5, w1_174, Or.inl w1_173, by decide +kernel, by decide +kernel, by decide +kernel⟩
theorem cok_RX9_20 : cok 4 13 RX9 20 [.null, .null, .null, .null, .null, .null, .null, .null, .null, .int 0, .int 0, .int 0, .int 0] := ⟨RX5, TX5, tyX5, rfl, inGX5, tyX5_ok, w1_198, w1_199, w1_6, by decide +kernel⟩
theorem mk_RX9_22 : Cond.code yX5_init cX5_init 4 none ∈ GW ∧ Cond.initialized yX5_init.cls ∈ GW ∧ Cond.instanceMethod yX5_init ∈ GW ∧ (Cond.methodLink RX9 22 yX5_init ∈ GW ∨ (true = true ∧ ∃ host, Cond.methodLinkNest RX9 22 yX5_init host ∈ NW)) ∧ yX5_init.cls ≠ "java/lang/invoke/MethodHandle" ∧ yX5_init.cls ≠ "java/lang/invoke/VarHandle" ∧ (parseMethodDescriptor yX5_init.desc).map (fun d => d.parameters.length) = some 3 := ⟨w1_202, w1_6, w1_201, Or.inl w1_200, by decide +kernel, by decide +kernel, by decide +kernel⟩
theorem fow_8_0_RX9 : fin_own 8 0 RX9 := fun C T n h => by cases h; rfl
theorem fow_8_1_RX9 : fin_own 8 1 RX9 := fun C T n h => by cases h; rfl
theorem fow_8_2_RX9 : fin_own 8 2 RX9 := fun C T n h => by cases h; rfl
theorem fow_8_3_RX9 : fin_own 8 3 RX9 := fun C T n h => by cases h; rfl
theorem fow_8_4_RX9 : fin_own 8 4 RX9 := fun C T n h => by cases h; rfl
theorem cok_RX9_44 : cok 3 9 RX9 44 [.null, .null, .int 0, .int 0, .int 0, .int 0, .int 0, .int 0, .null] := ⟨RX4, TX4, tyX4, rfl, inGX4, tyX4_ok, w2_17, w2_18, w1_8, by decide +kernel⟩
theorem mk_RX9_46 : Cond.code yX4_init cX4_init 2 none ∈ GW ∧ Cond.initialized yX4_init.cls ∈ GW ∧ Cond.instanceMethod yX4_init ∈ GW ∧ (Cond.methodLink RX9 46 yX4_init ∈ GW ∨ (true = true ∧ ∃ host, Cond.methodLinkNest RX9 46 yX4_init host ∈ NW)) ∧ yX4_init.cls ≠ "java/lang/invoke/MethodHandle" ∧ yX4_init.cls ≠ "java/lang/invoke/VarHandle" ∧ (parseMethodDescriptor yX4_init.desc).map (fun d => d.parameters.length) = some 1 := ⟨w2_21, w1_8, w2_20, Or.inl w2_19, by decide +kernel, by decide +kernel, by decide +kernel⟩
theorem fow_8_5_RX9 : fin_own 8 5 RX9 := fun C T n h => by cases h; rfl
theorem cok_RX9_51 : cok 5 14 RX9 51 [.null, .null, .int 0, .int 0, .int 0, .int 0, .int 0, .int 0, .null, .null, .null, .null, .null, .int 0] := ⟨RX6, TX6, tyX6, rfl, inGX6, tyX6_ok, w2_72, w2_73, w1_9, by decide +kernel⟩
theorem mk_RX9_53 : Cond.code yX6_init cX6_init 3 none ∈ GW ∧ Cond.initialized yX6_init.cls ∈ GW ∧ Cond.instanceMethod yX6_init ∈ GW ∧ (Cond.methodLink RX9 53 yX6_init ∈ GW ∨ (true = true ∧ ∃ host, Cond.methodLinkNest RX9 53 yX6_init host ∈ NW)) ∧ yX6_init.cls ≠ "java/lang/invoke/MethodHandle" ∧ yX6_init.cls ≠ "java/lang/invoke/VarHandle" ∧ (parseMethodDescriptor yX6_init.desc).map (fun d => d.parameters.length) = some 2 := ⟨w2_76, w1_9, w2_75, Or.inl w2_74, by decide +kernel, by decide +kernel, by decide +kernel⟩
theorem fow_8_6_RX9 : fin_own 8 6 RX9 := fun C T n h => by cases h; rfl
theorem cok_RX9_59 : cok 7 5 RX9 59 [.null, .null, .int 0, .int 0, .int 0] := ⟨RX8, TX8, tyX8, rfl, inGX8, tyX8_ok, w2_105, w2_106, w1_10, by decide +kernel⟩
theorem mk_RX9_61 : Cond.code yX8_init cX8_init 1 none ∈ GW ∧ Cond.initialized yX8_init.cls ∈ GW ∧ Cond.instanceMethod yX8_init ∈ GW ∧ (Cond.methodLink RX9 61 yX8_init ∈ GW ∨ (true = true ∧ ∃ host, Cond.methodLinkNest RX9 61 yX8_init host ∈ NW)) ∧ yX8_init.cls ≠ "java/lang/invoke/MethodHandle" ∧ yX8_init.cls ≠ "java/lang/invoke/VarHandle" ∧ (parseMethodDescriptor yX8_init.desc).map (fun d => d.parameters.length) = some 0 := ⟨w2_109, w1_10, w2_108, Or.inr ⟨rfl, _, w2_107⟩, by decide +kernel, by decide +kernel, by decide +kernel⟩
theorem fow_8_7_RX9 : fin_own 8 7 RX9 := fun C T n h => by cases h; rfl
theorem fow_8_8_RX9 : fin_own 8 8 RX9 := fun C T n h => by cases h; rfl
theorem fow_8_9_RX9 : fin_own 8 9 RX9 := fun C T n h => by cases h; rfl
theorem fow_8_10_RX9 : fin_own 8 10 RX9 := fun C T n h => by cases h; rfl
