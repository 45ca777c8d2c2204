theorem dX5_init_0 : decode cX5_init 0 = .ok (.aload_n 0, 1) := by decide +kernel
theorem dX5_init_1 : decode cX5_init 1 = .ok (.invokespecial 1, 3) := by decide +kernel
theorem dX5_init_4 : decode cX5_init 4 = .ok (.return_, 1) := by decide +kernel
theorem dX9_init_0 : decode cX9_init 0 = .ok (.aload_n 0, 1) := by decide +kernel
theorem dX9_init_1 : decode cX9_init 1 = .ok (.invokespecial 3, 3) := by decide +kernel
theorem dX9_init_4 : decode cX9_init 4 = .ok (.aload_n 0, 1) := by decide +kernel
theorem dX9_init_5 : decode cX9_init 5 = .ok (.bipush 80, 2) := by decide +kernel
theorem dX9_init_7 : decode cX9_init 7 = .ok (.newarray .char, 2) := by decide +kernel
theorem dX9_init_9 : decode cX9_init 9 = .ok (.putfield 11, 3) := by decide +kernel
theorem dX9_init_12 : decode cX9_init 12 = .ok (.aload_n 0, 1) := by decide +kernel
theorem dX9_init_13 : decode cX9_init 13 = .ok (.iconst 0, 1) := by decide +kernel
theorem dX9_init_14 : decode cX9_init 14 = .ok (.putfield 15, 3) := by decide +kernel
theorem dX9_init_17 : decode cX9_init 17 = .ok (.aload_n 0, 1) := by decide +kernel
theorem dX9_init_18 : decode cX9_init 18 = .ok (.iconst 0, 1) := by decide +kernel
theorem dX9_init_19 : decode cX9_init 19 = .ok (.putfield 19, 3) := by decide +kernel
theorem dX9_init_22 : decode cX9_init 22 = .ok (.aload_n 0, 1) := by decide +kernel
theorem dX9_init_23 : decode cX9_init 23 = .ok (.iconst 0, 1) := by decide +kernel
theorem dX9_init_24 : decode cX9_init 24 = .ok (.putfield 22, 3) := by decide +kernel
theorem dX9_init_27 : decode cX9_init 27 = .ok (.return_, 1) := by decide +kernel
theorem dX7_init_0 : decode cX7_init 0 = .ok (.aload_n 0, 1) := by decide +kernel
theorem dX7_init_1 : decode cX7_init 1 = .ok (.invokespecial 1, 3) := by decide +kernel
theorem dX7_init_4 : decode cX7_init 4 = .ok (.aload_n 0, 1) := by decide +kernel
theorem dX7_init_5 : decode cX7_init 5 = .ok (.bipush 8, 2) := by decide +kernel
theorem dX7_init_7 : decode cX7_init 7 = .ok (.newarray .long, 2) := by decide +kernel
theorem dX7_init_9 : decode cX7_init 9 = .ok (.putfield 7, 3) := by decide +kernel
theorem dX7_init_12 : decode cX7_init 12 = .ok (.aload_n 0, 1) := by decide +kernel
theorem dX7_init_13 : decode cX7_init 13 = .ok (.iconst 0, 1) := by decide +kernel
theorem dX7_init_14 : decode cX7_init 14 = .ok (.putfield 13, 3) := by decide +kernel
theorem dX7_init_17 : decode cX7_init 17 = .ok (.return_, 1) := by decide +kernel
theorem dX3_init_0 : decode cX3_init 0 = .ok (.aload_n 0, 1) := by decide +kernel
theorem dX3_init_1 : decode cX3_init 1 = .ok (.invokespecial 3, 3) := by decide +kernel
theorem dX3_init_4 : decode cX3_init 4 = .ok (.aload_n 0, 1) := by decide +kernel
theorem dX3_init_5 : decode cX3_init 5 = .ok (.bipush 6, 2) := by decide +kernel
theorem dX3_init_7 : decode cX3_init 7 = .ok (.newarray .int, 2) := by decide +kernel
theorem dX3_init_9 : decode cX3_init 9 = .ok (.putfield 9, 3) := by decide +kernel
theorem dX3_init_12 : decode cX3_init 12 = .ok (.aload_n 0, 1) := by decide +kernel
theorem dX3_init_13 : decode cX3_init 13 = .ok (.bipush 6, 2) := by decide +kernel
theorem dX3_init_15 : decode cX3_init 15 = .ok (.newarray .int, 2) := by decide +kernel
theorem dX3_init_17 : decode cX3_init 17 = .ok (.putfield 15, 3) := by decide +kernel
theorem dX3_init_20 : decode cX3_init 20 = .ok (.aload_n 0, 1) := by decide +kernel
theorem dX3_init_21 : decode cX3_init 21 = .ok (.bipush 6, 2) := by decide +kernel
theorem dX3_init_23 : decode cX3_init 23 = .ok (.newarray .boolean, 2) := by decide +kernel
theorem dX3_init_25 : decode cX3_init 25 = .ok (.putfield 18, 3) := by decide +kernel
theorem dX3_init_28 : decode cX3_init 28 = .ok (.aload_n 0, 1) := by decide +kernel
theorem dX3_init_29 : decode cX3_init 29 = .ok (.bipush 6, 2) := by decide +kernel
theorem dX3_init_31 : decode cX3_init 31 = .ok (.newarray .int, 2) := by decide +kernel
theorem dX3_init_33 : decode cX3_init 33 = .ok (.putfield 22, 3) := by decide +kernel
theorem dX3_init_36 : decode cX3_init 36 = .ok (.aload_n 0, 1) := by decide +kernel
theorem dX3_init_37 : decode cX3_init 37 = .ok (.bipush 6, 2) := by decide +kernel
theorem dX3_init_39 : decode cX3_init 39 = .ok (.newarray .int, 2) := by decide +kernel
theorem dX3_init_41 : decode cX3_init 41 = .ok (.putfield 25, 3) := by decide +kernel
theorem dX3_init_44 : decode cX3_init 44 = .ok (.aload_n 0, 1) := by decide +kernel
theorem dX3_init_45 : decode cX3_init 45 = .ok (.iconst 0, 1) := by decide +kernel
theorem dX3_init_46 : decode cX3_init 46 = .ok (.putfield 28, 3) := by decide +kernel
theorem dX3_init_49 : decode cX3_init 49 = .ok (.aload_n 0, 1) := by decide +kernel
theorem dX3_init_50 : decode cX3_init 50 = .ok (.iconst 0, 1) := by decide +kernel
theorem dX3_init_51 : decode cX3_init 51 = .ok (.putfield 32, 3) := by decide +kernel
theorem dX3_init_54 : decode cX3_init 54 = .ok (.return_, 1) := by decide +kernel
theorem dX1_init_0 : decode cX1_init 0 = .ok (.aload_n 0, 1) := by decide +kernel
theorem dX1_init_1 : decode cX1_init 1 = .ok (.invokespecial 3, 3) := by decide +kernel
theorem dX1_init_4 : decode cX1_init 4 = .ok (.aload_n 0, 1) := by decide +kernel
theorem dX1_init_5 : decode cX1_init 5 = .ok (.bipush 8, 2) := by decide +kernel
theorem dX1_init_7 : decode cX1_init 7 = .ok (.newarray .int, 2) := by decide +kernel
theorem dX1_init_9 : decode cX1_init 9 = .ok (.putfield 9, 3) := by decide +kernel
theorem dX1_init_12 : decode cX1_init 12 = .ok (.aload_n 0, 1) := by decide +kernel
theorem dX1_init_13 : decode cX1_init 13 = .ok (.bipush 8, 2) := by decide +kernel
theorem dX1_init_15 : decode cX1_init 15 = .ok (.newarray .int, 2) := by decide +kernel
theorem dX1_init_17 : decode cX1_init 17 = .ok (.putfield 15, 3) := by decide +kernel
theorem dX1_init_20 : decode cX1_init 20 = .ok (.aload_n 0, 1) := by decide +kernel
theorem dX1_init_21 : decode cX1_init 21 = .ok (.bipush 8, 2) := by decide +kernel
theorem dX1_init_23 : decode cX1_init 23 = .ok (.newarray .int, 2) := by decide +kernel
theorem dX1_init_25 : decode cX1_init 25 = .ok (.putfield 18, 3) := by decide +kernel
theorem dX1_init_28 : decode cX1_init 28 = .ok (.aload_n 0, 1) := by decide +kernel
theorem dX1_init_29 : decode cX1_init 29 = .ok (.iconst 0, 1) := by decide +kernel
theorem dX1_init_30 : decode cX1_init 30 = .ok (.putfield 21, 3) := by decide +kernel
theorem dX1_init_33 : decode cX1_init 33 = .ok (.aload_n 0, 1) := by decide +kernel
theorem dX1_init_34 : decode cX1_init 34 = .ok (.aload_n 1, 1) := by decide +kernel
theorem dX1_init_35 : decode cX1_init 35 = .ok (.putfield 25, 3) := by decide +kernel
theorem dX1_init_38 : decode cX1_init 38 = .ok (.return_, 1) := by decide +kernel
theorem dX0_init_0 : decode cX0_init 0 = .ok (.aload_n 0, 1) := by decide +kernel
theorem dX0_init_1 : decode cX0_init 1 = .ok (.invokespecial 1, 3) := by decide +kernel
theorem dX0_init_4 : decode cX0_init 4 = .ok (.aload_n 0, 1) := by decide +kernel
theorem dX0_init_5 : decode cX0_init 5 = .ok (.bipush 20, 2) := by decide +kernel
theorem dX0_init_7 : decode cX0_init 7 = .ok (.newarray .int, 2) := by decide +kernel
theorem dX0_init_9 : decode cX0_init 9 = .ok (.putfield 9, 3) := by decide +kernel
theorem dX0_init_12 : decode cX0_init 12 = .ok (.aload_n 0, 1) := by decide +kernel
theorem dX0_init_13 : decode cX0_init 13 = .ok (.bipush 20, 2) := by decide +kernel
theorem dX0_init_15 : decode cX0_init 15 = .ok (.newarray .int, 2) := by decide +kernel
theorem dX0_init_17 : decode cX0_init 17 = .ok (.putfield 13, 3) := by decide +kernel
theorem dX0_init_20 : decode cX0_init 20 = .ok (.aload_n 0, 1) := by decide +kernel
theorem dX0_init_21 : decode cX0_init 21 = .ok (.bipush 20, 2) := by decide +kernel
theorem dX0_init_23 : decode cX0_init 23 = .ok (.newarray .int, 2) := by decide +kernel
theorem dX0_init_25 : decode cX0_init 25 = .ok (.putfield 16, 3) := by decide +kernel
theorem dX0_init_28 : decode cX0_init 28 = .ok (.return_, 1) := by decide +kernel
theorem dX8_init_0 : decode cX8_init 0 = .ok (.aload_n 0, 1) := by decide +kernel
theorem dX8_init_1 : decode cX8_init 1 = .ok (.invokespecial 3, 3) := by decide +kernel
theorem dX8_init_4 : decode cX8_init 4 = .ok (.aload_n 0, 1) := by decide +kernel
theorem dX8_init_5 : decode cX8_init 5 = .ok (.bipush 40, 2) := by decide +kernel
theorem dX8_init_7 : decode cX8_init 7 = .ok (.newarray .int, 2) := by decide +kernel
theorem dX8_init_9 : decode cX8_init 9 = .ok (.putfield 11, 3) := by decide +kernel
theorem dX8_init_12 : decode cX8_init 12 = .ok (.aload_n 0, 1) := by decide +kernel
theorem dX8_init_13 : decode cX8_init 13 = .ok (.iconst 0, 1) := by decide +kernel
theorem dX8_init_14 : decode cX8_init 14 = .ok (.putfield 15, 3) := by decide +kernel
theorem dX8_init_17 : decode cX8_init 17 = .ok (.aload_n 0, 1) := by decide +kernel
theorem dX8_init_18 : decode cX8_init 18 = .ok (.bipush 40, 2) := by decide +kernel
theorem dX8_init_20 : decode cX8_init 20 = .ok (.newarray .int, 2) := by decide +kernel
theorem dX8_init_22 : decode cX8_init 22 = .ok (.putfield 19, 3) := by decide +kernel
theorem dX8_init_25 : decode cX8_init 25 = .ok (.aload_n 0, 1) := by decide +kernel
theorem dX8_init_26 : decode cX8_init 26 = .ok (.iconst 0, 1) := by decide +kernel
theorem dX8_init_27 : decode cX8_init 27 = .ok (.putfield 22, 3) := by decide +kernel
theorem dX8_init_30 : decode cX8_init 30 = .ok (.aload_n 0, 1) := by decide +kernel
theorem dX8_init_31 : decode cX8_init 31 = .ok (.ldc 25, 2) := by decide +kernel
theorem dX8_init_33 : decode cX8_init 33 = .ok (.invokevirtual 27, 3) := by decide +kernel
theorem dX8_init_36 : decode cX8_init 36 = .ok (.newarray .int, 2) := by decide +kernel
theorem dX8_init_38 : decode cX8_init 38 = .ok (.putfield 32, 3) := by decide +kernel
theorem dX8_init_41 : decode cX8_init 41 = .ok (.aload_n 0, 1) := by decide +kernel
theorem dX8_init_42 : decode cX8_init 42 = .ok (.bipush 40, 2) := by decide +kernel
theorem dX8_init_44 : decode cX8_init 44 = .ok (.newarray .int, 2) := by decide +kernel
theorem dX8_init_46 : decode cX8_init 46 = .ok (.putfield 35, 3) := by decide +kernel
theorem dX8_init_49 : decode cX8_init 49 = .ok (.return_, 1) := by decide +kernel
theorem dX2_init_0 : decode cX2_init 0 = .ok (.aload_n 0, 1) := by decide +kernel
theorem dX2_init_1 : decode cX2_init 1 = .ok (.invokespecial 3, 3) := by decide +kernel
theorem dX2_init_4 : decode cX2_init 4 = .ok (.aload_n 0, 1) := by decide +kernel
theorem dX2_init_5 : decode cX2_init 5 = .ok (.iconst 4, 1) := by decide +kernel
theorem dX2_init_6 : decode cX2_init 6 = .ok (.newarray .int, 2) := by decide +kernel
theorem dX2_init_8 : decode cX2_init 8 = .ok (.dup, 1) := by decide +kernel
theorem dX2_init_9 : decode cX2_init 9 = .ok (.iconst 0, 1) := by decide +kernel
theorem dX2_init_10 : decode cX2_init 10 = .ok (.iconst 0, 1) := by decide +kernel
theorem dX2_init_11 : decode cX2_init 11 = .ok (.iastore, 1) := by decide +kernel
theorem dX2_init_12 : decode cX2_init 12 = .ok (.dup, 1) := by decide +kernel
theorem dX2_init_13 : decode cX2_init 13 = .ok (.iconst 1, 1) := by decide +kernel
theorem dX2_init_14 : decode cX2_init 14 = .ok (.iconst 2, 1) := by decide +kernel
theorem dX2_init_15 : decode cX2_init 15 = .ok (.iastore, 1) := by decide +kernel
theorem dX2_init_16 : decode cX2_init 16 = .ok (.dup, 1) := by decide +kernel
theorem dX2_init_17 : decode cX2_init 17 = .ok (.iconst 2, 1) := by decide +kernel
theorem dX2_init_18 : decode cX2_init 18 = .ok (.iconst 1, 1) := by decide +kernel
theorem dX2_init_19 : decode cX2_init 19 = .ok (.iastore, 1) := by decide +kernel
theorem dX2_init_20 : decode cX2_init 20 = .ok (.dup, 1) := by decide +kernel
theorem dX2_init_21 : decode cX2_init 21 = .ok (.iconst 3, 1) := by decide +kernel
theorem dX2_init_22 : decode cX2_init 22 = .ok (.iconst 0, 1) := by decide +kernel
theorem dX2_init_23 : decode cX2_init 23 = .ok (.iastore, 1) := by decide +kernel
theorem dX2_init_24 : decode cX2_init 24 = .ok (.putfield 9, 3) := by decide +kernel
theorem dX2_init_27 : decode cX2_init 27 = .ok (.aload_n 0, 1) := by decide +kernel
theorem dX2_init_28 : decode cX2_init 28 = .ok (.iconst 4, 1) := by decide +kernel
theorem dX2_init_29 : decode cX2_init 29 = .ok (.newarray .int, 2) := by decide +kernel
theorem dX2_init_31 : decode cX2_init 31 = .ok (.putfield 15, 3) := by decide +kernel
theorem dX2_init_34 : decode cX2_init 34 = .ok (.aload_n 0, 1) := by decide +kernel
theorem dX2_init_35 : decode cX2_init 35 = .ok (.bipush 8, 2) := by decide +kernel
theorem dX2_init_37 : decode cX2_init 37 = .ok (.newarray .int, 2) := by decide +kernel
theorem dX2_init_39 : decode cX2_init 39 = .ok (.dup, 1) := by decide +kernel
theorem dX2_init_40 : decode cX2_init 40 = .ok (.iconst 0, 1) := by decide +kernel
theorem dX2_init_41 : decode cX2_init 41 = .ok (.bipush 10, 2) := by decide +kernel
theorem dX2_init_43 : decode cX2_init 43 = .ok (.iastore, 1) := by decide +kernel
theorem dX2_init_44 : decode cX2_init 44 = .ok (.dup, 1) := by decide +kernel
theorem dX2_init_45 : decode cX2_init 45 = .ok (.iconst 1, 1) := by decide +kernel
theorem dX2_init_46 : decode cX2_init 46 = .ok (.bipush 10, 2) := by decide +kernel
theorem dX2_init_48 : decode cX2_init 48 = .ok (.iastore, 1) := by decide +kernel
theorem dX2_init_49 : decode cX2_init 49 = .ok (.dup, 1) := by decide +kernel
theorem dX2_init_50 : decode cX2_init 50 = .ok (.iconst 2, 1) := by decide +kernel
theorem dX2_init_51 : decode cX2_init 51 = .ok (.bipush 10, 2) := by decide +kernel
theorem dX2_init_53 : decode cX2_init 53 = .ok (.iastore, 1) := by decide +kernel
theorem dX2_init_54 : decode cX2_init 54 = .ok (.dup, 1) := by decide +kernel
theorem dX2_init_55 : decode cX2_init 55 = .ok (.iconst 3, 1) := by decide +kernel
theorem dX2_init_56 : decode cX2_init 56 = .ok (.bipush 10, 2) := by decide +kernel
theorem dX2_init_58 : decode cX2_init 58 = .ok (.iastore, 1) := by decide +kernel
theorem dX2_init_59 : decode cX2_init 59 = .ok (.dup, 1) := by decide +kernel
theorem dX2_init_60 : decode cX2_init 60 = .ok (.iconst 4, 1) := by decide +kernel
theorem dX2_init_61 : decode cX2_init 61 = .ok (.bipush 10, 2) := by decide +kernel
theorem dX2_init_63 : decode cX2_init 63 = .ok (.iastore, 1) := by decide +kernel
theorem dX2_init_64 : decode cX2_init 64 = .ok (.dup, 1) := by decide +kernel
theorem dX2_init_65 : decode cX2_init 65 = .ok (.iconst 5, 1) := by decide +kernel
theorem dX2_init_66 : decode cX2_init 66 = .ok (.bipush 10, 2) := by decide +kernel
theorem dX2_init_68 : decode cX2_init 68 = .ok (.iastore, 1) := by decide +kernel
theorem dX2_init_69 : decode cX2_init 69 = .ok (.dup, 1) := by decide +kernel
theorem dX2_init_70 : decode cX2_init 70 = .ok (.bipush 6, 2) := by decide +kernel
theorem dX2_init_72 : decode cX2_init 72 = .ok (.bipush 10, 2) := by decide +kernel
theorem dX2_init_74 : decode cX2_init 74 = .ok (.iastore, 1) := by decide +kernel
theorem dX2_init_75 : decode cX2_init 75 = .ok (.dup, 1) := by decide +kernel
theorem dX2_init_76 : decode cX2_init 76 = .ok (.bipush 7, 2) := by decide +kernel
theorem dX2_init_78 : decode cX2_init 78 = .ok (.bipush 10, 2) := by decide +kernel
theorem dX2_init_80 : decode cX2_init 80 = .ok (.iastore, 1) := by decide +kernel
theorem dX2_init_81 : decode cX2_init 81 = .ok (.putfield 18, 3) := by decide +kernel
theorem dX2_init_84 : decode cX2_init 84 = .ok (.aload_n 0, 1) := by decide +kernel
theorem dX2_init_85 : decode cX2_init 85 = .ok (.bipush 8, 2) := by decide +kernel
theorem dX2_init_87 : decode cX2_init 87 = .ok (.newarray .int, 2) := by decide +kernel
theorem dX2_init_89 : decode cX2_init 89 = .ok (.putfield 21, 3) := by decide +kernel
theorem dX2_init_92 : decode cX2_init 92 = .ok (.aload_n 0, 1) := by decide +kernel
theorem dX2_init_93 : decode cX2_init 93 = .ok (.aload_n 1, 1) := by decide +kernel
theorem dX2_init_94 : decode cX2_init 94 = .ok (.putfield 24, 3) := by decide +kernel
theorem dX2_init_97 : decode cX2_init 97 = .ok (.return_, 1) := by decide +kernel
theorem dX4_init_0 : decode cX4_init 0 = .ok (.aload_n 0, 1) := by decide +kernel
theorem dX4_init_1 : decode cX4_init 1 = .ok (.invokespecial 3, 3) := by decide +kernel
theorem dX4_init_4 : decode cX4_init 4 = .ok (.aload_n 0, 1) := by decide +kernel
theorem dX4_init_5 : decode cX4_init 5 = .ok (.bipush 6, 2) := by decide +kernel
theorem dX4_init_7 : decode cX4_init 7 = .ok (.newarray .int, 2) := by decide +kernel
theorem dX4_init_9 : decode cX4_init 9 = .ok (.putfield 9, 3) := by decide +kernel
theorem dX4_init_12 : decode cX4_init 12 = .ok (.aload_n 0, 1) := by decide +kernel
theorem dX4_init_13 : decode cX4_init 13 = .ok (.bipush 6, 2) := by decide +kernel
theorem dX4_init_15 : decode cX4_init 15 = .ok (.newarray .int, 2) := by decide +kernel
theorem dX4_init_17 : decode cX4_init 17 = .ok (.putfield 15, 3) := by decide +kernel
theorem dX4_init_20 : decode cX4_init 20 = .ok (.aload_n 0, 1) := by decide +kernel
theorem dX4_init_21 : decode cX4_init 21 = .ok (.bipush 6, 2) := by decide +kernel
theorem dX4_init_23 : decode cX4_init 23 = .ok (.newarray .int, 2) := by decide +kernel
theorem dX4_init_25 : decode cX4_init 25 = .ok (.putfield 18, 3) := by decide +kernel
theorem dX4_init_28 : decode cX4_init 28 = .ok (.aload_n 0, 1) := by decide +kernel
theorem dX4_init_29 : decode cX4_init 29 = .ok (.bipush 8, 2) := by decide +kernel
theorem dX4_init_31 : decode cX4_init 31 = .ok (.newarray .int, 2) := by decide +kernel
theorem dX4_init_33 : decode cX4_init 33 = .ok (.putfield 21, 3) := by decide +kernel
theorem dX4_init_36 : decode cX4_init 36 = .ok (.aload_n 0, 1) := by decide +kernel
theorem dX4_init_37 : decode cX4_init 37 = .ok (.iconst 0, 1) := by decide +kernel
theorem dX4_init_38 : decode cX4_init 38 = .ok (.putfield 24, 3) := by decide +kernel
theorem dX4_init_41 : decode cX4_init 41 = .ok (.aload_n 0, 1) := by decide +kernel
theorem dX4_init_42 : decode cX4_init 42 = .ok (.iconst 0, 1) := by decide +kernel
theorem dX4_init_43 : decode cX4_init 43 = .ok (.putfield 28, 3) := by decide +kernel
theorem dX4_init_46 : decode cX4_init 46 = .ok (.aload_n 0, 1) := by decide +kernel
theorem dX4_init_47 : decode cX4_init 47 = .ok (.aload_n 1, 1) := by decide +kernel
theorem dX4_init_48 : decode cX4_init 48 = .ok (.putfield 31, 3) := by decide +kernel
theorem dX4_init_51 : decode cX4_init 51 = .ok (.aload_n 0, 1) := by decide +kernel
theorem dX4_init_52 : decode cX4_init 52 = .ok (.aload_n 2, 1) := by decide +kernel
theorem dX4_init_53 : decode cX4_init 53 = .ok (.putfield 35, 3) := by decide +kernel
theorem dX4_init_56 : decode cX4_init 56 = .ok (.aload_n 0, 1) := by decide +kernel
theorem dX4_init_57 : decode cX4_init 57 = .ok (.aload_n 3, 1) := by decide +kernel
theorem dX4_init_58 : decode cX4_init 58 = .ok (.putfield 39, 3) := by decide +kernel
theorem dX4_init_61 : decode cX4_init 61 = .ok (.return_, 1) := by decide +kernel
theorem dX6_init_0 : decode cX6_init 0 = .ok (.aload_n 0, 1) := by decide +kernel
theorem dX6_init_1 : decode cX6_init 1 = .ok (.invokespecial 1, 3) := by decide +kernel
theorem dX6_init_4 : decode cX6_init 4 = .ok (.aload_n 0, 1) := by decide +kernel
theorem dX6_init_5 : decode cX6_init 5 = .ok (.bipush 13, 2) := by decide +kernel
theorem dX6_init_7 : decode cX6_init 7 = .ok (.anewarray 9, 3) := by decide +kernel
theorem dX6_init_10 : decode cX6_init 10 = .ok (.putfield 11, 3) := by decide +kernel
theorem dX6_init_13 : decode cX6_init 13 = .ok (.aload_n 0, 1) := by decide +kernel
theorem dX6_init_14 : decode cX6_init 14 = .ok (.iconst 0, 1) := by decide +kernel
theorem dX6_init_15 : decode cX6_init 15 = .ok (.putfield 15, 3) := by decide +kernel
theorem dX6_init_18 : decode cX6_init 18 = .ok (.aload_n 0, 1) := by decide +kernel
theorem dX6_init_19 : decode cX6_init 19 = .ok (.iconst 0, 1) := by decide +kernel
theorem dX6_init_20 : decode cX6_init 20 = .ok (.putfield 19, 3) := by decide +kernel
theorem dX6_init_23 : decode cX6_init 23 = .ok (.iconst 0, 1) := by decide +kernel
theorem dX6_init_24 : decode cX6_init 24 = .ok (.istore 4, 2) := by decide +kernel
theorem dX6_init_26 : decode cX6_init 26 = .ok (.iload 4, 2) := by decide +kernel
theorem dX6_init_28 : decode cX6_init 28 = .ok (.bipush 13, 2) := by decide +kernel
theorem dX6_init_30 : decode cX6_init 30 = .ok (.if_icmp .ge 26, 3) := by decide +kernel
theorem dX6_init_33 : decode cX6_init 33 = .ok (.aload_n 0, 1) := by decide +kernel
theorem dX6_init_34 : decode cX6_init 34 = .ok (.getfield 11, 3) := by decide +kernel
theorem dX6_init_37 : decode cX6_init 37 = .ok (.iload 4, 2) := by decide +kernel
theorem dX6_init_39 : decode cX6_init 39 = .ok (.new 9, 3) := by decide +kernel
theorem dX6_init_42 : decode cX6_init 42 = .ok (.dup, 1) := by decide +kernel
theorem dX6_init_43 : decode cX6_init 43 = .ok (.aload_n 1, 1) := by decide +kernel
theorem dX6_init_44 : decode cX6_init 44 = .ok (.aload_n 2, 1) := by decide +kernel
theorem dX6_init_45 : decode cX6_init 45 = .ok (.aload_n 3, 1) := by decide +kernel
theorem dX6_init_46 : decode cX6_init 46 = .ok (.invokespecial 22, 3) := by decide +kernel
theorem dX6_init_49 : decode cX6_init 49 = .ok (.aastore, 1) := by decide +kernel
theorem dX6_init_50 : decode cX6_init 50 = .ok (.iinc 4 1, 3) := by decide +kernel
theorem dX6_init_53 : decode cX6_init 53 = .ok (.goto (-27), 3) := by decide +kernel
theorem dX6_init_56 : decode cX6_init 56 = .ok (.return_, 1) := by decide +kernel
theorem dX10_init_0 : decode cX10_init 0 = .ok (.aload_n 0, 1) := by decide +kernel
theorem dX10_init_1 : decode cX10_init 1 = .ok (.invokespecial 3, 3) := by decide +kernel
theorem dX10_init_4 : decode cX10_init 4 = .ok (.aload_n 0, 1) := by decide +kernel
theorem dX10_init_5 : decode cX10_init 5 = .ok (.bipush 6, 2) := by decide +kernel
theorem dX10_init_7 : decode cX10_init 7 = .ok (.newarray .int, 2) := by decide +kernel
theorem dX10_init_9 : decode cX10_init 9 = .ok (.putfield 9, 3) := by decide +kernel
theorem dX10_init_12 : decode cX10_init 12 = .ok (.aload_n 0, 1) := by decide +kernel
theorem dX10_init_13 : decode cX10_init 13 = .ok (.iconst 0, 1) := by decide +kernel
theorem dX10_init_14 : decode cX10_init 14 = .ok (.putfield 15, 3) := by decide +kernel
theorem dX10_init_17 : decode cX10_init 17 = .ok (.aload_n 0, 1) := by decide +kernel
theorem dX10_init_18 : decode cX10_init 18 = .ok (.iconst 0, 1) := by decide +kernel
theorem dX10_init_19 : decode cX10_init 19 = .ok (.putfield 19, 3) := by decide +kernel
theorem dX10_init_22 : decode cX10_init 22 = .ok (.aload_n 0, 1) := by decide +kernel
theorem dX10_init_23 : decode cX10_init 23 = .ok (.bipush 6, 2) := by decide +kernel
theorem dX10_init_25 : decode cX10_init 25 = .ok (.newarray .int, 2) := by decide +kernel
theorem dX10_init_27 : decode cX10_init 27 = .ok (.putfield 22, 3) := by decide +kernel
theorem dX10_init_30 : decode cX10_init 30 = .ok (.aload_n 0, 1) := by decide +kernel
theorem dX10_init_31 : decode cX10_init 31 = .ok (.iconst 0, 1) := by decide +kernel
theorem dX10_init_32 : decode cX10_init 32 = .ok (.putfield 25, 3) := by decide +kernel
theorem dX10_init_35 : decode cX10_init 35 = .ok (.aload_n 0, 1) := by decide +kernel
theorem dX10_init_36 : decode cX10_init 36 = .ok (.iconst 0, 1) := by decide +kernel
theorem dX10_init_37 : decode cX10_init 37 = .ok (.putfield 28, 3) := by decide +kernel
theorem dX10_init_40 : decode cX10_init 40 = .ok (.aload_n 0, 1) := by decide +kernel
theorem dX10_init_41 : decode cX10_init 41 = .ok (.aload_n 1, 1) := by decide +kernel
theorem dX10_init_42 : decode cX10_init 42 = .ok (.putfield 32, 3) := by decide +kernel
theorem dX10_init_45 : decode cX10_init 45 = .ok (.aload_n 0, 1) := by decide +kernel
theorem dX10_init_46 : decode cX10_init 46 = .ok (.aload_n 2, 1) := by decide +kernel
theorem dX10_init_47 : decode cX10_init 47 = .ok (.putfield 36, 3) := by decide +kernel
theorem dX10_init_50 : decode cX10_init 50 = .ok (.return_, 1) := by decide +kernel
theorem dX11_init_0 : decode cX11_init 0 = .ok (.aload_n 0, 1) := by decide +kernel
theorem dX11_init_1 : decode cX11_init 1 = .ok (.invokespecial 1, 3) := by decide +kernel
theorem dX11_init_4 : decode cX11_init 4 = .ok (.aload_n 0, 1) := by decide +kernel
theorem dX11_init_5 : decode cX11_init 5 = .ok (.new 7, 3) := by decide +kernel
theorem dX11_init_8 : decode cX11_init 8 = .ok (.dup, 1) := by decide +kernel
theorem dX11_init_9 : decode cX11_init 9 = .ok (.invokespecial 9, 3) := by decide +kernel
theorem dX11_init_12 : decode cX11_init 12 = .ok (.putfield 10, 3) := by decide +kernel
theorem dX11_init_15 : decode cX11_init 15 = .ok (.aload_n 0, 1) := by decide +kernel
theorem dX11_init_16 : decode cX11_init 16 = .ok (.new 16, 3) := by decide +kernel
theorem dX11_init_19 : decode cX11_init 19 = .ok (.dup, 1) := by decide +kernel
theorem dX11_init_20 : decode cX11_init 20 = .ok (.invokespecial 18, 3) := by decide +kernel
theorem dX11_init_23 : decode cX11_init 23 = .ok (.putfield 19, 3) := by decide +kernel
theorem dX11_init_26 : decode cX11_init 26 = .ok (.aload_n 0, 1) := by decide +kernel
theorem dX11_init_27 : decode cX11_init 27 = .ok (.new 23, 3) := by decide +kernel
theorem dX11_init_30 : decode cX11_init 30 = .ok (.dup, 1) := by decide +kernel
theorem dX11_init_31 : decode cX11_init 31 = .ok (.invokespecial 25, 3) := by decide +kernel
theorem dX11_init_34 : decode cX11_init 34 = .ok (.putfield 26, 3) := by decide +kernel
theorem dX11_init_37 : decode cX11_init 37 = .ok (.aload_n 0, 1) := by decide +kernel
theorem dX11_init_38 : decode cX11_init 38 = .ok (.new 30, 3) := by decide +kernel
theorem dX11_init_41 : decode cX11_init 41 = .ok (.dup, 1) := by decide +kernel
theorem dX11_init_42 : decode cX11_init 42 = .ok (.aload_n 0, 1) := by decide +kernel
theorem dX11_init_43 : decode cX11_init 43 = .ok (.getfield 26, 3) := by decide +kernel
theorem dX11_init_46 : decode cX11_init 46 = .ok (.invokespecial 32, 3) := by decide +kernel
theorem dX11_init_49 : decode cX11_init 49 = .ok (.putfield 35, 3) := by decide +kernel
theorem dX11_init_52 : decode cX11_init 52 = .ok (.aload_n 0, 1) := by decide +kernel
theorem dX11_init_53 : decode cX11_init 53 = .ok (.new 39, 3) := by decide +kernel
theorem dX11_init_56 : decode cX11_init 56 = .ok (.dup, 1) := by decide +kernel
theorem dX11_init_57 : decode cX11_init 57 = .ok (.invokespecial 41, 3) := by decide +kernel
theorem dX11_init_60 : decode cX11_init 60 = .ok (.putfield 42, 3) := by decide +kernel
theorem dX11_init_63 : decode cX11_init 63 = .ok (.aload_n 0, 1) := by decide +kernel
theorem dX11_init_64 : decode cX11_init 64 = .ok (.new 46, 3) := by decide +kernel
theorem dX11_init_67 : decode cX11_init 67 = .ok (.dup, 1) := by decide +kernel
theorem dX11_init_68 : decode cX11_init 68 = .ok (.invokespecial 48, 3) := by decide +kernel
theorem dX11_init_71 : decode cX11_init 71 = .ok (.putfield 49, 3) := by decide +kernel
theorem dX11_init_74 : decode cX11_init 74 = .ok (.aload_n 0, 1) := by decide +kernel
theorem dX11_init_75 : decode cX11_init 75 = .ok (.new 53, 3) := by decide +kernel
theorem dX11_init_78 : decode cX11_init 78 = .ok (.dup, 1) := by decide +kernel
theorem dX11_init_79 : decode cX11_init 79 = .ok (.aload_n 0, 1) := by decide +kernel
theorem dX11_init_80 : decode cX11_init 80 = .ok (.getfield 26, 3) := by decide +kernel
theorem dX11_init_83 : decode cX11_init 83 = .ok (.invokespecial 55, 3) := by decide +kernel
theorem dX11_init_86 : decode cX11_init 86 = .ok (.putfield 56, 3) := by decide +kernel
theorem dX11_init_89 : decode cX11_init 89 = .ok (.aload_n 0, 1) := by decide +kernel
theorem dX11_init_90 : decode cX11_init 90 = .ok (.new 60, 3) := by decide +kernel
theorem dX11_init_93 : decode cX11_init 93 = .ok (.dup, 1) := by decide +kernel
theorem dX11_init_94 : decode cX11_init 94 = .ok (.aload_n 0, 1) := by decide +kernel
theorem dX11_init_95 : decode cX11_init 95 = .ok (.getfield 26, 3) := by decide +kernel
theorem dX11_init_98 : decode cX11_init 98 = .ok (.aload_n 0, 1) := by decide +kernel
theorem dX11_init_99 : decode cX11_init 99 = .ok (.getfield 35, 3) := by decide +kernel
theorem dX11_init_102 : decode cX11_init 102 = .ok (.aload_n 0, 1) := by decide +kernel
theorem dX11_init_103 : decode cX11_init 103 = .ok (.getfield 49, 3) := by decide +kernel
theorem dX11_init_106 : decode cX11_init 106 = .ok (.invokespecial 62, 3) := by decide +kernel
theorem dX11_init_109 : decode cX11_init 109 = .ok (.putfield 65, 3) := by decide +kernel
theorem dX11_init_112 : decode cX11_init 112 = .ok (.aload_n 0, 1) := by decide +kernel
theorem dX11_init_113 : decode cX11_init 113 = .ok (.new 60, 3) := by decide +kernel
theorem dX11_init_116 : decode cX11_init 116 = .ok (.dup, 1) := by decide +kernel
theorem dX11_init_117 : decode cX11_init 117 = .ok (.aload_n 0, 1) := by decide +kernel
theorem dX11_init_118 : decode cX11_init 118 = .ok (.getfield 26, 3) := by decide +kernel
theorem dX11_init_121 : decode cX11_init 121 = .ok (.aload_n 0, 1) := by decide +kernel
theorem dX11_init_122 : decode cX11_init 122 = .ok (.getfield 35, 3) := by decide +kernel
theorem dX11_init_125 : decode cX11_init 125 = .ok (.aload_n 0, 1) := by decide +kernel
theorem dX11_init_126 : decode cX11_init 126 = .ok (.getfield 49, 3) := by decide +kernel
theorem dX11_init_129 : decode cX11_init 129 = .ok (.invokespecial 62, 3) := by decide +kernel
theorem dX11_init_132 : decode cX11_init 132 = .ok (.putfield 69, 3) := by decide +kernel
theorem dX11_init_135 : decode cX11_init 135 = .ok (.aload_n 0, 1) := by decide +kernel
theorem dX11_init_136 : decode cX11_init 136 = .ok (.new 72, 3) := by decide +kernel
theorem dX11_init_139 : decode cX11_init 139 = .ok (.dup, 1) := by decide +kernel
theorem dX11_init_140 : decode cX11_init 140 = .ok (.aload_n 0, 1) := by decide +kernel
theorem dX11_init_141 : decode cX11_init 141 = .ok (.getfield 26, 3) := by decide +kernel
theorem dX11_init_144 : decode cX11_init 144 = .ok (.aload_n 0, 1) := by decide +kernel
theorem dX11_init_145 : decode cX11_init 145 = .ok (.getfield 35, 3) := by decide +kernel
theorem dX11_init_148 : decode cX11_init 148 = .ok (.aload_n 0, 1) := by decide +kernel
theorem dX11_init_149 : decode cX11_init 149 = .ok (.getfield 49, 3) := by decide +kernel
theorem dX11_init_152 : decode cX11_init 152 = .ok (.invokespecial 74, 3) := by decide +kernel
theorem dX11_init_155 : decode cX11_init 155 = .ok (.putfield 75, 3) := by decide +kernel
theorem dX11_init_158 : decode cX11_init 158 = .ok (.aload_n 0, 1) := by decide +kernel
theorem dX11_init_159 : decode cX11_init 159 = .ok (.new 79, 3) := by decide +kernel
theorem dX11_init_162 : decode cX11_init 162 = .ok (.dup, 1) := by decide +kernel
theorem dX11_init_163 : decode cX11_init 163 = .ok (.aload_n 0, 1) := by decide +kernel
theorem dX11_init_164 : decode cX11_init 164 = .ok (.getfield 65, 3) := by decide +kernel
theorem dX11_init_167 : decode cX11_init 167 = .ok (.aload_n 0, 1) := by decide +kernel
theorem dX11_init_168 : decode cX11_init 168 = .ok (.getfield 56, 3) := by decide +kernel
theorem dX11_init_171 : decode cX11_init 171 = .ok (.invokespecial 81, 3) := by decide +kernel
theorem dX11_init_174 : decode cX11_init 174 = .ok (.putfield 84, 3) := by decide +kernel
theorem dX11_init_177 : decode cX11_init 177 = .ok (.aload_n 0, 1) := by decide +kernel
theorem dX11_init_178 : decode cX11_init 178 = .ok (.iconst 2, 1) := by decide +kernel
theorem dX11_init_179 : decode cX11_init 179 = .ok (.anewarray 60, 3) := by decide +kernel
theorem dX11_init_182 : decode cX11_init 182 = .ok (.putfield 88, 3) := by decide +kernel
theorem dX11_init_185 : decode cX11_init 185 = .ok (.aload_n 0, 1) := by decide +kernel
theorem dX11_init_186 : decode cX11_init 186 = .ok (.iconst 2, 1) := by decide +kernel
theorem dX11_init_187 : decode cX11_init 187 = .ok (.newarray .boolean, 2) := by decide +kernel
theorem dX11_init_189 : decode cX11_init 189 = .ok (.putfield 92, 3) := by decide +kernel
theorem dX11_init_192 : decode cX11_init 192 = .ok (.aload_n 0, 1) := by decide +kernel
theorem dX11_init_193 : decode cX11_init 193 = .ok (.bipush 6, 2) := by decide +kernel
theorem dX11_init_195 : decode cX11_init 195 = .ok (.newarray .int, 2) := by decide +kernel
theorem dX11_init_197 : decode cX11_init 197 = .ok (.putfield 96, 3) := by decide +kernel
theorem dX11_init_200 : decode cX11_init 200 = .ok (.aload_n 0, 1) := by decide +kernel
theorem dX11_init_201 : decode cX11_init 201 = .ok (.bipush 20, 2) := by decide +kernel
theorem dX11_init_203 : decode cX11_init 203 = .ok (.putfield 100, 3) := by decide +kernel
theorem dX11_init_206 : decode cX11_init 206 = .ok (.iconst 0, 1) := by decide +kernel
theorem dX11_init_207 : decode cX11_init 207 = .ok (.istore_n 1, 1) := by decide +kernel
theorem dX11_init_208 : decode cX11_init 208 = .ok (.iload_n 1, 1) := by decide +kernel
theorem dX11_init_209 : decode cX11_init 209 = .ok (.iconst 2, 1) := by decide +kernel
theorem dX11_init_210 : decode cX11_init 210 = .ok (.if_icmp .ge 34, 3) := by decide +kernel
theorem dX11_init_213 : decode cX11_init 213 = .ok (.aload_n 0, 1) := by decide +kernel
theorem dX11_init_214 : decode cX11_init 214 = .ok (.getfield 88, 3) := by decide +kernel
theorem dX11_init_217 : decode cX11_init 217 = .ok (.iload_n 1, 1) := by decide +kernel
theorem dX11_init_218 : decode cX11_init 218 = .ok (.new 60, 3) := by decide +kernel
theorem dX11_init_221 : decode cX11_init 221 = .ok (.dup, 1) := by decide +kernel
theorem dX11_init_222 : decode cX11_init 222 = .ok (.aload_n 0, 1) := by decide +kernel
theorem dX11_init_223 : decode cX11_init 223 = .ok (.getfield 26, 3) := by decide +kernel
theorem dX11_init_226 : decode cX11_init 226 = .ok (.aload_n 0, 1) := by decide +kernel
theorem dX11_init_227 : decode cX11_init 227 = .ok (.getfield 35, 3) := by decide +kernel
theorem dX11_init_230 : decode cX11_init 230 = .ok (.aload_n 0, 1) := by decide +kernel
theorem dX11_init_231 : decode cX11_init 231 = .ok (.getfield 49, 3) := by decide +kernel
theorem dX11_init_234 : decode cX11_init 234 = .ok (.invokespecial 62, 3) := by decide +kernel
theorem dX11_init_237 : decode cX11_init 237 = .ok (.aastore, 1) := by decide +kernel
theorem dX11_init_238 : decode cX11_init 238 = .ok (.iinc 1 1, 3) := by decide +kernel
theorem dX11_init_241 : decode cX11_init 241 = .ok (.goto (-33), 3) := by decide +kernel
theorem dX11_init_244 : decode cX11_init 244 = .ok (.return_, 1) := by decide +kernel
theorem dX12_init_0 : decode cX12_init 0 = .ok (.aload_n 0, 1) := by decide +kernel
theorem dX12_init_1 : decode cX12_init 1 = .ok (.invokespecial 3, 3) := by decide +kernel
theorem dX12_init_4 : decode cX12_init 4 = .ok (.aload_n 0, 1) := by decide +kernel
theorem dX12_init_5 : decode cX12_init 5 = .ok (.bipush 27, 2) := by decide +kernel
theorem dX12_init_7 : decode cX12_init 7 = .ok (.newarray .int, 2) := by decide +kernel
theorem dX12_init_9 : decode cX12_init 9 = .ok (.putfield 9, 3) := by decide +kernel
theorem dX12_init_12 : decode cX12_init 12 = .ok (.aload_n 0, 1) := by decide +kernel
theorem dX12_init_13 : decode cX12_init 13 = .ok (.bipush 6, 2) := by decide +kernel
theorem dX12_init_15 : decode cX12_init 15 = .ok (.newarray .int, 2) := by decide +kernel
theorem dX12_init_17 : decode cX12_init 17 = .ok (.putfield 13, 3) := by decide +kernel
theorem dX12_init_20 : decode cX12_init 20 = .ok (.aload_n 0, 1) := by decide +kernel
theorem dX12_init_21 : decode cX12_init 21 = .ok (.bipush 6, 2) := by decide +kernel
theorem dX12_init_23 : decode cX12_init 23 = .ok (.newarray .int, 2) := by decide +kernel
theorem dX12_init_25 : decode cX12_init 25 = .ok (.putfield 16, 3) := by decide +kernel
theorem dX12_init_28 : decode cX12_init 28 = .ok (.aload_n 0, 1) := by decide +kernel
theorem dX12_init_29 : decode cX12_init 29 = .ok (.bipush 6, 2) := by decide +kernel
theorem dX12_init_31 : decode cX12_init 31 = .ok (.newarray .boolean, 2) := by decide +kernel
theorem dX12_init_33 : decode cX12_init 33 = .ok (.putfield 19, 3) := by decide +kernel
theorem dX12_init_36 : decode cX12_init 36 = .ok (.aload_n 0, 1) := by decide +kernel
theorem dX12_init_37 : decode cX12_init 37 = .ok (.bipush 6, 2) := by decide +kernel
theorem dX12_init_39 : decode cX12_init 39 = .ok (.newarray .int, 2) := by decide +kernel
theorem dX12_init_41 : decode cX12_init 41 = .ok (.putfield 23, 3) := by decide +kernel
theorem dX12_init_44 : decode cX12_init 44 = .ok (.aload_n 0, 1) := by decide +kernel
theorem dX12_init_45 : decode cX12_init 45 = .ok (.bipush 6, 2) := by decide +kernel
theorem dX12_init_47 : decode cX12_init 47 = .ok (.newarray .int, 2) := by decide +kernel
theorem dX12_init_49 : decode cX12_init 49 = .ok (.putfield 26, 3) := by decide +kernel
theorem dX12_init_52 : decode cX12_init 52 = .ok (.aload_n 0, 1) := by decide +kernel
theorem dX12_init_53 : decode cX12_init 53 = .ok (.bipush 8, 2) := by decide +kernel
theorem dX12_init_55 : decode cX12_init 55 = .ok (.newarray .int, 2) := by decide +kernel
theorem dX12_init_57 : decode cX12_init 57 = .ok (.dup, 1) := by decide +kernel
theorem dX12_init_58 : decode cX12_init 58 = .ok (.iconst 0, 1) := by decide +kernel
theorem dX12_init_59 : decode cX12_init 59 = .ok (.bipush 10, 2) := by decide +kernel
theorem dX12_init_61 : decode cX12_init 61 = .ok (.iastore, 1) := by decide +kernel
theorem dX12_init_62 : decode cX12_init 62 = .ok (.dup, 1) := by decide +kernel
theorem dX12_init_63 : decode cX12_init 63 = .ok (.iconst 1, 1) := by decide +kernel
theorem dX12_init_64 : decode cX12_init 64 = .ok (.bipush 10, 2) := by decide +kernel
theorem dX12_init_66 : decode cX12_init 66 = .ok (.iastore, 1) := by decide +kernel
theorem dX12_init_67 : decode cX12_init 67 = .ok (.dup, 1) := by decide +kernel
theorem dX12_init_68 : decode cX12_init 68 = .ok (.iconst 2, 1) := by decide +kernel
theorem dX12_init_69 : decode cX12_init 69 = .ok (.bipush 10, 2) := by decide +kernel
theorem dX12_init_71 : decode cX12_init 71 = .ok (.iastore, 1) := by decide +kernel
theorem dX12_init_72 : decode cX12_init 72 = .ok (.dup, 1) := by decide +kernel
theorem dX12_init_73 : decode cX12_init 73 = .ok (.iconst 3, 1) := by decide +kernel
theorem dX12_init_74 : decode cX12_init 74 = .ok (.bipush 10, 2) := by decide +kernel
theorem dX12_init_76 : decode cX12_init 76 = .ok (.iastore, 1) := by decide +kernel
theorem dX12_init_77 : decode cX12_init 77 = .ok (.dup, 1) := by decide +kernel
theorem dX12_init_78 : decode cX12_init 78 = .ok (.iconst 4, 1) := by decide +kernel
theorem dX12_init_79 : decode cX12_init 79 = .ok (.bipush 10, 2) := by decide +kernel
theorem dX12_init_81 : decode cX12_init 81 = .ok (.iastore, 1) := by decide +kernel
theorem dX12_init_82 : decode cX12_init 82 = .ok (.dup, 1) := by decide +kernel
theorem dX12_init_83 : decode cX12_init 83 = .ok (.iconst 5, 1) := by decide +kernel
theorem dX12_init_84 : decode cX12_init 84 = .ok (.bipush 10, 2) := by decide +kernel
theorem dX12_init_86 : decode cX12_init 86 = .ok (.iastore, 1) := by decide +kernel
theorem dX12_init_87 : decode cX12_init 87 = .ok (.dup, 1) := by decide +kernel
theorem dX12_init_88 : decode cX12_init 88 = .ok (.bipush 6, 2) := by decide +kernel
theorem dX12_init_90 : decode cX12_init 90 = .ok (.bipush 10, 2) := by decide +kernel
theorem dX12_init_92 : decode cX12_init 92 = .ok (.iastore, 1) := by decide +kernel
theorem dX12_init_93 : decode cX12_init 93 = .ok (.dup, 1) := by decide +kernel
theorem dX12_init_94 : decode cX12_init 94 = .ok (.bipush 7, 2) := by decide +kernel
theorem dX12_init_96 : decode cX12_init 96 = .ok (.bipush 10, 2) := by decide +kernel
theorem dX12_init_98 : decode cX12_init 98 = .ok (.iastore, 1) := by decide +kernel
theorem dX12_init_99 : decode cX12_init 99 = .ok (.putfield 29, 3) := by decide +kernel
theorem dX12_init_102 : decode cX12_init 102 = .ok (.aload_n 0, 1) := by decide +kernel
theorem dX12_init_103 : decode cX12_init 103 = .ok (.bipush 8, 2) := by decide +kernel
theorem dX12_init_105 : decode cX12_init 105 = .ok (.newarray .int, 2) := by decide +kernel
theorem dX12_init_107 : decode cX12_init 107 = .ok (.putfield 32, 3) := by decide +kernel
theorem dX12_init_110 : decode cX12_init 110 = .ok (.aload_n 0, 1) := by decide +kernel
theorem dX12_init_111 : decode cX12_init 111 = .ok (.bipush 8, 2) := by decide +kernel
theorem dX12_init_113 : decode cX12_init 113 = .ok (.newarray .int, 2) := by decide +kernel
theorem dX12_init_115 : decode cX12_init 115 = .ok (.putfield 35, 3) := by decide +kernel
theorem dX12_init_118 : decode cX12_init 118 = .ok (.aload_n 0, 1) := by decide +kernel
theorem dX12_init_119 : decode cX12_init 119 = .ok (.iconst 4, 1) := by decide +kernel
theorem dX12_init_120 : decode cX12_init 120 = .ok (.newarray .int, 2) := by decide +kernel
theorem dX12_init_122 : decode cX12_init 122 = .ok (.dup, 1) := by decide +kernel
theorem dX12_init_123 : decode cX12_init 123 = .ok (.iconst 0, 1) := by decide +kernel
theorem dX12_init_124 : decode cX12_init 124 = .ok (.iconst 0, 1) := by decide +kernel
theorem dX12_init_125 : decode cX12_init 125 = .ok (.iastore, 1) := by decide +kernel
theorem dX12_init_126 : decode cX12_init 126 = .ok (.dup, 1) := by decide +kernel
theorem dX12_init_127 : decode cX12_init 127 = .ok (.iconst 1, 1) := by decide +kernel
theorem dX12_init_128 : decode cX12_init 128 = .ok (.iconst 2, 1) := by decide +kernel
theorem dX12_init_129 : decode cX12_init 129 = .ok (.iastore, 1) := by decide +kernel
theorem dX12_init_130 : decode cX12_init 130 = .ok (.dup, 1) := by decide +kernel
theorem dX12_init_131 : decode cX12_init 131 = .ok (.iconst 2, 1) := by decide +kernel
theorem dX12_init_132 : decode cX12_init 132 = .ok (.iconst 1, 1) := by decide +kernel
theorem dX12_init_133 : decode cX12_init 133 = .ok (.iastore, 1) := by decide +kernel
theorem dX12_init_134 : decode cX12_init 134 = .ok (.dup, 1) := by decide +kernel
theorem dX12_init_135 : decode cX12_init 135 = .ok (.iconst 3, 1) := by decide +kernel
theorem dX12_init_136 : decode cX12_init 136 = .ok (.iconst 0, 1) := by decide +kernel
theorem dX12_init_137 : decode cX12_init 137 = .ok (.iastore, 1) := by decide +kernel
theorem dX12_init_138 : decode cX12_init 138 = .ok (.putfield 38, 3) := by decide +kernel
theorem dX12_init_141 : decode cX12_init 141 = .ok (.aload_n 0, 1) := by decide +kernel
theorem dX12_init_142 : decode cX12_init 142 = .ok (.bipush 20, 2) := by decide +kernel
theorem dX12_init_144 : decode cX12_init 144 = .ok (.putfield 41, 3) := by decide +kernel
theorem dX12_init_147 : decode cX12_init 147 = .ok (.aload_n 0, 1) := by decide +kernel
theorem dX12_init_148 : decode cX12_init 148 = .ok (.bipush 80, 2) := by decide +kernel
theorem dX12_init_150 : decode cX12_init 150 = .ok (.newarray .byte, 2) := by decide +kernel
theorem dX12_init_152 : decode cX12_init 152 = .ok (.putfield 45, 3) := by decide +kernel
theorem dX12_init_155 : decode cX12_init 155 = .ok (.aload_n 0, 1) := by decide +kernel
theorem dX12_init_156 : decode cX12_init 156 = .ok (.bipush 16, 2) := by decide +kernel
theorem dX12_init_158 : decode cX12_init 158 = .ok (.newarray .long, 2) := by decide +kernel
theorem dX12_init_160 : decode cX12_init 160 = .ok (.putfield 49, 3) := by decide +kernel
theorem dX12_init_163 : decode cX12_init 163 = .ok (.aload_n 0, 1) := by decide +kernel
theorem dX12_init_164 : decode cX12_init 164 = .ok (.bipush 40, 2) := by decide +kernel
theorem dX12_init_166 : decode cX12_init 166 = .ok (.newarray .int, 2) := by decide +kernel
theorem dX12_init_168 : decode cX12_init 168 = .ok (.putfield 53, 3) := by decide +kernel
theorem dX12_init_171 : decode cX12_init 171 = .ok (.aload_n 0, 1) := by decide +kernel
theorem dX12_init_172 : decode cX12_init 172 = .ok (.bipush 40, 2) := by decide +kernel
theorem dX12_init_174 : decode cX12_init 174 = .ok (.newarray .byte, 2) := by decide +kernel
theorem dX12_init_176 : decode cX12_init 176 = .ok (.putfield 56, 3) := by decide +kernel
theorem dX12_init_179 : decode cX12_init 179 = .ok (.aload_n 0, 1) := by decide +kernel
theorem dX12_init_180 : decode cX12_init 180 = .ok (.bipush 6, 2) := by decide +kernel
theorem dX12_init_182 : decode cX12_init 182 = .ok (.newarray .int, 2) := by decide +kernel
theorem dX12_init_184 : decode cX12_init 184 = .ok (.putfield 59, 3) := by decide +kernel
theorem dX12_init_187 : decode cX12_init 187 = .ok (.aload_n 0, 1) := by decide +kernel
theorem dX12_init_188 : decode cX12_init 188 = .ok (.sipush 324, 3) := by decide +kernel
theorem dX12_init_191 : decode cX12_init 191 = .ok (.newarray .int, 2) := by decide +kernel
theorem dX12_init_193 : decode cX12_init 193 = .ok (.putfield 62, 3) := by decide +kernel
theorem dX12_init_196 : decode cX12_init 196 = .ok (.aload_n 0, 1) := by decide +kernel
theorem dX12_init_197 : decode cX12_init 197 = .ok (.bipush 27, 2) := by decide +kernel
theorem dX12_init_199 : decode cX12_init 199 = .ok (.newarray .int, 2) := by decide +kernel
theorem dX12_init_201 : decode cX12_init 201 = .ok (.putfield 65, 3) := by decide +kernel
theorem dX12_init_204 : decode cX12_init 204 = .ok (.aload_n 0, 1) := by decide +kernel
theorem dX12_init_205 : decode cX12_init 205 = .ok (.bipush 27, 2) := by decide +kernel
theorem dX12_init_207 : decode cX12_init 207 = .ok (.newarray .int, 2) := by decide +kernel
theorem dX12_init_209 : decode cX12_init 209 = .ok (.putfield 68, 3) := by decide +kernel
theorem dX12_init_212 : decode cX12_init 212 = .ok (.aload_n 0, 1) := by decide +kernel
theorem dX12_init_213 : decode cX12_init 213 = .ok (.sipush 240, 3) := by decide +kernel
theorem dX12_init_216 : decode cX12_init 216 = .ok (.newarray .int, 2) := by decide +kernel
theorem dX12_init_218 : decode cX12_init 218 = .ok (.putfield 71, 3) := by decide +kernel
theorem dX12_init_221 : decode cX12_init 221 = .ok (.aload_n 0, 1) := by decide +kernel
theorem dX12_init_222 : decode cX12_init 222 = .ok (.bipush 6, 2) := by decide +kernel
theorem dX12_init_224 : decode cX12_init 224 = .ok (.newarray .int, 2) := by decide +kernel
theorem dX12_init_226 : decode cX12_init 226 = .ok (.putfield 74, 3) := by decide +kernel
theorem dX12_init_229 : decode cX12_init 229 = .ok (.aload_n 0, 1) := by decide +kernel
theorem dX12_init_230 : decode cX12_init 230 = .ok (.bipush 6, 2) := by decide +kernel
theorem dX12_init_232 : decode cX12_init 232 = .ok (.newarray .int, 2) := by decide +kernel
theorem dX12_init_234 : decode cX12_init 234 = .ok (.putfield 77, 3) := by decide +kernel
theorem dX12_init_237 : decode cX12_init 237 = .ok (.aload_n 0, 1) := by decide +kernel
theorem dX12_init_238 : decode cX12_init 238 = .ok (.bipush 6, 2) := by decide +kernel
theorem dX12_init_240 : decode cX12_init 240 = .ok (.newarray .int, 2) := by decide +kernel
theorem dX12_init_242 : decode cX12_init 242 = .ok (.putfield 80, 3) := by decide +kernel
theorem dX12_init_245 : decode cX12_init 245 = .ok (.aload_n 0, 1) := by decide +kernel
theorem dX12_init_246 : decode cX12_init 246 = .ok (.iconst 4, 1) := by decide +kernel
theorem dX12_init_247 : decode cX12_init 247 = .ok (.newarray .int, 2) := by decide +kernel
theorem dX12_init_249 : decode cX12_init 249 = .ok (.putfield 83, 3) := by decide +kernel
theorem dX12_init_252 : decode cX12_init 252 = .ok (.aload_n 0, 1) := by decide +kernel
theorem dX12_init_253 : decode cX12_init 253 = .ok (.bipush 54, 2) := by decide +kernel
theorem dX12_init_255 : decode cX12_init 255 = .ok (.newarray .int, 2) := by decide +kernel
theorem dX12_init_257 : decode cX12_init 257 = .ok (.putfield 86, 3) := by decide +kernel
theorem dX12_init_260 : decode cX12_init 260 = .ok (.aload_n 0, 1) := by decide +kernel
theorem dX12_init_261 : decode cX12_init 261 = .ok (.iconst 2, 1) := by decide +kernel
theorem dX12_init_262 : decode cX12_init 262 = .ok (.newarray .boolean, 2) := by decide +kernel
theorem dX12_init_264 : decode cX12_init 264 = .ok (.putfield 89, 3) := by decide +kernel
theorem dX12_init_267 : decode cX12_init 267 = .ok (.aload_n 0, 1) := by decide +kernel
theorem dX12_init_268 : decode cX12_init 268 = .ok (.iconst 2, 1) := by decide +kernel
theorem dX12_init_269 : decode cX12_init 269 = .ok (.newarray .int, 2) := by decide +kernel
theorem dX12_init_271 : decode cX12_init 271 = .ok (.putfield 92, 3) := by decide +kernel
theorem dX12_init_274 : decode cX12_init 274 = .ok (.return_, 1) := by decide +kernel
theorem ObjW_ok : ObjW := ⟨gw_of (i := 110) (by decide +kernel) rfl, gw_of (i := 111) (by decide +kernel) rfl⟩
theorem co_RX5_1 : Cond.methodLink RX5 1 Lib.objectInit ∈ gw := gw_of (i := 157) (by decide +kernel) rfl
theorem co_RX9_3 : Cond.methodLink RX9 3 Lib.objectInit ∈ gw := gw_of (i := 117) (by decide +kernel) rfl
theorem cbp_80 : (Int8.ofInt (80)).toInt32 = (80 : Int32) := by decide
theorem ar_C : Cond.arrayClass .char ∈ gw := gw_of (i := 132) (by decide +kernel) rfl
theorem cf_RX9_11 : FPf RX9 11 8 0 (.array .char) := ⟨RX9, TX9, 4, rfl, by decide, uw_RX9, gw_of (i := 118) (by decide +kernel) rfl, rfl, by decide +kernel, ⟨tyX9, tyX9_ok⟩, nmX9, rfl⟩
theorem cic_0 : Int32.ofInt (0) = (0 : Int32) := by decide
theorem cp_RX9_15 : FPt RX9 15 8 1 .int := ⟨RX9, TX9, 4, rfl, by decide, uw_RX9, gw_of (i := 119) (by decide +kernel) rfl, rfl, by decide +kernel, ⟨tyX9, tyX9_ok⟩, nmX9⟩
theorem cp_RX9_19 : FPt RX9 19 8 2 .int := ⟨RX9, TX9, 4, rfl, by decide, uw_RX9, gw_of (i := 121) (by decide +kernel) rfl, rfl, by decide +kernel, ⟨tyX9, tyX9_ok⟩, nmX9⟩
theorem cp_RX9_22 : FPt RX9 22 8 3 .int := ⟨RX9, TX9, 4, rfl, by decide, uw_RX9, gw_of (i := 122) (by decide +kernel) rfl, rfl, by decide +kernel, ⟨tyX9, tyX9_ok⟩, nmX9⟩
theorem co_RX7_1 : Cond.methodLink RX7 1 Lib.objectInit ∈ gw := gw_of (i := 138) (by decide +kernel) rfl
theorem cbp_8 : (Int8.ofInt (8)).toInt32 = (8 : Int32) := by decide
theorem ar_J : Cond.arrayClass .long ∈ gw := gw_of (i := 148) (by decide +kernel) rfl
theorem cf_RX7_7 : FPf RX7 7 6 0 (.array .long) := ⟨RX7, TX7, 2, rfl, by decide, uw_RX7, gw_of (i := 139) (by decide +kernel) rfl, rfl, by decide +kernel, ⟨tyX7, tyX7_ok⟩, nmX7, rfl⟩
theorem cp_RX7_13 : FPt RX7 13 6 1 .int := ⟨RX7, TX7, 2, rfl, by decide, uw_RX7, gw_of (i := 141) (by decide +kernel) rfl, rfl, by decide +kernel, ⟨tyX7, tyX7_ok⟩, nmX7⟩
theorem yi_X5_init : YI yX5_init cX5_init 1 0 := ⟨gw_of (i := 155) (by decide +kernel) rfl, gw_of (i := 82) (by decide +kernel) rfl, gw_of (i := 156) (by decide +kernel) rfl, ⟨by decide +kernel, by decide +kernel, by decide +kernel⟩, by decide, rfl⟩
theorem nn_RX3_3 : (RX3, 3, yX5_init, "HeWillNotPlead") ∈ nestW := List.mem_of_getElem? (i := 3) rfl
theorem cbp_6 : (Int8.ofInt (6)).toInt32 = (6 : Int32) := by decide
theorem ar_I : Cond.arrayClass .int ∈ gw := gw_of (i := 192) (by decide +kernel) rfl
theorem cf_RX3_9 : FPf RX3 9 3 0 (.array .int) := ⟨RX3, TX3, 7, rfl, by decide, uw_RX3, gw_of (i := 158) (by decide +kernel) rfl, rfl, by decide +kernel, ⟨tyX3, tyX3_ok⟩, nmX3, rfl⟩
theorem cf_RX3_15 : FPf RX3 15 3 1 (.array .int) := ⟨RX3, TX3, 7, rfl, by decide, uw_RX3, gw_of (i := 161) (by decide +kernel) rfl, rfl, by decide +kernel, ⟨tyX3, tyX3_ok⟩, nmX3, rfl⟩
theorem ar_Z : Cond.arrayClass .boolean ∈ gw := gw_of (i := 193) (by decide +kernel) rfl
theorem cf_RX3_18 : FPf RX3 18 3 2 (.array .boolean) := ⟨RX3, TX3, 7, rfl, by decide, uw_RX3, gw_of (i := 164) (by decide +kernel) rfl, rfl, by decide +kernel, ⟨tyX3, tyX3_ok⟩, nmX3, rfl⟩
theorem cf_RX3_22 : FPf RX3 22 3 3 (.array .int) := ⟨RX3, TX3, 7, rfl, by decide, uw_RX3, gw_of (i := 167) (by decide +kernel) rfl, rfl, by decide +kernel, ⟨tyX3, tyX3_ok⟩, nmX3, rfl⟩
theorem cf_RX3_25 : FPf RX3 25 3 4 (.array .int) := ⟨RX3, TX3, 7, rfl, by decide, uw_RX3, gw_of (i := 169) (by decide +kernel) rfl, rfl, by decide +kernel, ⟨tyX3, tyX3_ok⟩, nmX3, rfl⟩
theorem cp_RX3_28 : FPt RX3 28 3 5 .int := ⟨RX3, TX3, 7, rfl, by decide, uw_RX3, gw_of (i := 172) (by decide +kernel) rfl, rfl, by decide +kernel, ⟨tyX3, tyX3_ok⟩, nmX3⟩
theorem cp_RX3_32 : FPt RX3 32 3 6 .int := ⟨RX3, TX3, 7, rfl, by decide, uw_RX3, gw_of (i := 176) (by decide +kernel) rfl, rfl, by decide +kernel, ⟨tyX3, tyX3_ok⟩, nmX3⟩
theorem nn_RX1_3 : (RX1, 3, yX5_init, "HeWillNotPlead") ∈ nestW := List.mem_of_getElem? (i := 4) rfl
theorem cf_RX1_9 : FPf RX1 9 1 0 (.array .int) := ⟨RX1, TX1, 5, rfl, by decide, uw_RX1, gw_of (i := 200) (by decide +kernel) rfl, rfl, by decide +kernel, ⟨tyX1, tyX1_ok⟩, nmX1, rfl⟩
theorem cf_RX1_15 : FPf RX1 15 1 1 (.array .int) := ⟨RX1, TX1, 5, rfl, by decide, uw_RX1, gw_of (i := 203) (by decide +kernel) rfl, rfl, by decide +kernel, ⟨tyX1, tyX1_ok⟩, nmX1, rfl⟩
theorem cf_RX1_18 : FPf RX1 18 1 2 (.array .int) := ⟨RX1, TX1, 5, rfl, by decide, uw_RX1, gw_of (i := 205) (by decide +kernel) rfl, rfl, by decide +kernel, ⟨tyX1, tyX1_ok⟩, nmX1, rfl⟩
theorem cp_RX1_21 : FPt RX1 21 1 3 .int := ⟨RX1, TX1, 5, rfl, by decide, uw_RX1, gw_of (i := 208) (by decide +kernel) rfl, rfl, by decide +kernel, ⟨tyX1, tyX1_ok⟩, nmX1⟩
theorem cf_RX1_25 : FPf RX1 25 1 4 (.object "HeWillNotPlead$Gang") := ⟨RX1, TX1, 5, rfl, by decide, uw_RX1, gw_of (i := 211) (by decide +kernel) rfl, rfl, by decide +kernel, ⟨tyX1, tyX1_ok⟩, nmX1, rfl⟩
theorem nn_RX0_1 : (RX0, 1, yX5_init, "HeWillNotPlead") ∈ nestW := List.mem_of_getElem? (i := 6) rfl
theorem cbp_20 : (Int8.ofInt (20)).toInt32 = (20 : Int32) := by decide
theorem cf_RX0_9 : FPf RX0 9 0 0 (.array .int) := ⟨RX0, TX0, 3, rfl, by decide, uw_RX0, gw_of (i := 229) (by decide +kernel) rfl, rfl, by decide +kernel, ⟨tyX0, tyX0_ok⟩, nmX0, rfl⟩
theorem cf_RX0_13 : FPf RX0 13 0 1 (.array .int) := ⟨RX0, TX0, 3, rfl, by decide, uw_RX0, gw_of (i := 231) (by decide +kernel) rfl, rfl, by decide +kernel, ⟨tyX0, tyX0_ok⟩, nmX0, rfl⟩
theorem cf_RX0_16 : FPf RX0 16 0 2 (.array .int) := ⟨RX0, TX0, 3, rfl, by decide, uw_RX0, gw_of (i := 233) (by decide +kernel) rfl, rfl, by decide +kernel, ⟨tyX0, tyX0_ok⟩, nmX0, rfl⟩
theorem co_RX8_3 : Cond.methodLink RX8 3 Lib.objectInit ∈ gw := gw_of (i := 247) (by decide +kernel) rfl
theorem cbp_40 : (Int8.ofInt (40)).toInt32 = (40 : Int32) := by decide
theorem cf_RX8_11 : FPf RX8 11 7 0 (.array .int) := ⟨RX8, TX8, 6, rfl, by decide, uw_RX8, gw_of (i := 259) (by decide +kernel) rfl, rfl, by decide +kernel, ⟨tyX8, tyX8_ok⟩, nmX8, rfl⟩
theorem cp_RX8_15 : FPt RX8 15 7 1 .int := ⟨RX8, TX8, 6, rfl, by decide, uw_RX8, gw_of (i := 260) (by decide +kernel) rfl, rfl, by decide +kernel, ⟨tyX8, tyX8_ok⟩, nmX8⟩
theorem cf_RX8_19 : FPf RX8 19 7 2 (.array .int) := ⟨RX8, TX8, 6, rfl, by decide, uw_RX8, gw_of (i := 261) (by decide +kernel) rfl, rfl, by decide +kernel, ⟨tyX8, tyX8_ok⟩, nmX8, rfl⟩
theorem cp_RX8_22 : FPt RX8 22 7 3 .int := ⟨RX8, TX8, 6, rfl, by decide, uw_RX8, gw_of (i := 262) (by decide +kernel) rfl, rfl, by decide +kernel, ⟨tyX8, tyX8_ok⟩, nmX8⟩
theorem cm_RX8_27 : Cond.methodLink RX8 27 yJ0_length_8abf5 ∈ gw := gw_of (i := 249) (by decide +kernel) rfl
theorem cf_RX8_32 : FPf RX8 32 7 4 (.array .int) := ⟨RX8, TX8, 6, rfl, by decide, uw_RX8, gw_of (i := 263) (by decide +kernel) rfl, rfl, by decide +kernel, ⟨tyX8, tyX8_ok⟩, nmX8, rfl⟩
theorem cf_RX8_35 : FPf RX8 35 7 5 (.array .int) := ⟨RX8, TX8, 6, rfl, by decide, uw_RX8, gw_of (i := 264) (by decide +kernel) rfl, rfl, by decide +kernel, ⟨tyX8, tyX8_ok⟩, nmX8, rfl⟩
theorem co_RX2_3 : Cond.methodLink RX2 3 Lib.objectInit ∈ gw := gw_of (i := 284) (by decide +kernel) rfl
theorem cic_4 : Int32.ofInt (4) = (4 : Int32) := by decide
theorem cic_1 : Int32.ofInt (1) = (1 : Int32) := by decide
theorem cic_2 : Int32.ofInt (2) = (2 : Int32) := by decide
theorem cic_3 : Int32.ofInt (3) = (3 : Int32) := by decide
theorem cf_RX2_9 : FPf RX2 9 2 0 (.array .int) := ⟨RX2, TX2, 5, rfl, by decide, uw_RX2, gw_of (i := 285) (by decide +kernel) rfl, rfl, by decide +kernel, ⟨tyX2, tyX2_ok⟩, nmX2, rfl⟩
theorem cf_RX2_15 : FPf RX2 15 2 1 (.array .int) := ⟨RX2, TX2, 5, rfl, by decide, uw_RX2, gw_of (i := 287) (by decide +kernel) rfl, rfl, by decide +kernel, ⟨tyX2, tyX2_ok⟩, nmX2, rfl⟩
theorem cbp_10 : (Int8.ofInt (10)).toInt32 = (10 : Int32) := by decide
theorem cic_5 : Int32.ofInt (5) = (5 : Int32) := by decide
theorem cbp_7 : (Int8.ofInt (7)).toInt32 = (7 : Int32) := by decide
theorem cf_RX2_18 : FPf RX2 18 2 2 (.array .int) := ⟨RX2, TX2, 5, rfl, by decide, uw_RX2, gw_of (i := 289) (by decide +kernel) rfl, rfl, by decide +kernel, ⟨tyX2, tyX2_ok⟩, nmX2, rfl⟩
theorem cf_RX2_21 : FPf RX2 21 2 3 (.array .int) := ⟨RX2, TX2, 5, rfl, by decide, uw_RX2, gw_of (i := 290) (by decide +kernel) rfl, rfl, by decide +kernel, ⟨tyX2, tyX2_ok⟩, nmX2, rfl⟩
theorem cf_RX2_24 : FPf RX2 24 2 4 (.object "HeWillNotPlead$Gang") := ⟨RX2, TX2, 5, rfl, by decide, uw_RX2, gw_of (i := 291) (by decide +kernel) rfl, rfl, by decide +kernel, ⟨tyX2, tyX2_ok⟩, nmX2, rfl⟩
theorem co_RX4_3 : Cond.methodLink RX4 3 Lib.objectInit ∈ gw := gw_of (i := 308) (by decide +kernel) rfl
theorem cf_RX4_9 : FPf RX4 9 4 0 (.array .int) := ⟨RX4, TX4, 9, rfl, by decide, uw_RX4, gw_of (i := 309) (by decide +kernel) rfl, rfl, by decide +kernel, ⟨tyX4, tyX4_ok⟩, nmX4, rfl⟩
theorem cf_RX4_15 : FPf RX4 15 4 1 (.array .int) := ⟨RX4, TX4, 9, rfl, by decide, uw_RX4, gw_of (i := 312) (by decide +kernel) rfl, rfl, by decide +kernel, ⟨tyX4, tyX4_ok⟩, nmX4, rfl⟩
theorem cf_RX4_18 : FPf RX4 18 4 2 (.array .int) := ⟨RX4, TX4, 9, rfl, by decide, uw_RX4, gw_of (i := 314) (by decide +kernel) rfl, rfl, by decide +kernel, ⟨tyX4, tyX4_ok⟩, nmX4, rfl⟩
theorem cf_RX4_21 : FPf RX4 21 4 3 (.array .int) := ⟨RX4, TX4, 9, rfl, by decide, uw_RX4, gw_of (i := 316) (by decide +kernel) rfl, rfl, by decide +kernel, ⟨tyX4, tyX4_ok⟩, nmX4, rfl⟩
theorem cp_RX4_24 : FPt RX4 24 4 4 .int := ⟨RX4, TX4, 9, rfl, by decide, uw_RX4, gw_of (i := 318) (by decide +kernel) rfl, rfl, by decide +kernel, ⟨tyX4, tyX4_ok⟩, nmX4⟩
theorem cp_RX4_28 : FPt RX4 28 4 5 .int := ⟨RX4, TX4, 9, rfl, by decide, uw_RX4, gw_of (i := 320) (by decide +kernel) rfl, rfl, by decide +kernel, ⟨tyX4, tyX4_ok⟩, nmX4⟩
theorem cf_RX4_31 : FPf RX4 31 4 6 (.object "HeWillNotPlead$Gang") := ⟨RX4, TX4, 9, rfl, by decide, uw_RX4, gw_of (i := 322) (by decide +kernel) rfl, rfl, by decide +kernel, ⟨tyX4, tyX4_ok⟩, nmX4, rfl⟩
theorem cf_RX4_35 : FPf RX4 35 4 7 (.object "HeWillNotPlead$Bench") := ⟨RX4, TX4, 9, rfl, by decide, uw_RX4, gw_of (i := 323) (by decide +kernel) rfl, rfl, by decide +kernel, ⟨tyX4, tyX4_ok⟩, nmX4, rfl⟩
theorem cf_RX4_39 : FPf RX4 39 4 8 (.object "HeWillNotPlead$Rule") := ⟨RX4, TX4, 9, rfl, by decide, uw_RX4, gw_of (i := 324) (by decide +kernel) rfl, rfl, by decide +kernel, ⟨tyX4, tyX4_ok⟩, nmX4, rfl⟩
theorem co_RX6_1 : Cond.methodLink RX6 1 Lib.objectInit ∈ gw := gw_of (i := 349) (by decide +kernel) rfl
theorem cbp_13 : (Int8.ofInt (13)).toInt32 = (13 : Int32) := by decide
theorem cl_RX6_9 : Cond.classLink RX6 9 "HeWillNotPlead$Hall" ∈ gw := gw_of (i := 350) (by decide +kernel) rfl
theorem cf_RX6_11 : FPf RX6 11 5 0 (.array (.object "HeWillNotPlead$Hall")) := ⟨RX6, TX6, 3, rfl, by decide, uw_RX6, gw_of (i := 353) (by decide +kernel) rfl, rfl, by decide +kernel, ⟨tyX6, tyX6_ok⟩, nmX6, rfl⟩
theorem cp_RX6_15 : FPt RX6 15 5 1 .int := ⟨RX6, TX6, 3, rfl, by decide, uw_RX6, gw_of (i := 354) (by decide +kernel) rfl, rfl, by decide +kernel, ⟨tyX6, tyX6_ok⟩, nmX6⟩
theorem cp_RX6_19 : FPt RX6 19 5 2 .int := ⟨RX6, TX6, 3, rfl, by decide, uw_RX6, gw_of (i := 355) (by decide +kernel) rfl, rfl, by decide +kernel, ⟨tyX6, tyX6_ok⟩, nmX6⟩
theorem cg_RX6_11 : FLk RX6 11 5 0 := ⟨RX6, TX6, 3, rfl, by decide, uw_RX6, gw_of (i := 353) (by decide +kernel) rfl⟩
theorem nw_RX6_9 : NewW RX6 9 4 RX4 TX4 9 [.null, .null, .null, .null, .int 0, .int 0, .null, .null, .null] := ⟨rfl, uw_RX4, gw_of (i := 350) (by decide +kernel) rfl, gw_of (i := 304) (by decide +kernel) rfl, gw_of (i := 89) (by decide +kernel) rfl, tyX4, tyX4_ok, by decide +kernel⟩
theorem yi_X4_init : YI yX4_init cX4_init 4 3 := ⟨gw_of (i := 306) (by decide +kernel) rfl, gw_of (i := 89) (by decide +kernel) rfl, gw_of (i := 307) (by decide +kernel) rfl, ⟨by decide +kernel, by decide +kernel, by decide +kernel⟩, by decide, rfl⟩
theorem cm_RX6_22 : Cond.methodLink RX6 22 yX4_init ∈ gw := gw_of (i := 352) (by decide +kernel) rfl
theorem co_RX10_3 : Cond.methodLink RX10 3 Lib.objectInit ∈ gw := gw_of (i := 369) (by decide +kernel) rfl
theorem cf_RX10_9 : FPf RX10 9 9 0 (.array .int) := ⟨RX10, TX10, 8, rfl, by decide, uw_RX10, gw_of (i := 370) (by decide +kernel) rfl, rfl, by decide +kernel, ⟨tyX10, tyX10_ok⟩, nmX10, rfl⟩
theorem cp_RX10_15 : FPt RX10 15 9 1 .int := ⟨RX10, TX10, 8, rfl, by decide, uw_RX10, gw_of (i := 372) (by decide +kernel) rfl, rfl, by decide +kernel, ⟨tyX10, tyX10_ok⟩, nmX10⟩
theorem cp_RX10_19 : FPt RX10 19 9 2 .int := ⟨RX10, TX10, 8, rfl, by decide, uw_RX10, gw_of (i := 374) (by decide +kernel) rfl, rfl, by decide +kernel, ⟨tyX10, tyX10_ok⟩, nmX10⟩
theorem cf_RX10_22 : FPf RX10 22 9 3 (.array .int) := ⟨RX10, TX10, 8, rfl, by decide, uw_RX10, gw_of (i := 376) (by decide +kernel) rfl, rfl, by decide +kernel, ⟨tyX10, tyX10_ok⟩, nmX10, rfl⟩
theorem cp_RX10_25 : FPt RX10 25 9 4 .int := ⟨RX10, TX10, 8, rfl, by decide, uw_RX10, gw_of (i := 377) (by decide +kernel) rfl, rfl, by decide +kernel, ⟨tyX10, tyX10_ok⟩, nmX10⟩
theorem cp_RX10_28 : FPt RX10 28 9 5 .boolean := ⟨RX10, TX10, 8, rfl, by decide, uw_RX10, gw_of (i := 378) (by decide +kernel) rfl, rfl, by decide +kernel, ⟨tyX10, tyX10_ok⟩, nmX10⟩
theorem cf_RX10_32 : FPf RX10 32 9 6 (.object "HeWillNotPlead$Hall") := ⟨RX10, TX10, 8, rfl, by decide, uw_RX10, gw_of (i := 379) (by decide +kernel) rfl, rfl, by decide +kernel, ⟨tyX10, tyX10_ok⟩, nmX10, rfl⟩
theorem cf_RX10_36 : FPf RX10 36 9 7 (.object "HeWillNotPlead$Estate") := ⟨RX10, TX10, 8, rfl, by decide, uw_RX10, gw_of (i := 380) (by decide +kernel) rfl, rfl, by decide +kernel, ⟨tyX10, tyX10_ok⟩, nmX10, rfl⟩
theorem co_RX11_1 : Cond.methodLink RX11 1 Lib.objectInit ∈ gw := gw_of (i := 109) (by decide +kernel) rfl
theorem nw_RX11_7 : NewW RX11 7 8 RX9 TX9 4 [.null, .int 0, .int 0, .int 0] := ⟨rfl, uw_RX9, gw_of (i := 112) (by decide +kernel) rfl, gw_of (i := 113) (by decide +kernel) rfl, gw_of (i := 80) (by decide +kernel) rfl, tyX9, tyX9_ok, by decide +kernel⟩
theorem yi_X9_init : YI yX9_init cX9_init 1 0 := ⟨gw_of (i := 115) (by decide +kernel) rfl, gw_of (i := 80) (by decide +kernel) rfl, gw_of (i := 116) (by decide +kernel) rfl, ⟨by decide +kernel, by decide +kernel, by decide +kernel⟩, by decide, rfl⟩
theorem nn_RX11_9 : (RX11, 9, yX9_init, "HeWillNotPlead") ∈ nestW := List.mem_of_getElem? (i := 0) rfl
theorem cf_RX11_10 : FPf RX11 10 10 0 (.object "HeWillNotPlead$Text") := ⟨RX11, TX11, 15, rfl, by decide, uw_RX11, gw_of (i := 398) (by decide +kernel) rfl, rfl, by decide +kernel, ⟨tyX11, tyX11_ok⟩, nmX11, rfl⟩
theorem nw_RX11_16 : NewW RX11 16 6 RX7 TX7 2 [.null, .int 0] := ⟨rfl, uw_RX7, gw_of (i := 133) (by decide +kernel) rfl, gw_of (i := 134) (by decide +kernel) rfl, gw_of (i := 81) (by decide +kernel) rfl, tyX7, tyX7_ok, by decide +kernel⟩
theorem yi_X7_init : YI yX7_init cX7_init 1 0 := ⟨gw_of (i := 136) (by decide +kernel) rfl, gw_of (i := 81) (by decide +kernel) rfl, gw_of (i := 137) (by decide +kernel) rfl, ⟨by decide +kernel, by decide +kernel, by decide +kernel⟩, by decide, rfl⟩
theorem nn_RX11_18 : (RX11, 18, yX7_init, "HeWillNotPlead") ∈ nestW := List.mem_of_getElem? (i := 1) rfl
theorem cf_RX11_19 : FPf RX11 19 10 1 (.object "HeWillNotPlead$Row") := ⟨RX11, TX11, 15, rfl, by decide, uw_RX11, gw_of (i := 399) (by decide +kernel) rfl, rfl, by decide +kernel, ⟨tyX11, tyX11_ok⟩, nmX11, rfl⟩
theorem nw_RX11_23 : NewW RX11 23 3 RX3 TX3 7 [.null, .null, .null, .null, .null, .int 0, .int 0] := ⟨rfl, uw_RX3, gw_of (i := 149) (by decide +kernel) rfl, gw_of (i := 150) (by decide +kernel) rfl, gw_of (i := 83) (by decide +kernel) rfl, tyX3, tyX3_ok, by decide +kernel⟩
theorem yi_X3_init : YI yX3_init cX3_init 1 0 := ⟨gw_of (i := 152) (by decide +kernel) rfl, gw_of (i := 83) (by decide +kernel) rfl, gw_of (i := 153) (by decide +kernel) rfl, ⟨by decide +kernel, by decide +kernel, by decide +kernel⟩, by decide, rfl⟩
theorem nn_RX11_25 : (RX11, 25, yX3_init, "HeWillNotPlead") ∈ nestW := List.mem_of_getElem? (i := 2) rfl
theorem cf_RX11_26 : FPf RX11 26 10 2 (.object "HeWillNotPlead$Gang") := ⟨RX11, TX11, 15, rfl, by decide, uw_RX11, gw_of (i := 400) (by decide +kernel) rfl, rfl, by decide +kernel, ⟨tyX11, tyX11_ok⟩, nmX11, rfl⟩
theorem nw_RX11_30 : NewW RX11 30 1 RX1 TX1 5 [.null, .null, .null, .int 0, .null] := ⟨rfl, uw_RX1, gw_of (i := 194) (by decide +kernel) rfl, gw_of (i := 195) (by decide +kernel) rfl, gw_of (i := 84) (by decide +kernel) rfl, tyX1, tyX1_ok, by decide +kernel⟩
theorem cg_RX11_26 : FLk RX11 26 10 2 := ⟨RX11, TX11, 15, rfl, by decide, uw_RX11, gw_of (i := 400) (by decide +kernel) rfl⟩
theorem yi_X1_init : YI yX1_init cX1_init 2 1 := ⟨gw_of (i := 197) (by decide +kernel) rfl, gw_of (i := 84) (by decide +kernel) rfl, gw_of (i := 198) (by decide +kernel) rfl, ⟨by decide +kernel, by decide +kernel, by decide +kernel⟩, by decide, rfl⟩
theorem cm_RX11_32 : Cond.methodLink RX11 32 yX1_init ∈ gw := gw_of (i := 196) (by decide +kernel) rfl
theorem cf_RX11_35 : FPf RX11 35 10 3 (.object "HeWillNotPlead$Bench") := ⟨RX11, TX11, 15, rfl, by decide, uw_RX11, gw_of (i := 401) (by decide +kernel) rfl, rfl, by decide +kernel, ⟨tyX11, tyX11_ok⟩, nmX11, rfl⟩
theorem nw_RX11_39 : NewW RX11 39 0 RX0 TX0 3 [.null, .null, .null] := ⟨rfl, uw_RX0, gw_of (i := 223) (by decide +kernel) rfl, gw_of (i := 224) (by decide +kernel) rfl, gw_of (i := 85) (by decide +kernel) rfl, tyX0, tyX0_ok, by decide +kernel⟩
theorem yi_X0_init : YI yX0_init cX0_init 1 0 := ⟨gw_of (i := 226) (by decide +kernel) rfl, gw_of (i := 85) (by decide +kernel) rfl, gw_of (i := 227) (by decide +kernel) rfl, ⟨by decide +kernel, by decide +kernel, by decide +kernel⟩, by decide, rfl⟩
theorem nn_RX11_41 : (RX11, 41, yX0_init, "HeWillNotPlead") ∈ nestW := List.mem_of_getElem? (i := 5) rfl
theorem cf_RX11_42 : FPf RX11 42 10 4 (.object "HeWillNotPlead$Acts") := ⟨RX11, TX11, 15, rfl, by decide, uw_RX11, gw_of (i := 402) (by decide +kernel) rfl, rfl, by decide +kernel, ⟨tyX11, tyX11_ok⟩, nmX11, rfl⟩
theorem nw_RX11_46 : NewW RX11 46 7 RX8 TX8 6 [.null, .int 0, .null, .int 0, .null, .null] := ⟨rfl, uw_RX8, gw_of (i := 242) (by decide +kernel) rfl, gw_of (i := 243) (by decide +kernel) rfl, gw_of (i := 86) (by decide +kernel) rfl, tyX8, tyX8_ok, by decide +kernel⟩
theorem yi_X8_init : YI yX8_init cX8_init 1 0 := ⟨gw_of (i := 245) (by decide +kernel) rfl, gw_of (i := 86) (by decide +kernel) rfl, gw_of (i := 246) (by decide +kernel) rfl, ⟨by decide +kernel, by decide +kernel, by decide +kernel⟩, by decide, rfl⟩
theorem nn_RX11_48 : (RX11, 48, yX8_init, "HeWillNotPlead") ∈ nestW := List.mem_of_getElem? (i := 7) rfl
theorem cf_RX11_49 : FPf RX11 49 10 5 (.object "HeWillNotPlead$Rule") := ⟨RX11, TX11, 15, rfl, by decide, uw_RX11, gw_of (i := 403) (by decide +kernel) rfl, rfl, by decide +kernel, ⟨tyX11, tyX11_ok⟩, nmX11, rfl⟩
theorem nw_RX11_53 : NewW RX11 53 2 RX2 TX2 5 [.null, .null, .null, .null, .null] := ⟨rfl, uw_RX2, gw_of (i := 279) (by decide +kernel) rfl, gw_of (i := 280) (by decide +kernel) rfl, gw_of (i := 88) (by decide +kernel) rfl, tyX2, tyX2_ok, by decide +kernel⟩
theorem yi_X2_init : YI yX2_init cX2_init 2 1 := ⟨gw_of (i := 282) (by decide +kernel) rfl, gw_of (i := 88) (by decide +kernel) rfl, gw_of (i := 283) (by decide +kernel) rfl, ⟨by decide +kernel, by decide +kernel, by decide +kernel⟩, by decide, rfl⟩
theorem cm_RX11_55 : Cond.methodLink RX11 55 yX2_init ∈ gw := gw_of (i := 281) (by decide +kernel) rfl
theorem cf_RX11_56 : FPf RX11 56 10 6 (.object "HeWillNotPlead$Estate") := ⟨RX11, TX11, 15, rfl, by decide, uw_RX11, gw_of (i := 404) (by decide +kernel) rfl, rfl, by decide +kernel, ⟨tyX11, tyX11_ok⟩, nmX11, rfl⟩
theorem nw_RX11_60 : NewW RX11 60 4 RX4 TX4 9 [.null, .null, .null, .null, .int 0, .int 0, .null, .null, .null] := ⟨rfl, uw_RX4, gw_of (i := 303) (by decide +kernel) rfl, gw_of (i := 304) (by decide +kernel) rfl, gw_of (i := 89) (by decide +kernel) rfl, tyX4, tyX4_ok, by decide +kernel⟩
theorem cg_RX11_35 : FLk RX11 35 10 3 := ⟨RX11, TX11, 15, rfl, by decide, uw_RX11, gw_of (i := 401) (by decide +kernel) rfl⟩
theorem cg_RX11_49 : FLk RX11 49 10 5 := ⟨RX11, TX11, 15, rfl, by decide, uw_RX11, gw_of (i := 403) (by decide +kernel) rfl⟩
theorem cm_RX11_62 : Cond.methodLink RX11 62 yX4_init ∈ gw := gw_of (i := 305) (by decide +kernel) rfl
theorem cf_RX11_65 : FPf RX11 65 10 7 (.object "HeWillNotPlead$Hall") := ⟨RX11, TX11, 15, rfl, by decide, uw_RX11, gw_of (i := 405) (by decide +kernel) rfl, rfl, by decide +kernel, ⟨tyX11, tyX11_ok⟩, nmX11, rfl⟩
theorem cf_RX11_69 : FPf RX11 69 10 8 (.object "HeWillNotPlead$Hall") := ⟨RX11, TX11, 15, rfl, by decide, uw_RX11, gw_of (i := 406) (by decide +kernel) rfl, rfl, by decide +kernel, ⟨tyX11, tyX11_ok⟩, nmX11, rfl⟩
theorem nw_RX11_72 : NewW RX11 72 5 RX6 TX6 3 [.null, .int 0, .int 0] := ⟨rfl, uw_RX6, gw_of (i := 344) (by decide +kernel) rfl, gw_of (i := 345) (by decide +kernel) rfl, gw_of (i := 90) (by decide +kernel) rfl, tyX6, tyX6_ok, by decide +kernel⟩
theorem yi_X6_init : YI yX6_init cX6_init 5 3 := ⟨gw_of (i := 347) (by decide +kernel) rfl, gw_of (i := 90) (by decide +kernel) rfl, gw_of (i := 348) (by decide +kernel) rfl, ⟨by decide +kernel, by decide +kernel, by decide +kernel⟩, by decide, rfl⟩
theorem cm_RX11_74 : Cond.methodLink RX11 74 yX6_init ∈ gw := gw_of (i := 346) (by decide +kernel) rfl
theorem cf_RX11_75 : FPf RX11 75 10 9 (.object "HeWillNotPlead$Past") := ⟨RX11, TX11, 15, rfl, by decide, uw_RX11, gw_of (i := 407) (by decide +kernel) rfl, rfl, by decide +kernel, ⟨tyX11, tyX11_ok⟩, nmX11, rfl⟩
theorem nw_RX11_79 : NewW RX11 79 9 RX10 TX10 8 [.null, .int 0, .int 0, .null, .int 0, .int 0, .null, .null] := ⟨rfl, uw_RX10, gw_of (i := 364) (by decide +kernel) rfl, gw_of (i := 365) (by decide +kernel) rfl, gw_of (i := 91) (by decide +kernel) rfl, tyX10, tyX10_ok, by decide +kernel⟩
theorem cg_RX11_65 : FLk RX11 65 10 7 := ⟨RX11, TX11, 15, rfl, by decide, uw_RX11, gw_of (i := 405) (by decide +kernel) rfl⟩
theorem cg_RX11_56 : FLk RX11 56 10 6 := ⟨RX11, TX11, 15, rfl, by decide, uw_RX11, gw_of (i := 404) (by decide +kernel) rfl⟩
theorem yi_X10_init : YI yX10_init cX10_init 3 2 := ⟨gw_of (i := 367) (by decide +kernel) rfl, gw_of (i := 91) (by decide +kernel) rfl, gw_of (i := 368) (by decide +kernel) rfl, ⟨by decide +kernel, by decide +kernel, by decide +kernel⟩, by decide, rfl⟩
theorem cm_RX11_81 : Cond.methodLink RX11 81 yX10_init ∈ gw := gw_of (i := 366) (by decide +kernel) rfl
theorem cf_RX11_84 : FPf RX11 84 10 10 (.object "HeWillNotPlead$Turns") := ⟨RX11, TX11, 15, rfl, by decide, uw_RX11, gw_of (i := 408) (by decide +kernel) rfl, rfl, by decide +kernel, ⟨tyX11, tyX11_ok⟩, nmX11, rfl⟩
theorem cl_RX11_60 : Cond.classLink RX11 60 "HeWillNotPlead$Hall" ∈ gw := gw_of (i := 303) (by decide +kernel) rfl
theorem cf_RX11_88 : FPf RX11 88 10 11 (.array (.object "HeWillNotPlead$Hall")) := ⟨RX11, TX11, 15, rfl, by decide, uw_RX11, gw_of (i := 409) (by decide +kernel) rfl, rfl, by decide +kernel, ⟨tyX11, tyX11_ok⟩, nmX11, rfl⟩
theorem cf_RX11_92 : FPf RX11 92 10 12 (.array .boolean) := ⟨RX11, TX11, 15, rfl, by decide, uw_RX11, gw_of (i := 410) (by decide +kernel) rfl, rfl, by decide +kernel, ⟨tyX11, tyX11_ok⟩, nmX11, rfl⟩
theorem cf_RX11_96 : FPf RX11 96 10 13 (.array .int) := ⟨RX11, TX11, 15, rfl, by decide, uw_RX11, gw_of (i := 411) (by decide +kernel) rfl, rfl, by decide +kernel, ⟨tyX11, tyX11_ok⟩, nmX11, rfl⟩
theorem cp_RX11_100 : FPt RX11 100 10 14 .int := ⟨RX11, TX11, 15, rfl, by decide, uw_RX11, gw_of (i := 412) (by decide +kernel) rfl, rfl, by decide +kernel, ⟨tyX11, tyX11_ok⟩, nmX11⟩
theorem cg_RX11_88 : FLk RX11 88 10 11 := ⟨RX11, TX11, 15, rfl, by decide, uw_RX11, gw_of (i := 409) (by decide +kernel) rfl⟩
theorem co_RX12_3 : Cond.methodLink RX12 3 Lib.objectInit ∈ gw := gw_of (i := 1260) (by decide +kernel) rfl
theorem cbp_27 : (Int8.ofInt (27)).toInt32 = (27 : Int32) := by decide
theorem cf_RX12_9 : FPf RX12 9 11 0 (.array .int) := ⟨RX12, TX12, 45, rfl, by decide, uw_RX12, gw_of (i := 1261) (by decide +kernel) rfl, rfl, by decide +kernel, ⟨tyX12, tyX12_ok⟩, nmX12, rfl⟩
theorem cf_RX12_13 : FPf RX12 13 11 2 (.array .int) := ⟨RX12, TX12, 45, rfl, by decide, uw_RX12, gw_of (i := 1263) (by decide +kernel) rfl, rfl, by decide +kernel, ⟨tyX12, tyX12_ok⟩, nmX12, rfl⟩
theorem cf_RX12_16 : FPf RX12 16 11 3 (.array .int) := ⟨RX12, TX12, 45, rfl, by decide, uw_RX12, gw_of (i := 1264) (by decide +kernel) rfl, rfl, by decide +kernel, ⟨tyX12, tyX12_ok⟩, nmX12, rfl⟩
theorem cf_RX12_19 : FPf RX12 19 11 4 (.array .boolean) := ⟨RX12, TX12, 45, rfl, by decide, uw_RX12, gw_of (i := 1265) (by decide +kernel) rfl, rfl, by decide +kernel, ⟨tyX12, tyX12_ok⟩, nmX12, rfl⟩
theorem cf_RX12_23 : FPf RX12 23 11 5 (.array .int) := ⟨RX12, TX12, 45, rfl, by decide, uw_RX12, gw_of (i := 1266) (by decide +kernel) rfl, rfl, by decide +kernel, ⟨tyX12, tyX12_ok⟩, nmX12, rfl⟩
theorem cf_RX12_26 : FPf RX12 26 11 6 (.array .int) := ⟨RX12, TX12, 45, rfl, by decide, uw_RX12, gw_of (i := 1267) (by decide +kernel) rfl, rfl, by decide +kernel, ⟨tyX12, tyX12_ok⟩, nmX12, rfl⟩
theorem cf_RX12_29 : FPf RX12 29 11 7 (.array .int) := ⟨RX12, TX12, 45, rfl, by decide, uw_RX12, gw_of (i := 1268) (by decide +kernel) rfl, rfl, by decide +kernel, ⟨tyX12, tyX12_ok⟩, nmX12, rfl⟩
theorem cf_RX12_32 : FPf RX12 32 11 9 (.array .int) := ⟨RX12, TX12, 45, rfl, by decide, uw_RX12, gw_of (i := 1270) (by decide +kernel) rfl, rfl, by decide +kernel, ⟨tyX12, tyX12_ok⟩, nmX12, rfl⟩
theorem cf_RX12_35 : FPf RX12 35 11 10 (.array .int) := ⟨RX12, TX12, 45, rfl, by decide, uw_RX12, gw_of (i := 1271) (by decide +kernel) rfl, rfl, by decide +kernel, ⟨tyX12, tyX12_ok⟩, nmX12, rfl⟩
theorem cp_RX12_38 : FPt RX12 38 11 11 (.array .int) := ⟨RX12, TX12, 45, rfl, by decide, uw_RX12, gw_of (i := 1272) (by decide +kernel) rfl, rfl, by decide +kernel, ⟨tyX12, tyX12_ok⟩, nmX12⟩
theorem cp_RX12_41 : FPt RX12 41 11 12 .int := ⟨RX12, TX12, 45, rfl, by decide, uw_RX12, gw_of (i := 1273) (by decide +kernel) rfl, rfl, by decide +kernel, ⟨tyX12, tyX12_ok⟩, nmX12⟩
theorem ar_B : Cond.arrayClass .byte ∈ gw := gw_of (i := 278) (by decide +kernel) rfl
theorem cf_RX12_45 : FPf RX12 45 11 13 (.array .byte) := ⟨RX12, TX12, 45, rfl, by decide, uw_RX12, gw_of (i := 1274) (by decide +kernel) rfl, rfl, by decide +kernel, ⟨tyX12, tyX12_ok⟩, nmX12, rfl⟩
theorem cbp_16 : (Int8.ofInt (16)).toInt32 = (16 : Int32) := by decide
theorem cf_RX12_49 : FPf RX12 49 11 15 (.array .long) := ⟨RX12, TX12, 45, rfl, by decide, uw_RX12, gw_of (i := 1276) (by decide +kernel) rfl, rfl, by decide +kernel, ⟨tyX12, tyX12_ok⟩, nmX12, rfl⟩
theorem cf_RX12_53 : FPf RX12 53 11 23 (.array .int) := ⟨RX12, TX12, 45, rfl, by decide, uw_RX12, gw_of (i := 1284) (by decide +kernel) rfl, rfl, by decide +kernel, ⟨tyX12, tyX12_ok⟩, nmX12, rfl⟩
theorem cf_RX12_56 : FPf RX12 56 11 24 (.array .byte) := ⟨RX12, TX12, 45, rfl, by decide, uw_RX12, gw_of (i := 1285) (by decide +kernel) rfl, rfl, by decide +kernel, ⟨tyX12, tyX12_ok⟩, nmX12, rfl⟩
theorem cf_RX12_59 : FPf RX12 59 11 27 (.array .int) := ⟨RX12, TX12, 45, rfl, by decide, uw_RX12, gw_of (i := 1288) (by decide +kernel) rfl, rfl, by decide +kernel, ⟨tyX12, tyX12_ok⟩, nmX12, rfl⟩
theorem csp_324 : (Int16.ofInt (324)).toInt32 = (324 : Int32) := by decide
theorem cf_RX12_62 : FPf RX12 62 11 28 (.array .int) := ⟨RX12, TX12, 45, rfl, by decide, uw_RX12, gw_of (i := 1289) (by decide +kernel) rfl, rfl, by decide +kernel, ⟨tyX12, tyX12_ok⟩, nmX12, rfl⟩
theorem cf_RX12_65 : FPf RX12 65 11 30 (.array .int) := ⟨RX12, TX12, 45, rfl, by decide, uw_RX12, gw_of (i := 1291) (by decide +kernel) rfl, rfl, by decide +kernel, ⟨tyX12, tyX12_ok⟩, nmX12, rfl⟩
theorem cf_RX12_68 : FPf RX12 68 11 31 (.array .int) := ⟨RX12, TX12, 45, rfl, by decide, uw_RX12, gw_of (i := 1292) (by decide +kernel) rfl, rfl, by decide +kernel, ⟨tyX12, tyX12_ok⟩, nmX12, rfl⟩
theorem csp_240 : (Int16.ofInt (240)).toInt32 = (240 : Int32) := by decide
theorem cf_RX12_71 : FPf RX12 71 11 32 (.array .int) := ⟨RX12, TX12, 45, rfl, by decide, uw_RX12, gw_of (i := 1293) (by decide +kernel) rfl, rfl, by decide +kernel, ⟨tyX12, tyX12_ok⟩, nmX12, rfl⟩
theorem cf_RX12_74 : FPf RX12 74 11 34 (.array .int) := ⟨RX12, TX12, 45, rfl, by decide, uw_RX12, gw_of (i := 1295) (by decide +kernel) rfl, rfl, by decide +kernel, ⟨tyX12, tyX12_ok⟩, nmX12, rfl⟩
theorem cf_RX12_77 : FPf RX12 77 11 35 (.array .int) := ⟨RX12, TX12, 45, rfl, by decide, uw_RX12, gw_of (i := 1296) (by decide +kernel) rfl, rfl, by decide +kernel, ⟨tyX12, tyX12_ok⟩, nmX12, rfl⟩
theorem cf_RX12_80 : FPf RX12 80 11 36 (.array .int) := ⟨RX12, TX12, 45, rfl, by decide, uw_RX12, gw_of (i := 1297) (by decide +kernel) rfl, rfl, by decide +kernel, ⟨tyX12, tyX12_ok⟩, nmX12, rfl⟩
theorem cf_RX12_83 : FPf RX12 83 11 39 (.array .int) := ⟨RX12, TX12, 45, rfl, by decide, uw_RX12, gw_of (i := 1300) (by decide +kernel) rfl, rfl, by decide +kernel, ⟨tyX12, tyX12_ok⟩, nmX12, rfl⟩
theorem cbp_54 : (Int8.ofInt (54)).toInt32 = (54 : Int32) := by decide
theorem cf_RX12_86 : FPf RX12 86 11 42 (.array .int) := ⟨RX12, TX12, 45, rfl, by decide, uw_RX12, gw_of (i := 1303) (by decide +kernel) rfl, rfl, by decide +kernel, ⟨tyX12, tyX12_ok⟩, nmX12, rfl⟩
theorem cf_RX12_89 : FPf RX12 89 11 43 (.array .boolean) := ⟨RX12, TX12, 45, rfl, by decide, uw_RX12, gw_of (i := 1304) (by decide +kernel) rfl, rfl, by decide +kernel, ⟨tyX12, tyX12_ok⟩, nmX12, rfl⟩
theorem cf_RX12_92 : FPf RX12 92 11 44 (.array .int) := ⟨RX12, TX12, 45, rfl, by decide, uw_RX12, gw_of (i := 1305) (by decide +kernel) rfl, rfl, by decide +kernel, ⟨tyX12, tyX12_ok⟩, nmX12, rfl⟩
