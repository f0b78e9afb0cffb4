/-! MAKERS: words, decode rows, fields (tool/mkrun.py prints them) -/
theorem d_X10_init_0 : decode prog_12_method_1_code 0 = .ok (.aload_n 0, 1) := by decide +kernel
theorem d_X10_init_1 : decode prog_12_method_1_code 1 = .ok (.invokespecial 3, 3) := by decide +kernel
theorem d_X10_init_4 : decode prog_12_method_1_code 4 = .ok (.aload_n 0, 1) := by decide +kernel
theorem d_X10_init_5 : decode prog_12_method_1_code 5 = .ok (.bipush 10, 2) := by decide +kernel
theorem d_X10_init_7 : decode prog_12_method_1_code 7 = .ok (.newarray .int, 2) := by decide +kernel
theorem d_X10_init_9 : decode prog_12_method_1_code 9 = .ok (.putfield 9, 3) := by decide +kernel
theorem d_X10_init_12 : decode prog_12_method_1_code 12 = .ok (.aload_n 0, 1) := by decide +kernel
theorem d_X10_init_13 : decode prog_12_method_1_code 13 = .ok (.bipush 10, 2) := by decide +kernel
theorem d_X10_init_15 : decode prog_12_method_1_code 15 = .ok (.newarray .int, 2) := by decide +kernel
theorem d_X10_init_17 : decode prog_12_method_1_code 17 = .ok (.putfield 15, 3) := by decide +kernel
theorem d_X10_init_20 : decode prog_12_method_1_code 20 = .ok (.aload_n 0, 1) := by decide +kernel
theorem d_X10_init_21 : decode prog_12_method_1_code 21 = .ok (.bipush 100, 2) := by decide +kernel
theorem d_X10_init_23 : decode prog_12_method_1_code 23 = .ok (.newarray .int, 2) := by decide +kernel
theorem d_X10_init_25 : decode prog_12_method_1_code 25 = .ok (.putfield 18, 3) := by decide +kernel
theorem d_X10_init_28 : decode prog_12_method_1_code 28 = .ok (.aload_n 0, 1) := by decide +kernel
theorem d_X10_init_29 : decode prog_12_method_1_code 29 = .ok (.bipush 100, 2) := by decide +kernel
theorem d_X10_init_31 : decode prog_12_method_1_code 31 = .ok (.newarray .int, 2) := by decide +kernel
theorem d_X10_init_33 : decode prog_12_method_1_code 33 = .ok (.putfield 21, 3) := by decide +kernel
theorem d_X10_init_36 : decode prog_12_method_1_code 36 = .ok (.aload_n 0, 1) := by decide +kernel
theorem d_X10_init_37 : decode prog_12_method_1_code 37 = .ok (.invokevirtual 24, 3) := by decide +kernel
theorem d_X10_init_40 : decode prog_12_method_1_code 40 = .ok (.return_, 1) := by decide +kernel
theorem d_X8_init_0 : decode prog_10_method_1_code 0 = .ok (.aload_n 0, 1) := by decide +kernel
theorem d_X8_init_1 : decode prog_10_method_1_code 1 = .ok (.invokespecial 3, 3) := by decide +kernel
theorem d_X8_init_4 : decode prog_10_method_1_code 4 = .ok (.aload_n 0, 1) := by decide +kernel
theorem d_X8_init_5 : decode prog_10_method_1_code 5 = .ok (.iconst 0, 1) := by decide +kernel
theorem d_X8_init_6 : decode prog_10_method_1_code 6 = .ok (.putfield 9, 3) := by decide +kernel
theorem d_X8_init_9 : decode prog_10_method_1_code 9 = .ok (.aload_n 0, 1) := by decide +kernel
theorem d_X8_init_10 : decode prog_10_method_1_code 10 = .ok (.iconst 0, 1) := by decide +kernel
theorem d_X8_init_11 : decode prog_10_method_1_code 11 = .ok (.putfield 15, 3) := by decide +kernel
theorem d_X8_init_14 : decode prog_10_method_1_code 14 = .ok (.aload_n 0, 1) := by decide +kernel
theorem d_X8_init_15 : decode prog_10_method_1_code 15 = .ok (.iconst 0, 1) := by decide +kernel
theorem d_X8_init_16 : decode prog_10_method_1_code 16 = .ok (.iload_n 1, 1) := by decide +kernel
theorem d_X8_init_17 : decode prog_10_method_1_code 17 = .ok (.invokestatic 18, 3) := by decide +kernel
theorem d_X8_init_20 : decode prog_10_method_1_code 20 = .ok (.putfield 24, 3) := by decide +kernel
theorem d_X8_init_23 : decode prog_10_method_1_code 23 = .ok (.aload_n 0, 1) := by decide +kernel
theorem d_X8_init_24 : decode prog_10_method_1_code 24 = .ok (.aload_n 0, 1) := by decide +kernel
theorem d_X8_init_25 : decode prog_10_method_1_code 25 = .ok (.getfield 24, 3) := by decide +kernel
theorem d_X8_init_28 : decode prog_10_method_1_code 28 = .ok (.iconst 3, 1) := by decide +kernel
theorem d_X8_init_29 : decode prog_10_method_1_code 29 = .ok (.imul, 1) := by decide +kernel
theorem d_X8_init_30 : decode prog_10_method_1_code 30 = .ok (.newarray .int, 2) := by decide +kernel
theorem d_X8_init_32 : decode prog_10_method_1_code 32 = .ok (.putfield 27, 3) := by decide +kernel
theorem d_X8_init_35 : decode prog_10_method_1_code 35 = .ok (.aload_n 0, 1) := by decide +kernel
theorem d_X8_init_36 : decode prog_10_method_1_code 36 = .ok (.aload_n 0, 1) := by decide +kernel
theorem d_X8_init_37 : decode prog_10_method_1_code 37 = .ok (.getfield 24, 3) := by decide +kernel
theorem d_X8_init_40 : decode prog_10_method_1_code 40 = .ok (.iconst 3, 1) := by decide +kernel
theorem d_X8_init_41 : decode prog_10_method_1_code 41 = .ok (.imul, 1) := by decide +kernel
theorem d_X8_init_42 : decode prog_10_method_1_code 42 = .ok (.newarray .int, 2) := by decide +kernel
theorem d_X8_init_44 : decode prog_10_method_1_code 44 = .ok (.putfield 31, 3) := by decide +kernel
theorem d_X8_init_47 : decode prog_10_method_1_code 47 = .ok (.return_, 1) := by decide +kernel
theorem d_X6_init_0 : decode prog_8_method_1_code 0 = .ok (.aload_n 0, 1) := by decide +kernel
theorem d_X6_init_1 : decode prog_8_method_1_code 1 = .ok (.invokespecial 3, 3) := by decide +kernel
theorem d_X6_init_4 : decode prog_8_method_1_code 4 = .ok (.aload_n 0, 1) := by decide +kernel
theorem d_X6_init_5 : decode prog_8_method_1_code 5 = .ok (.bipush 101, 2) := by decide +kernel
theorem d_X6_init_7 : decode prog_8_method_1_code 7 = .ok (.newarray .int, 2) := by decide +kernel
theorem d_X6_init_9 : decode prog_8_method_1_code 9 = .ok (.putfield 9, 3) := by decide +kernel
theorem d_X6_init_12 : decode prog_8_method_1_code 12 = .ok (.aload_n 0, 1) := by decide +kernel
theorem d_X6_init_13 : decode prog_8_method_1_code 13 = .ok (.new 15, 3) := by decide +kernel
theorem d_X6_init_16 : decode prog_8_method_1_code 16 = .ok (.dup, 1) := by decide +kernel
theorem d_X6_init_17 : decode prog_8_method_1_code 17 = .ok (.invokespecial 17, 3) := by decide +kernel
theorem d_X6_init_20 : decode prog_8_method_1_code 20 = .ok (.putfield 18, 3) := by decide +kernel
theorem d_X6_init_23 : decode prog_8_method_1_code 23 = .ok (.aload_n 0, 1) := by decide +kernel
theorem d_X6_init_24 : decode prog_8_method_1_code 24 = .ok (.iconst 0, 1) := by decide +kernel
theorem d_X6_init_25 : decode prog_8_method_1_code 25 = .ok (.putfield 22, 3) := by decide +kernel
theorem d_X6_init_28 : decode prog_8_method_1_code 28 = .ok (.aload_n 0, 1) := by decide +kernel
theorem d_X6_init_29 : decode prog_8_method_1_code 29 = .ok (.iconst 0, 1) := by decide +kernel
theorem d_X6_init_30 : decode prog_8_method_1_code 30 = .ok (.putfield 26, 3) := by decide +kernel
theorem d_X6_init_33 : decode prog_8_method_1_code 33 = .ok (.return_, 1) := by decide +kernel
theorem d_X5_init_0 : decode prog_7_method_1_code 0 = .ok (.aload_n 0, 1) := by decide +kernel
theorem d_X5_init_1 : decode prog_7_method_1_code 1 = .ok (.invokespecial 1, 3) := by decide +kernel
theorem d_X5_init_4 : decode prog_7_method_1_code 4 = .ok (.aload_n 0, 1) := by decide +kernel
theorem d_X5_init_5 : decode prog_7_method_1_code 5 = .ok (.iconst 0, 1) := by decide +kernel
theorem d_X5_init_6 : decode prog_7_method_1_code 6 = .ok (.putfield 7, 3) := by decide +kernel
theorem d_X5_init_9 : decode prog_7_method_1_code 9 = .ok (.aload_n 0, 1) := by decide +kernel
theorem d_X5_init_10 : decode prog_7_method_1_code 10 = .ok (.iconst 0, 1) := by decide +kernel
theorem d_X5_init_11 : decode prog_7_method_1_code 11 = .ok (.putfield 13, 3) := by decide +kernel
theorem d_X5_init_14 : decode prog_7_method_1_code 14 = .ok (.aload_n 0, 1) := by decide +kernel
theorem d_X5_init_15 : decode prog_7_method_1_code 15 = .ok (.iconst 0, 1) := by decide +kernel
theorem d_X5_init_16 : decode prog_7_method_1_code 16 = .ok (.putfield 17, 3) := by decide +kernel
theorem d_X5_init_19 : decode prog_7_method_1_code 19 = .ok (.aload_n 0, 1) := by decide +kernel
theorem d_X5_init_20 : decode prog_7_method_1_code 20 = .ok (.iconst 0, 1) := by decide +kernel
theorem d_X5_init_21 : decode prog_7_method_1_code 21 = .ok (.putfield 20, 3) := by decide +kernel
theorem d_X5_init_24 : decode prog_7_method_1_code 24 = .ok (.aload_n 0, 1) := by decide +kernel
theorem d_X5_init_25 : decode prog_7_method_1_code 25 = .ok (.iconst 0, 1) := by decide +kernel
theorem d_X5_init_26 : decode prog_7_method_1_code 26 = .ok (.putfield 23, 3) := by decide +kernel
theorem d_X5_init_29 : decode prog_7_method_1_code 29 = .ok (.aload_n 0, 1) := by decide +kernel
theorem d_X5_init_30 : decode prog_7_method_1_code 30 = .ok (.iload_n 1, 1) := by decide +kernel
theorem d_X5_init_31 : decode prog_7_method_1_code 31 = .ok (.putfield 26, 3) := by decide +kernel
theorem d_X5_init_34 : decode prog_7_method_1_code 34 = .ok (.aload_n 0, 1) := by decide +kernel
theorem d_X5_init_35 : decode prog_7_method_1_code 35 = .ok (.iload_n 2, 1) := by decide +kernel
theorem d_X5_init_36 : decode prog_7_method_1_code 36 = .ok (.putfield 29, 3) := by decide +kernel
theorem d_X5_init_39 : decode prog_7_method_1_code 39 = .ok (.aload_n 0, 1) := by decide +kernel
theorem d_X5_init_40 : decode prog_7_method_1_code 40 = .ok (.iload_n 3, 1) := by decide +kernel
theorem d_X5_init_41 : decode prog_7_method_1_code 41 = .ok (.putfield 32, 3) := by decide +kernel
theorem d_X5_init_44 : decode prog_7_method_1_code 44 = .ok (.aload_n 0, 1) := by decide +kernel
theorem d_X5_init_45 : decode prog_7_method_1_code 45 = .ok (.iload 4, 2) := by decide +kernel
theorem d_X5_init_47 : decode prog_7_method_1_code 47 = .ok (.putfield 35, 3) := by decide +kernel
theorem d_X5_init_50 : decode prog_7_method_1_code 50 = .ok (.aload_n 0, 1) := by decide +kernel
theorem d_X5_init_51 : decode prog_7_method_1_code 51 = .ok (.aload 5, 2) := by decide +kernel
theorem d_X5_init_53 : decode prog_7_method_1_code 53 = .ok (.putfield 38, 3) := by decide +kernel
theorem d_X5_init_56 : decode prog_7_method_1_code 56 = .ok (.return_, 1) := by decide +kernel
theorem d_X3_init_0 : decode prog_5_method_1_code 0 = .ok (.aload_n 0, 1) := by decide +kernel
theorem d_X3_init_1 : decode prog_5_method_1_code 1 = .ok (.iload_n 1, 1) := by decide +kernel
theorem d_X3_init_2 : decode prog_5_method_1_code 2 = .ok (.iload_n 2, 1) := by decide +kernel
theorem d_X3_init_3 : decode prog_5_method_1_code 3 = .ok (.iload_n 3, 1) := by decide +kernel
theorem d_X3_init_4 : decode prog_5_method_1_code 4 = .ok (.iload 4, 2) := by decide +kernel
theorem d_X3_init_6 : decode prog_5_method_1_code 6 = .ok (.aload 5, 2) := by decide +kernel
theorem d_X3_init_8 : decode prog_5_method_1_code 8 = .ok (.invokespecial 1, 3) := by decide +kernel
theorem d_X3_init_11 : decode prog_5_method_1_code 11 = .ok (.return_, 1) := by decide +kernel
theorem d_X4_init_0 : decode prog_6_method_1_code 0 = .ok (.aload_n 0, 1) := by decide +kernel
theorem d_X4_init_1 : decode prog_6_method_1_code 1 = .ok (.iload_n 1, 1) := by decide +kernel
theorem d_X4_init_2 : decode prog_6_method_1_code 2 = .ok (.iload_n 2, 1) := by decide +kernel
theorem d_X4_init_3 : decode prog_6_method_1_code 3 = .ok (.iload_n 3, 1) := by decide +kernel
theorem d_X4_init_4 : decode prog_6_method_1_code 4 = .ok (.iload 4, 2) := by decide +kernel
theorem d_X4_init_6 : decode prog_6_method_1_code 6 = .ok (.aload 5, 2) := by decide +kernel
theorem d_X4_init_8 : decode prog_6_method_1_code 8 = .ok (.invokespecial 1, 3) := by decide +kernel
theorem d_X4_init_11 : decode prog_6_method_1_code 11 = .ok (.return_, 1) := by decide +kernel
theorem d_X7_init_0 : decode prog_9_method_1_code 0 = .ok (.aload_n 0, 1) := by decide +kernel
theorem d_X7_init_1 : decode prog_9_method_1_code 1 = .ok (.iload_n 1, 1) := by decide +kernel
theorem d_X7_init_2 : decode prog_9_method_1_code 2 = .ok (.iload_n 2, 1) := by decide +kernel
theorem d_X7_init_3 : decode prog_9_method_1_code 3 = .ok (.iload_n 3, 1) := by decide +kernel
theorem d_X7_init_4 : decode prog_9_method_1_code 4 = .ok (.iload 4, 2) := by decide +kernel
theorem d_X7_init_6 : decode prog_9_method_1_code 6 = .ok (.aload 5, 2) := by decide +kernel
theorem d_X7_init_8 : decode prog_9_method_1_code 8 = .ok (.invokespecial 1, 3) := by decide +kernel
theorem d_X7_init_11 : decode prog_9_method_1_code 11 = .ok (.return_, 1) := by decide +kernel
theorem d_X2_init_0 : decode prog_4_method_1_code 0 = .ok (.aload_n 0, 1) := by decide +kernel
theorem d_X2_init_1 : decode prog_4_method_1_code 1 = .ok (.iload_n 1, 1) := by decide +kernel
theorem d_X2_init_2 : decode prog_4_method_1_code 2 = .ok (.iload_n 2, 1) := by decide +kernel
theorem d_X2_init_3 : decode prog_4_method_1_code 3 = .ok (.iload_n 3, 1) := by decide +kernel
theorem d_X2_init_4 : decode prog_4_method_1_code 4 = .ok (.iload 4, 2) := by decide +kernel
theorem d_X2_init_6 : decode prog_4_method_1_code 6 = .ok (.aload 5, 2) := by decide +kernel
theorem d_X2_init_8 : decode prog_4_method_1_code 8 = .ok (.invokespecial 1, 3) := by decide +kernel
theorem d_X2_init_11 : decode prog_4_method_1_code 11 = .ok (.return_, 1) := by decide +kernel
theorem d_X0_init_0 : decode prog_2_method_1_code 0 = .ok (.aload_n 0, 1) := by decide +kernel
theorem d_X0_init_1 : decode prog_2_method_1_code 1 = .ok (.iload_n 1, 1) := by decide +kernel
theorem d_X0_init_2 : decode prog_2_method_1_code 2 = .ok (.iload_n 2, 1) := by decide +kernel
theorem d_X0_init_3 : decode prog_2_method_1_code 3 = .ok (.iload_n 3, 1) := by decide +kernel
theorem d_X0_init_4 : decode prog_2_method_1_code 4 = .ok (.iload 4, 2) := by decide +kernel
theorem d_X0_init_6 : decode prog_2_method_1_code 6 = .ok (.aload 5, 2) := by decide +kernel
theorem d_X0_init_8 : decode prog_2_method_1_code 8 = .ok (.invokespecial 1, 3) := by decide +kernel
theorem d_X0_init_11 : decode prog_2_method_1_code 11 = .ok (.return_, 1) := by decide +kernel
theorem d_X9_init_0 : decode prog_11_method_1_code 0 = .ok (.aload_n 0, 1) := by decide +kernel
theorem d_X9_init_1 : decode prog_11_method_1_code 1 = .ok (.iload_n 1, 1) := by decide +kernel
theorem d_X9_init_2 : decode prog_11_method_1_code 2 = .ok (.iload_n 2, 1) := by decide +kernel
theorem d_X9_init_3 : decode prog_11_method_1_code 3 = .ok (.iload_n 3, 1) := by decide +kernel
theorem d_X9_init_4 : decode prog_11_method_1_code 4 = .ok (.iload 4, 2) := by decide +kernel
theorem d_X9_init_6 : decode prog_11_method_1_code 6 = .ok (.aload 5, 2) := by decide +kernel
theorem d_X9_init_8 : decode prog_11_method_1_code 8 = .ok (.invokespecial 1, 3) := by decide +kernel
theorem d_X9_init_11 : decode prog_11_method_1_code 11 = .ok (.aload_n 0, 1) := by decide +kernel
theorem d_X9_init_12 : decode prog_11_method_1_code 12 = .ok (.iconst 4, 1) := by decide +kernel
theorem d_X9_init_13 : decode prog_11_method_1_code 13 = .ok (.newarray .int, 2) := by decide +kernel
theorem d_X9_init_15 : decode prog_11_method_1_code 15 = .ok (.putfield 9, 3) := by decide +kernel
theorem d_X9_init_18 : decode prog_11_method_1_code 18 = .ok (.aload_n 0, 1) := by decide +kernel
theorem d_X9_init_19 : decode prog_11_method_1_code 19 = .ok (.iconst 4, 1) := by decide +kernel
theorem d_X9_init_20 : decode prog_11_method_1_code 20 = .ok (.newarray .int, 2) := by decide +kernel
theorem d_X9_init_22 : decode prog_11_method_1_code 22 = .ok (.putfield 13, 3) := by decide +kernel
theorem d_X9_init_25 : decode prog_11_method_1_code 25 = .ok (.return_, 1) := by decide +kernel
theorem d_X1_init_0 : decode prog_3_method_1_code 0 = .ok (.aload_n 0, 1) := by decide +kernel
theorem d_X1_init_1 : decode prog_3_method_1_code 1 = .ok (.invokespecial 3, 3) := by decide +kernel
theorem d_X1_init_4 : decode prog_3_method_1_code 4 = .ok (.aload_n 0, 1) := by decide +kernel
theorem d_X1_init_5 : decode prog_3_method_1_code 5 = .ok (.iconst 0, 1) := by decide +kernel
theorem d_X1_init_6 : decode prog_3_method_1_code 6 = .ok (.putfield 9, 3) := by decide +kernel
theorem d_X1_init_9 : decode prog_3_method_1_code 9 = .ok (.aload_n 0, 1) := by decide +kernel
theorem d_X1_init_10 : decode prog_3_method_1_code 10 = .ok (.iconst 0, 1) := by decide +kernel
theorem d_X1_init_11 : decode prog_3_method_1_code 11 = .ok (.putfield 15, 3) := by decide +kernel
theorem d_X1_init_14 : decode prog_3_method_1_code 14 = .ok (.aload_n 0, 1) := by decide +kernel
theorem d_X1_init_15 : decode prog_3_method_1_code 15 = .ok (.iconst 0, 1) := by decide +kernel
theorem d_X1_init_16 : decode prog_3_method_1_code 16 = .ok (.putfield 18, 3) := by decide +kernel
theorem d_X1_init_19 : decode prog_3_method_1_code 19 = .ok (.aload_n 0, 1) := by decide +kernel
theorem d_X1_init_20 : decode prog_3_method_1_code 20 = .ok (.iconst 0, 1) := by decide +kernel
theorem d_X1_init_21 : decode prog_3_method_1_code 21 = .ok (.putfield 21, 3) := by decide +kernel
theorem d_X1_init_24 : decode prog_3_method_1_code 24 = .ok (.aload_n 0, 1) := by decide +kernel
theorem d_X1_init_25 : decode prog_3_method_1_code 25 = .ok (.iconst 0, 1) := by decide +kernel
theorem d_X1_init_26 : decode prog_3_method_1_code 26 = .ok (.putfield 24, 3) := by decide +kernel
theorem d_X1_init_29 : decode prog_3_method_1_code 29 = .ok (.aload_n 0, 1) := by decide +kernel
theorem d_X1_init_30 : decode prog_3_method_1_code 30 = .ok (.iconst 0, 1) := by decide +kernel
theorem d_X1_init_31 : decode prog_3_method_1_code 31 = .ok (.putfield 27, 3) := by decide +kernel
theorem d_X1_init_34 : decode prog_3_method_1_code 34 = .ok (.aload_n 0, 1) := by decide +kernel
theorem d_X1_init_35 : decode prog_3_method_1_code 35 = .ok (.bipush 12, 2) := by decide +kernel
theorem d_X1_init_37 : decode prog_3_method_1_code 37 = .ok (.newarray .int, 2) := by decide +kernel
theorem d_X1_init_39 : decode prog_3_method_1_code 39 = .ok (.putfield 31, 3) := by decide +kernel
theorem d_X1_init_42 : decode prog_3_method_1_code 42 = .ok (.aload_n 0, 1) := by decide +kernel
theorem d_X1_init_43 : decode prog_3_method_1_code 43 = .ok (.bipush 16, 2) := by decide +kernel
theorem d_X1_init_45 : decode prog_3_method_1_code 45 = .ok (.newarray .int, 2) := by decide +kernel
theorem d_X1_init_47 : decode prog_3_method_1_code 47 = .ok (.putfield 35, 3) := by decide +kernel
theorem d_X1_init_50 : decode prog_3_method_1_code 50 = .ok (.aload_n 0, 1) := by decide +kernel
theorem d_X1_init_51 : decode prog_3_method_1_code 51 = .ok (.aload_n 1, 1) := by decide +kernel
theorem d_X1_init_52 : decode prog_3_method_1_code 52 = .ok (.putfield 38, 3) := by decide +kernel
theorem d_X1_init_55 : decode prog_3_method_1_code 55 = .ok (.aload_n 0, 1) := by decide +kernel
theorem d_X1_init_56 : decode prog_3_method_1_code 56 = .ok (.aload_n 2, 1) := by decide +kernel
theorem d_X1_init_57 : decode prog_3_method_1_code 57 = .ok (.putfield 42, 3) := by decide +kernel
theorem d_X1_init_60 : decode prog_3_method_1_code 60 = .ok (.return_, 1) := by decide +kernel
theorem d_X12_init_0 : decode prog_14_method_1_code 0 = .ok (.aload_n 0, 1) := by decide +kernel
theorem d_X12_init_1 : decode prog_14_method_1_code 1 = .ok (.invokespecial 3, 3) := by decide +kernel
theorem d_X12_init_4 : decode prog_14_method_1_code 4 = .ok (.aload_n 0, 1) := by decide +kernel
theorem d_X12_init_5 : decode prog_14_method_1_code 5 = .ok (.sipush 926, 3) := by decide +kernel
theorem d_X12_init_8 : decode prog_14_method_1_code 8 = .ok (.newarray .int, 2) := by decide +kernel
theorem d_X12_init_10 : decode prog_14_method_1_code 10 = .ok (.putfield 9, 3) := by decide +kernel
theorem d_X12_init_13 : decode prog_14_method_1_code 13 = .ok (.aload_n 0, 1) := by decide +kernel
theorem d_X12_init_14 : decode prog_14_method_1_code 14 = .ok (.sipush 926, 3) := by decide +kernel
theorem d_X12_init_17 : decode prog_14_method_1_code 17 = .ok (.newarray .int, 2) := by decide +kernel
theorem d_X12_init_19 : decode prog_14_method_1_code 19 = .ok (.putfield 15, 3) := by decide +kernel
theorem d_X12_init_22 : decode prog_14_method_1_code 22 = .ok (.aload_n 0, 1) := by decide +kernel
theorem d_X12_init_23 : decode prog_14_method_1_code 23 = .ok (.bipush 21, 2) := by decide +kernel
theorem d_X12_init_25 : decode prog_14_method_1_code 25 = .ok (.newarray .int, 2) := by decide +kernel
theorem d_X12_init_27 : decode prog_14_method_1_code 27 = .ok (.putfield 18, 3) := by decide +kernel
theorem d_X12_init_30 : decode prog_14_method_1_code 30 = .ok (.aload_n 0, 1) := by decide +kernel
theorem d_X12_init_31 : decode prog_14_method_1_code 31 = .ok (.bipush 6, 2) := by decide +kernel
theorem d_X12_init_33 : decode prog_14_method_1_code 33 = .ok (.newarray .int, 2) := by decide +kernel
theorem d_X12_init_35 : decode prog_14_method_1_code 35 = .ok (.putfield 21, 3) := by decide +kernel
theorem d_X12_init_38 : decode prog_14_method_1_code 38 = .ok (.aload_n 0, 1) := by decide +kernel
theorem d_X12_init_39 : decode prog_14_method_1_code 39 = .ok (.bipush 64, 2) := by decide +kernel
theorem d_X12_init_41 : decode prog_14_method_1_code 41 = .ok (.newarray .boolean, 2) := by decide +kernel
theorem d_X12_init_43 : decode prog_14_method_1_code 43 = .ok (.putfield 24, 3) := by decide +kernel
theorem d_X12_init_46 : decode prog_14_method_1_code 46 = .ok (.aload_n 0, 1) := by decide +kernel
theorem d_X12_init_47 : decode prog_14_method_1_code 47 = .ok (.sipush 144, 3) := by decide +kernel
theorem d_X12_init_50 : decode prog_14_method_1_code 50 = .ok (.newarray .int, 2) := by decide +kernel
theorem d_X12_init_52 : decode prog_14_method_1_code 52 = .ok (.putfield 28, 3) := by decide +kernel
theorem d_X12_init_55 : decode prog_14_method_1_code 55 = .ok (.aload_n 0, 1) := by decide +kernel
theorem d_X12_init_56 : decode prog_14_method_1_code 56 = .ok (.iconst 3, 1) := by decide +kernel
theorem d_X12_init_57 : decode prog_14_method_1_code 57 = .ok (.newarray .int, 2) := by decide +kernel
theorem d_X12_init_59 : decode prog_14_method_1_code 59 = .ok (.putfield 31, 3) := by decide +kernel
theorem d_X12_init_62 : decode prog_14_method_1_code 62 = .ok (.aload_n 0, 1) := by decide +kernel
theorem d_X12_init_63 : decode prog_14_method_1_code 63 = .ok (.iconst 3, 1) := by decide +kernel
theorem d_X12_init_64 : decode prog_14_method_1_code 64 = .ok (.newarray .int, 2) := by decide +kernel
theorem d_X12_init_66 : decode prog_14_method_1_code 66 = .ok (.putfield 34, 3) := by decide +kernel
theorem d_X12_init_69 : decode prog_14_method_1_code 69 = .ok (.aload_n 0, 1) := by decide +kernel
theorem d_X12_init_70 : decode prog_14_method_1_code 70 = .ok (.bipush 20, 2) := by decide +kernel
theorem d_X12_init_72 : decode prog_14_method_1_code 72 = .ok (.newarray .int, 2) := by decide +kernel
theorem d_X12_init_74 : decode prog_14_method_1_code 74 = .ok (.putfield 37, 3) := by decide +kernel
theorem d_X12_init_77 : decode prog_14_method_1_code 77 = .ok (.aload_n 0, 1) := by decide +kernel
theorem d_X12_init_78 : decode prog_14_method_1_code 78 = .ok (.getfield 9, 3) := by decide +kernel
theorem d_X12_init_81 : decode prog_14_method_1_code 81 = .ok (.bipush 27, 2) := by decide +kernel
theorem d_X12_init_83 : decode prog_14_method_1_code 83 = .ok (.iconst (-1), 1) := by decide +kernel
theorem d_X12_init_84 : decode prog_14_method_1_code 84 = .ok (.iastore, 1) := by decide +kernel
theorem d_X12_init_85 : decode prog_14_method_1_code 85 = .ok (.aload_n 0, 1) := by decide +kernel
theorem d_X12_init_86 : decode prog_14_method_1_code 86 = .ok (.getfield 9, 3) := by decide +kernel
theorem d_X12_init_89 : decode prog_14_method_1_code 89 = .ok (.iconst 1, 1) := by decide +kernel
theorem d_X12_init_90 : decode prog_14_method_1_code 90 = .ok (.iconst 5, 1) := by decide +kernel
theorem d_X12_init_91 : decode prog_14_method_1_code 91 = .ok (.iastore, 1) := by decide +kernel
theorem d_X12_init_92 : decode prog_14_method_1_code 92 = .ok (.return_, 1) := by decide +kernel
theorem d_X11_init_0 : decode prog_1_method_1_code 0 = .ok (.aload_n 0, 1) := by decide +kernel
theorem d_X11_init_1 : decode prog_1_method_1_code 1 = .ok (.invokespecial 3, 3) := by decide +kernel
theorem d_X11_init_4 : decode prog_1_method_1_code 4 = .ok (.aload_n 0, 1) := by decide +kernel
theorem d_X11_init_5 : decode prog_1_method_1_code 5 = .ok (.bipush 6, 2) := by decide +kernel
theorem d_X11_init_7 : decode prog_1_method_1_code 7 = .ok (.anewarray 11, 3) := by decide +kernel
theorem d_X11_init_10 : decode prog_1_method_1_code 10 = .ok (.putfield 13, 3) := by decide +kernel
theorem d_X11_init_13 : decode prog_1_method_1_code 13 = .ok (.aload_n 0, 1) := by decide +kernel
theorem d_X11_init_14 : decode prog_1_method_1_code 14 = .ok (.bipush 6, 2) := by decide +kernel
theorem d_X11_init_16 : decode prog_1_method_1_code 16 = .ok (.anewarray 17, 3) := by decide +kernel
theorem d_X11_init_19 : decode prog_1_method_1_code 19 = .ok (.putfield 19, 3) := by decide +kernel
theorem d_X11_init_22 : decode prog_1_method_1_code 22 = .ok (.aload_n 0, 1) := by decide +kernel
theorem d_X11_init_23 : decode prog_1_method_1_code 23 = .ok (.iconst 0, 1) := by decide +kernel
theorem d_X11_init_24 : decode prog_1_method_1_code 24 = .ok (.putfield 23, 3) := by decide +kernel
theorem d_X11_init_27 : decode prog_1_method_1_code 27 = .ok (.aload_n 0, 1) := by decide +kernel
theorem d_X11_init_28 : decode prog_1_method_1_code 28 = .ok (.new 27, 3) := by decide +kernel
theorem d_X11_init_31 : decode prog_1_method_1_code 31 = .ok (.dup, 1) := by decide +kernel
theorem d_X11_init_32 : decode prog_1_method_1_code 32 = .ok (.invokespecial 29, 3) := by decide +kernel
theorem d_X11_init_35 : decode prog_1_method_1_code 35 = .ok (.putfield 30, 3) := by decide +kernel
theorem d_X11_init_38 : decode prog_1_method_1_code 38 = .ok (.aload_n 0, 1) := by decide +kernel
theorem d_X11_init_39 : decode prog_1_method_1_code 39 = .ok (.iconst 5, 1) := by decide +kernel
theorem d_X11_init_40 : decode prog_1_method_1_code 40 = .ok (.anewarray 27, 3) := by decide +kernel
theorem d_X11_init_43 : decode prog_1_method_1_code 43 = .ok (.putfield 34, 3) := by decide +kernel
theorem d_X11_init_46 : decode prog_1_method_1_code 46 = .ok (.aload_n 0, 1) := by decide +kernel
theorem d_X11_init_47 : decode prog_1_method_1_code 47 = .ok (.iconst 0, 1) := by decide +kernel
theorem d_X11_init_48 : decode prog_1_method_1_code 48 = .ok (.putfield 38, 3) := by decide +kernel
theorem d_X11_init_51 : decode prog_1_method_1_code 51 = .ok (.aload_n 0, 1) := by decide +kernel
theorem d_X11_init_52 : decode prog_1_method_1_code 52 = .ok (.new 41, 3) := by decide +kernel
theorem d_X11_init_55 : decode prog_1_method_1_code 55 = .ok (.dup, 1) := by decide +kernel
theorem d_X11_init_56 : decode prog_1_method_1_code 56 = .ok (.bipush 100, 2) := by decide +kernel
theorem d_X11_init_58 : decode prog_1_method_1_code 58 = .ok (.invokespecial 43, 3) := by decide +kernel
theorem d_X11_init_61 : decode prog_1_method_1_code 61 = .ok (.putfield 46, 3) := by decide +kernel
theorem d_X11_init_64 : decode prog_1_method_1_code 64 = .ok (.aload_n 0, 1) := by decide +kernel
theorem d_X11_init_65 : decode prog_1_method_1_code 65 = .ok (.new 50, 3) := by decide +kernel
theorem d_X11_init_68 : decode prog_1_method_1_code 68 = .ok (.dup, 1) := by decide +kernel
theorem d_X11_init_69 : decode prog_1_method_1_code 69 = .ok (.invokespecial 52, 3) := by decide +kernel
theorem d_X11_init_72 : decode prog_1_method_1_code 72 = .ok (.putfield 53, 3) := by decide +kernel
theorem d_X11_init_75 : decode prog_1_method_1_code 75 = .ok (.aload_n 0, 1) := by decide +kernel
theorem d_X11_init_76 : decode prog_1_method_1_code 76 = .ok (.iconst 5, 1) := by decide +kernel
theorem d_X11_init_77 : decode prog_1_method_1_code 77 = .ok (.putfield 57, 3) := by decide +kernel
theorem d_X11_init_80 : decode prog_1_method_1_code 80 = .ok (.aload_n 0, 1) := by decide +kernel
theorem d_X11_init_81 : decode prog_1_method_1_code 81 = .ok (.iconst 0, 1) := by decide +kernel
theorem d_X11_init_82 : decode prog_1_method_1_code 82 = .ok (.putfield 60, 3) := by decide +kernel
theorem d_X11_init_85 : decode prog_1_method_1_code 85 = .ok (.aload_n 0, 1) := by decide +kernel
theorem d_X11_init_86 : decode prog_1_method_1_code 86 = .ok (.iconst 0, 1) := by decide +kernel
theorem d_X11_init_87 : decode prog_1_method_1_code 87 = .ok (.putfield 63, 3) := by decide +kernel
theorem d_X11_init_90 : decode prog_1_method_1_code 90 = .ok (.aload_n 0, 1) := by decide +kernel
theorem d_X11_init_91 : decode prog_1_method_1_code 91 = .ok (.new 41, 3) := by decide +kernel
theorem d_X11_init_94 : decode prog_1_method_1_code 94 = .ok (.dup, 1) := by decide +kernel
theorem d_X11_init_95 : decode prog_1_method_1_code 95 = .ok (.iconst 5, 1) := by decide +kernel
theorem d_X11_init_96 : decode prog_1_method_1_code 96 = .ok (.invokespecial 43, 3) := by decide +kernel
theorem d_X11_init_99 : decode prog_1_method_1_code 99 = .ok (.putfield 66, 3) := by decide +kernel
theorem d_X11_init_102 : decode prog_1_method_1_code 102 = .ok (.aload_n 0, 1) := by decide +kernel
theorem d_X11_init_103 : decode prog_1_method_1_code 103 = .ok (.new 41, 3) := by decide +kernel
theorem d_X11_init_106 : decode prog_1_method_1_code 106 = .ok (.dup, 1) := by decide +kernel
theorem d_X11_init_107 : decode prog_1_method_1_code 107 = .ok (.bipush 8, 2) := by decide +kernel
theorem d_X11_init_109 : decode prog_1_method_1_code 109 = .ok (.invokespecial 43, 3) := by decide +kernel
theorem d_X11_init_112 : decode prog_1_method_1_code 112 = .ok (.putfield 69, 3) := by decide +kernel
theorem d_X11_init_115 : decode prog_1_method_1_code 115 = .ok (.aload_n 0, 1) := by decide +kernel
theorem d_X11_init_116 : decode prog_1_method_1_code 116 = .ok (.new 41, 3) := by decide +kernel
theorem d_X11_init_119 : decode prog_1_method_1_code 119 = .ok (.dup, 1) := by decide +kernel
theorem d_X11_init_120 : decode prog_1_method_1_code 120 = .ok (.bipush 8, 2) := by decide +kernel
theorem d_X11_init_122 : decode prog_1_method_1_code 122 = .ok (.invokespecial 43, 3) := by decide +kernel
theorem d_X11_init_125 : decode prog_1_method_1_code 125 = .ok (.putfield 72, 3) := by decide +kernel
theorem d_X11_init_128 : decode prog_1_method_1_code 128 = .ok (.aload_n 0, 1) := by decide +kernel
theorem d_X11_init_129 : decode prog_1_method_1_code 129 = .ok (.new 41, 3) := by decide +kernel
theorem d_X11_init_132 : decode prog_1_method_1_code 132 = .ok (.dup, 1) := by decide +kernel
theorem d_X11_init_133 : decode prog_1_method_1_code 133 = .ok (.bipush 20, 2) := by decide +kernel
theorem d_X11_init_135 : decode prog_1_method_1_code 135 = .ok (.invokespecial 43, 3) := by decide +kernel
theorem d_X11_init_138 : decode prog_1_method_1_code 138 = .ok (.putfield 75, 3) := by decide +kernel
theorem d_X11_init_141 : decode prog_1_method_1_code 141 = .ok (.aload_n 0, 1) := by decide +kernel
theorem d_X11_init_142 : decode prog_1_method_1_code 142 = .ok (.new 41, 3) := by decide +kernel
theorem d_X11_init_145 : decode prog_1_method_1_code 145 = .ok (.dup, 1) := by decide +kernel
theorem d_X11_init_146 : decode prog_1_method_1_code 146 = .ok (.iconst 2, 1) := by decide +kernel
theorem d_X11_init_147 : decode prog_1_method_1_code 147 = .ok (.invokespecial 43, 3) := by decide +kernel
theorem d_X11_init_150 : decode prog_1_method_1_code 150 = .ok (.putfield 78, 3) := by decide +kernel
theorem d_X11_init_153 : decode prog_1_method_1_code 153 = .ok (.aload_n 0, 1) := by decide +kernel
theorem d_X11_init_154 : decode prog_1_method_1_code 154 = .ok (.bipush 48, 2) := by decide +kernel
theorem d_X11_init_156 : decode prog_1_method_1_code 156 = .ok (.newarray .int, 2) := by decide +kernel
theorem d_X11_init_158 : decode prog_1_method_1_code 158 = .ok (.putfield 81, 3) := by decide +kernel
theorem d_X11_init_161 : decode prog_1_method_1_code 161 = .ok (.iconst 0, 1) := by decide +kernel
theorem d_X11_init_162 : decode prog_1_method_1_code 162 = .ok (.istore_n 1, 1) := by decide +kernel
theorem d_X11_init_163 : decode prog_1_method_1_code 163 = .ok (.iload_n 1, 1) := by decide +kernel
theorem d_X11_init_164 : decode prog_1_method_1_code 164 = .ok (.iconst 5, 1) := by decide +kernel
theorem d_X11_init_165 : decode prog_1_method_1_code 165 = .ok (.if_icmp .ge 22, 3) := by decide +kernel
theorem d_X11_init_168 : decode prog_1_method_1_code 168 = .ok (.aload_n 0, 1) := by decide +kernel
theorem d_X11_init_169 : decode prog_1_method_1_code 169 = .ok (.getfield 34, 3) := by decide +kernel
theorem d_X11_init_172 : decode prog_1_method_1_code 172 = .ok (.iload_n 1, 1) := by decide +kernel
theorem d_X11_init_173 : decode prog_1_method_1_code 173 = .ok (.new 27, 3) := by decide +kernel
theorem d_X11_init_176 : decode prog_1_method_1_code 176 = .ok (.dup, 1) := by decide +kernel
theorem d_X11_init_177 : decode prog_1_method_1_code 177 = .ok (.invokespecial 29, 3) := by decide +kernel
theorem d_X11_init_180 : decode prog_1_method_1_code 180 = .ok (.aastore, 1) := by decide +kernel
theorem d_X11_init_181 : decode prog_1_method_1_code 181 = .ok (.iinc 1 1, 3) := by decide +kernel
theorem d_X11_init_184 : decode prog_1_method_1_code 184 = .ok (.goto (-21), 3) := by decide +kernel
theorem d_X11_init_187 : decode prog_1_method_1_code 187 = .ok (.return_, 1) := by decide +kernel
theorem kw_26 : (Jvm.Cond.methodLink "FrostBids" (3 : Nat) ({ cls := "java/lang/Object", name := "<init>", desc := "()V" } : Jvm.MethodName)) ∈ lw_tbl := fm_t1 (List.mem_of_getElem? (i := 26) (by decide +kernel))
theorem kw_27 : (Jvm.Cond.instanceMethod ({ cls := "java/lang/Object", name := "<init>", desc := "()V" } : Jvm.MethodName)) ∈ lw_tbl := fm_t1 (List.mem_of_getElem? (i := 27) (by decide +kernel))
theorem kw_28 : (Jvm.Cond.code ({ cls := "java/lang/Object", name := "<init>", desc := "()V" } : Jvm.MethodName) object_method_1_code (1 : Nat) (Option.none : Option Jvm.ClassFile.FieldType)) ∈ lw_tbl := fm_t1 (List.mem_of_getElem? (i := 28) (rfl))
theorem kw_29 : (Jvm.Cond.classLink "FrostBids" (11 : Nat) "FrostBids$Pane") ∈ lw_tbl := fm_t1 (List.mem_of_getElem? (i := 29) (by decide +kernel))
theorem kw_31 : (Jvm.Cond.classLink "FrostBids" (17 : Nat) "FrostBids$Course") ∈ lw_tbl := fm_t1 (List.mem_of_getElem? (i := 31) (by decide +kernel))
theorem kw_33 : (Jvm.Cond.classLink "FrostBids" (27 : Nat) "FrostBids$Town") ∈ lw_tbl := fm_t1 (List.mem_of_getElem? (i := 33) (by decide +kernel))
theorem kw_34 : (Jvm.Cond.instantiable "FrostBids$Town" (8 : Nat)) ∈ lw_tbl := fm_t1 (List.mem_of_getElem? (i := 34) (by decide +kernel))
theorem kw_35 : (Jvm.Cond.methodLink "FrostBids" (29 : Nat) ({ cls := "FrostBids$Town", name := "<init>", desc := "()V" } : Jvm.MethodName)) ∈ lw_tbl := fm_t1 (List.mem_of_getElem? (i := 35) (by decide +kernel))
theorem kw_36 : (Jvm.Cond.instanceMethod ({ cls := "FrostBids$Town", name := "<init>", desc := "()V" } : Jvm.MethodName)) ∈ lw_tbl := fm_t1 (List.mem_of_getElem? (i := 36) (by decide +kernel))
theorem kw_37 : (Jvm.Cond.code ({ cls := "FrostBids$Town", name := "<init>", desc := "()V" } : Jvm.MethodName) prog_12_method_1_code (1 : Nat) (Option.none : Option Jvm.ClassFile.FieldType)) ∈ lw_tbl := fm_t1 (List.mem_of_getElem? (i := 37) (rfl))
theorem kw_38 : (Jvm.Cond.methodLink "FrostBids$Town" (3 : Nat) ({ cls := "java/lang/Object", name := "<init>", desc := "()V" } : Jvm.MethodName)) ∈ lw_tbl := fm_t1 (List.mem_of_getElem? (i := 38) (by decide +kernel))
theorem kw_39 : (Jvm.Cond.methodLink "FrostBids$Town" (24 : Nat) ({ cls := "FrostBids$Town", name := "clear", desc := "()V" } : Jvm.MethodName)) ∈ lw_tbl := fm_t1 (List.mem_of_getElem? (i := 39) (by decide +kernel))
theorem kw_77 : (Jvm.Cond.arrayClass Jvm.ClassFile.FieldType.int) ∈ lw_tbl := fm_t1 (List.mem_of_getElem? (i := 77) (by decide +kernel))
theorem kw_79 : (Jvm.Cond.classLink "FrostBids" (41 : Nat) "FrostBids$Rows") ∈ lw_tbl := fm_t1 (List.mem_of_getElem? (i := 79) (by decide +kernel))
theorem kw_80 : (Jvm.Cond.instantiable "FrostBids$Rows" (5 : Nat)) ∈ lw_tbl := fm_t1 (List.mem_of_getElem? (i := 80) (by decide +kernel))
theorem kw_81 : (Jvm.Cond.methodLink "FrostBids" (43 : Nat) ({ cls := "FrostBids$Rows", name := "<init>", desc := "(I)V" } : Jvm.MethodName)) ∈ lw_tbl := fm_t1 (List.mem_of_getElem? (i := 81) (by decide +kernel))
theorem kw_82 : (Jvm.Cond.instanceMethod ({ cls := "FrostBids$Rows", name := "<init>", desc := "(I)V" } : Jvm.MethodName)) ∈ lw_tbl := fm_t1 (List.mem_of_getElem? (i := 82) (by decide +kernel))
theorem kw_83 : (Jvm.Cond.code ({ cls := "FrostBids$Rows", name := "<init>", desc := "(I)V" } : Jvm.MethodName) prog_10_method_1_code (2 : Nat) (Option.none : Option Jvm.ClassFile.FieldType)) ∈ lw_tbl := fm_t1 (List.mem_of_getElem? (i := 83) (rfl))
theorem kw_84 : (Jvm.Cond.methodLink "FrostBids$Rows" (3 : Nat) ({ cls := "java/lang/Object", name := "<init>", desc := "()V" } : Jvm.MethodName)) ∈ lw_tbl := fm_t1 (List.mem_of_getElem? (i := 84) (by decide +kernel))
theorem kw_85 : (Jvm.Cond.methodLink "FrostBids$Rows" (18 : Nat) ({ cls := "java/lang/Math", name := "max", desc := "(II)I" } : Jvm.MethodName)) ∈ lw_tbl := fm_t1 (List.mem_of_getElem? (i := 85) (by decide +kernel))
theorem kw_105 : (Jvm.Cond.classLink "FrostBids" (50 : Nat) "FrostBids$Reader") ∈ lw_tbl := fm_t1 (List.mem_of_getElem? (i := 105) (by decide +kernel))
theorem kw_106 : (Jvm.Cond.instantiable "FrostBids$Reader" (4 : Nat)) ∈ lw_tbl := fm_t1 (List.mem_of_getElem? (i := 106) (by decide +kernel))
theorem kw_108 : (Jvm.Cond.instanceMethod ({ cls := "FrostBids$Reader", name := "<init>", desc := "()V" } : Jvm.MethodName)) ∈ lw_tbl := fm_t1 (List.mem_of_getElem? (i := 108) (by decide +kernel))
theorem kw_109 : (Jvm.Cond.code ({ cls := "FrostBids$Reader", name := "<init>", desc := "()V" } : Jvm.MethodName) prog_8_method_1_code (1 : Nat) (Option.none : Option Jvm.ClassFile.FieldType)) ∈ lw_tbl := fm_t1 (List.mem_of_getElem? (i := 109) (rfl))
theorem kw_110 : (Jvm.Cond.methodLink "FrostBids$Reader" (3 : Nat) ({ cls := "java/lang/Object", name := "<init>", desc := "()V" } : Jvm.MethodName)) ∈ lw_tbl := fm_t1 (List.mem_of_getElem? (i := 110) (by decide +kernel))
theorem kw_111 : (Jvm.Cond.classLink "FrostBids$Reader" (15 : Nat) "FrostBids$Town") ∈ lw_tbl := fm_t1 (List.mem_of_getElem? (i := 111) (by decide +kernel))
theorem kw_112 : (Jvm.Cond.methodLink "FrostBids$Reader" (17 : Nat) ({ cls := "FrostBids$Town", name := "<init>", desc := "()V" } : Jvm.MethodName)) ∈ lw_tbl := fm_t1 (List.mem_of_getElem? (i := 112) (by decide +kernel))
theorem kw_331 : (Jvm.Cond.instanceMethod ({ cls := "FrostBids$Kitchen", name := "<init>", desc := "(IIIILFrostBids$Rows;)V" } : Jvm.MethodName)) ∈ lw_tbl := fm_t2 (List.mem_of_getElem? (i := 91) (by decide +kernel))
theorem kw_332 : (Jvm.Cond.code ({ cls := "FrostBids$Kitchen", name := "<init>", desc := "(IIIILFrostBids$Rows;)V" } : Jvm.MethodName) prog_5_method_1_code (6 : Nat) (Option.none : Option Jvm.ClassFile.FieldType)) ∈ lw_tbl := fm_t2 (List.mem_of_getElem? (i := 92) (rfl))
theorem kw_333 : (Jvm.Cond.methodLink "FrostBids$Kitchen" (1 : Nat) ({ cls := "FrostBids$Pane", name := "<init>", desc := "(IIIILFrostBids$Rows;)V" } : Jvm.MethodName)) ∈ lw_tbl := fm_t2 (List.mem_of_getElem? (i := 93) (by decide +kernel))
theorem kw_334 : (Jvm.Cond.instanceMethod ({ cls := "FrostBids$Pane", name := "<init>", desc := "(IIIILFrostBids$Rows;)V" } : Jvm.MethodName)) ∈ lw_tbl := fm_t2 (List.mem_of_getElem? (i := 94) (by decide +kernel))
theorem kw_335 : (Jvm.Cond.code ({ cls := "FrostBids$Pane", name := "<init>", desc := "(IIIILFrostBids$Rows;)V" } : Jvm.MethodName) prog_7_method_1_code (6 : Nat) (Option.none : Option Jvm.ClassFile.FieldType)) ∈ lw_tbl := fm_t2 (List.mem_of_getElem? (i := 95) (rfl))
theorem kw_336 : (Jvm.Cond.methodLink "FrostBids$Pane" (1 : Nat) ({ cls := "java/lang/Object", name := "<init>", desc := "()V" } : Jvm.MethodName)) ∈ lw_tbl := fm_t2 (List.mem_of_getElem? (i := 96) (by decide +kernel))
theorem kw_337 : (Jvm.Cond.fieldLink "FrostBids$Pane" (26 : Nat) "FrostBids$Pane" "kind" "I") ∈ lw_tbl := fm_t2 (List.mem_of_getElem? (i := 97) (by decide +kernel))
theorem kw_398 : (Jvm.Cond.instanceMethod ({ cls := "FrostBids$Nursery", name := "<init>", desc := "(IIIILFrostBids$Rows;)V" } : Jvm.MethodName)) ∈ lw_tbl := fm_t2 (List.mem_of_getElem? (i := 158) (by decide +kernel))
theorem kw_399 : (Jvm.Cond.code ({ cls := "FrostBids$Nursery", name := "<init>", desc := "(IIIILFrostBids$Rows;)V" } : Jvm.MethodName) prog_6_method_1_code (6 : Nat) (Option.none : Option Jvm.ClassFile.FieldType)) ∈ lw_tbl := fm_t2 (List.mem_of_getElem? (i := 159) (rfl))
theorem kw_400 : (Jvm.Cond.methodLink "FrostBids$Nursery" (1 : Nat) ({ cls := "FrostBids$Pane", name := "<init>", desc := "(IIIILFrostBids$Rows;)V" } : Jvm.MethodName)) ∈ lw_tbl := fm_t2 (List.mem_of_getElem? (i := 160) (by decide +kernel))
theorem kw_415 : (Jvm.Cond.instanceMethod ({ cls := "FrostBids$Rectory", name := "<init>", desc := "(IIIILFrostBids$Rows;)V" } : Jvm.MethodName)) ∈ lw_tbl := fm_t2 (List.mem_of_getElem? (i := 175) (by decide +kernel))
theorem kw_416 : (Jvm.Cond.code ({ cls := "FrostBids$Rectory", name := "<init>", desc := "(IIIILFrostBids$Rows;)V" } : Jvm.MethodName) prog_9_method_1_code (6 : Nat) (Option.none : Option Jvm.ClassFile.FieldType)) ∈ lw_tbl := fm_t2 (List.mem_of_getElem? (i := 176) (rfl))
theorem kw_417 : (Jvm.Cond.methodLink "FrostBids$Rectory" (1 : Nat) ({ cls := "FrostBids$Pane", name := "<init>", desc := "(IIIILFrostBids$Rows;)V" } : Jvm.MethodName)) ∈ lw_tbl := fm_t2 (List.mem_of_getElem? (i := 177) (by decide +kernel))
theorem kw_434 : (Jvm.Cond.methodLink "FrostBids$Jail" (1 : Nat) ({ cls := "FrostBids$Kitchen", name := "<init>", desc := "(IIIILFrostBids$Rows;)V" } : Jvm.MethodName)) ∈ lw_tbl := fm_t2 (List.mem_of_getElem? (i := 194) (by decide +kernel))
theorem kw_451 : (Jvm.Cond.methodLink "FrostBids$Church" (1 : Nat) ({ cls := "FrostBids$Nursery", name := "<init>", desc := "(IIIILFrostBids$Rows;)V" } : Jvm.MethodName)) ∈ lw_tbl := fm_t2 (List.mem_of_getElem? (i := 211) (by decide +kernel))
theorem kw_468 : (Jvm.Cond.methodLink "FrostBids$Told" (1 : Nat) ({ cls := "FrostBids$Rectory", name := "<init>", desc := "(IIIILFrostBids$Rows;)V" } : Jvm.MethodName)) ∈ lw_tbl := fm_t2 (List.mem_of_getElem? (i := 228) (by decide +kernel))
theorem kw_503 : (Jvm.Cond.methodLink "FrostBids$Course" (3 : Nat) ({ cls := "java/lang/Object", name := "<init>", desc := "()V" } : Jvm.MethodName)) ∈ lw_tbl := fm_t3 (List.mem_of_getElem? (i := 23) (by decide +kernel))
theorem kw_935 : (Jvm.Cond.methodLink "FrostBidsModel" (3 : Nat) ({ cls := "java/lang/Object", name := "<init>", desc := "()V" } : Jvm.MethodName)) ∈ lw_tbl := fm_t4 (List.mem_of_getElem? (i := 215) (by decide +kernel))
theorem kw_999 : (Jvm.Cond.arrayClass Jvm.ClassFile.FieldType.boolean) ∈ lw_tbl := fm_t5 (List.mem_of_getElem? (i := 39) (by decide +kernel))
theorem mf_X10_27_10 : fm_fl "FrostBids$Town" 27 10 0 := ⟨by decide, "FrostBids$Town", kw_43, Or.inl rfl⟩
theorem mf_X10_31_10 : fm_fl "FrostBids$Town" 31 10 1 := ⟨by decide, "FrostBids$Town", kw_46, Or.inl rfl⟩
theorem mf_X10_34_10 : fm_fl "FrostBids$Town" 34 10 2 := ⟨by decide, "FrostBids$Town", kw_49, Or.inl rfl⟩
theorem mf_X10_37_10 : fm_fl "FrostBids$Town" 37 10 5 := ⟨by decide, "FrostBids$Town", kw_55, Or.inl rfl⟩
theorem mf_X10_9_10 : fm_fl "FrostBids$Town" 9 10 3 := ⟨by decide, "FrostBids$Town", kw_51, Or.inl rfl⟩
theorem mf_X10_15_10 : fm_fl "FrostBids$Town" 15 10 4 := ⟨by decide, "FrostBids$Town", kw_53, Or.inl rfl⟩
theorem mf_X10_18_10 : fm_fl "FrostBids$Town" 18 10 6 := ⟨by decide, "FrostBids$Town", kw_56, Or.inl rfl⟩
theorem mf_X10_21_10 : fm_fl "FrostBids$Town" 21 10 7 := ⟨by decide, "FrostBids$Town", kw_58, Or.inl rfl⟩
theorem mf_X8_9_8 : fm_fl "FrostBids$Rows" 9 8 3 := ⟨by decide, "FrostBids$Rows", kw_91, Or.inl rfl⟩
theorem mf_X8_15_8 : fm_fl "FrostBids$Rows" 15 8 4 := ⟨by decide, "FrostBids$Rows", kw_93, Or.inl rfl⟩
theorem mf_X8_24_8 : fm_fl "FrostBids$Rows" 24 8 0 := ⟨by decide, "FrostBids$Rows", kw_88, Or.inl rfl⟩
theorem mf_X8_27_8 : fm_fl "FrostBids$Rows" 27 8 1 := ⟨by decide, "FrostBids$Rows", kw_89, Or.inl rfl⟩
theorem mf_X8_31_8 : fm_fl "FrostBids$Rows" 31 8 2 := ⟨by decide, "FrostBids$Rows", kw_90, Or.inl rfl⟩
theorem mf_X6_9_6 : fm_fl "FrostBids$Reader" 9 6 0 := ⟨by decide, "FrostBids$Reader", kw_113, Or.inl rfl⟩
theorem mf_X6_18_6 : fm_fl "FrostBids$Reader" 18 6 1 := ⟨by decide, "FrostBids$Reader", kw_114, Or.inl rfl⟩
theorem mf_X6_22_6 : fm_fl "FrostBids$Reader" 22 6 2 := ⟨by decide, "FrostBids$Reader", kw_115, Or.inl rfl⟩
theorem mf_X6_26_6 : fm_fl "FrostBids$Reader" 26 6 3 := ⟨by decide, "FrostBids$Reader", kw_116, Or.inl rfl⟩
theorem mf_X5_7_5 : fm_fl "FrostBids$Pane" 7 5 4 := ⟨by decide, "FrostBids$Pane", kw_352, Or.inl rfl⟩
theorem mf_X5_13_5 : fm_fl "FrostBids$Pane" 13 5 5 := ⟨by decide, "FrostBids$Pane", kw_355, Or.inl rfl⟩
theorem mf_X5_17_5 : fm_fl "FrostBids$Pane" 17 5 6 := ⟨by decide, "FrostBids$Pane", kw_358, Or.inl rfl⟩
theorem mf_X5_20_5 : fm_fl "FrostBids$Pane" 20 5 7 := ⟨by decide, "FrostBids$Pane", kw_359, Or.inl rfl⟩
theorem mf_X5_23_5 : fm_fl "FrostBids$Pane" 23 5 8 := ⟨by decide, "FrostBids$Pane", kw_360, Or.inl rfl⟩
theorem mf_X5_26_5 : fm_fl "FrostBids$Pane" 26 5 0 := ⟨by decide, "FrostBids$Pane", kw_337, Or.inl rfl⟩
theorem mf_X5_29_5 : fm_fl "FrostBids$Pane" 29 5 1 := ⟨by decide, "FrostBids$Pane", kw_340, Or.inl rfl⟩
theorem mf_X5_32_5 : fm_fl "FrostBids$Pane" 32 5 2 := ⟨by decide, "FrostBids$Pane", kw_344, Or.inl rfl⟩
theorem mf_X5_35_5 : fm_fl "FrostBids$Pane" 35 5 3 := ⟨by decide, "FrostBids$Pane", kw_349, Or.inl rfl⟩
theorem mf_X5_38_5 : fm_fl "FrostBids$Pane" 38 5 9 := ⟨by decide, "FrostBids$Pane", kw_361, Or.inl rfl⟩
theorem mf_X5_7_3 : fm_fl "FrostBids$Pane" 7 3 4 := ⟨by decide, "FrostBids$Pane", kw_352, Or.inl rfl⟩
theorem mf_X5_13_3 : fm_fl "FrostBids$Pane" 13 3 5 := ⟨by decide, "FrostBids$Pane", kw_355, Or.inl rfl⟩
theorem mf_X5_17_3 : fm_fl "FrostBids$Pane" 17 3 6 := ⟨by decide, "FrostBids$Pane", kw_358, Or.inl rfl⟩
theorem mf_X5_20_3 : fm_fl "FrostBids$Pane" 20 3 7 := ⟨by decide, "FrostBids$Pane", kw_359, Or.inl rfl⟩
theorem mf_X5_23_3 : fm_fl "FrostBids$Pane" 23 3 8 := ⟨by decide, "FrostBids$Pane", kw_360, Or.inl rfl⟩
theorem mf_X5_26_3 : fm_fl "FrostBids$Pane" 26 3 0 := ⟨by decide, "FrostBids$Pane", kw_337, Or.inl rfl⟩
theorem mf_X5_29_3 : fm_fl "FrostBids$Pane" 29 3 1 := ⟨by decide, "FrostBids$Pane", kw_340, Or.inl rfl⟩
theorem mf_X5_32_3 : fm_fl "FrostBids$Pane" 32 3 2 := ⟨by decide, "FrostBids$Pane", kw_344, Or.inl rfl⟩
theorem mf_X5_35_3 : fm_fl "FrostBids$Pane" 35 3 3 := ⟨by decide, "FrostBids$Pane", kw_349, Or.inl rfl⟩
theorem mf_X5_38_3 : fm_fl "FrostBids$Pane" 38 3 9 := ⟨by decide, "FrostBids$Pane", kw_361, Or.inl rfl⟩
theorem mf_X5_7_4 : fm_fl "FrostBids$Pane" 7 4 4 := ⟨by decide, "FrostBids$Pane", kw_352, Or.inl rfl⟩
theorem mf_X5_13_4 : fm_fl "FrostBids$Pane" 13 4 5 := ⟨by decide, "FrostBids$Pane", kw_355, Or.inl rfl⟩
theorem mf_X5_17_4 : fm_fl "FrostBids$Pane" 17 4 6 := ⟨by decide, "FrostBids$Pane", kw_358, Or.inl rfl⟩
theorem mf_X5_20_4 : fm_fl "FrostBids$Pane" 20 4 7 := ⟨by decide, "FrostBids$Pane", kw_359, Or.inl rfl⟩
theorem mf_X5_23_4 : fm_fl "FrostBids$Pane" 23 4 8 := ⟨by decide, "FrostBids$Pane", kw_360, Or.inl rfl⟩
theorem mf_X5_26_4 : fm_fl "FrostBids$Pane" 26 4 0 := ⟨by decide, "FrostBids$Pane", kw_337, Or.inl rfl⟩
theorem mf_X5_29_4 : fm_fl "FrostBids$Pane" 29 4 1 := ⟨by decide, "FrostBids$Pane", kw_340, Or.inl rfl⟩
theorem mf_X5_32_4 : fm_fl "FrostBids$Pane" 32 4 2 := ⟨by decide, "FrostBids$Pane", kw_344, Or.inl rfl⟩
theorem mf_X5_35_4 : fm_fl "FrostBids$Pane" 35 4 3 := ⟨by decide, "FrostBids$Pane", kw_349, Or.inl rfl⟩
theorem mf_X5_38_4 : fm_fl "FrostBids$Pane" 38 4 9 := ⟨by decide, "FrostBids$Pane", kw_361, Or.inl rfl⟩
theorem mf_X5_7_7 : fm_fl "FrostBids$Pane" 7 7 4 := ⟨by decide, "FrostBids$Pane", kw_352, Or.inl rfl⟩
theorem mf_X5_13_7 : fm_fl "FrostBids$Pane" 13 7 5 := ⟨by decide, "FrostBids$Pane", kw_355, Or.inl rfl⟩
theorem mf_X5_17_7 : fm_fl "FrostBids$Pane" 17 7 6 := ⟨by decide, "FrostBids$Pane", kw_358, Or.inl rfl⟩
theorem mf_X5_20_7 : fm_fl "FrostBids$Pane" 20 7 7 := ⟨by decide, "FrostBids$Pane", kw_359, Or.inl rfl⟩
theorem mf_X5_23_7 : fm_fl "FrostBids$Pane" 23 7 8 := ⟨by decide, "FrostBids$Pane", kw_360, Or.inl rfl⟩
theorem mf_X5_26_7 : fm_fl "FrostBids$Pane" 26 7 0 := ⟨by decide, "FrostBids$Pane", kw_337, Or.inl rfl⟩
theorem mf_X5_29_7 : fm_fl "FrostBids$Pane" 29 7 1 := ⟨by decide, "FrostBids$Pane", kw_340, Or.inl rfl⟩
theorem mf_X5_32_7 : fm_fl "FrostBids$Pane" 32 7 2 := ⟨by decide, "FrostBids$Pane", kw_344, Or.inl rfl⟩
theorem mf_X5_35_7 : fm_fl "FrostBids$Pane" 35 7 3 := ⟨by decide, "FrostBids$Pane", kw_349, Or.inl rfl⟩
theorem mf_X5_38_7 : fm_fl "FrostBids$Pane" 38 7 9 := ⟨by decide, "FrostBids$Pane", kw_361, Or.inl rfl⟩
theorem mf_X5_7_2 : fm_fl "FrostBids$Pane" 7 2 4 := ⟨by decide, "FrostBids$Pane", kw_352, Or.inl rfl⟩
theorem mf_X5_13_2 : fm_fl "FrostBids$Pane" 13 2 5 := ⟨by decide, "FrostBids$Pane", kw_355, Or.inl rfl⟩
theorem mf_X5_17_2 : fm_fl "FrostBids$Pane" 17 2 6 := ⟨by decide, "FrostBids$Pane", kw_358, Or.inl rfl⟩
theorem mf_X5_20_2 : fm_fl "FrostBids$Pane" 20 2 7 := ⟨by decide, "FrostBids$Pane", kw_359, Or.inl rfl⟩
theorem mf_X5_23_2 : fm_fl "FrostBids$Pane" 23 2 8 := ⟨by decide, "FrostBids$Pane", kw_360, Or.inl rfl⟩
theorem mf_X5_26_2 : fm_fl "FrostBids$Pane" 26 2 0 := ⟨by decide, "FrostBids$Pane", kw_337, Or.inl rfl⟩
theorem mf_X5_29_2 : fm_fl "FrostBids$Pane" 29 2 1 := ⟨by decide, "FrostBids$Pane", kw_340, Or.inl rfl⟩
theorem mf_X5_32_2 : fm_fl "FrostBids$Pane" 32 2 2 := ⟨by decide, "FrostBids$Pane", kw_344, Or.inl rfl⟩
theorem mf_X5_35_2 : fm_fl "FrostBids$Pane" 35 2 3 := ⟨by decide, "FrostBids$Pane", kw_349, Or.inl rfl⟩
theorem mf_X5_38_2 : fm_fl "FrostBids$Pane" 38 2 9 := ⟨by decide, "FrostBids$Pane", kw_361, Or.inl rfl⟩
theorem mf_X5_7_0 : fm_fl "FrostBids$Pane" 7 0 4 := ⟨by decide, "FrostBids$Pane", kw_352, Or.inl rfl⟩
theorem mf_X5_13_0 : fm_fl "FrostBids$Pane" 13 0 5 := ⟨by decide, "FrostBids$Pane", kw_355, Or.inl rfl⟩
theorem mf_X5_17_0 : fm_fl "FrostBids$Pane" 17 0 6 := ⟨by decide, "FrostBids$Pane", kw_358, Or.inl rfl⟩
theorem mf_X5_20_0 : fm_fl "FrostBids$Pane" 20 0 7 := ⟨by decide, "FrostBids$Pane", kw_359, Or.inl rfl⟩
theorem mf_X5_23_0 : fm_fl "FrostBids$Pane" 23 0 8 := ⟨by decide, "FrostBids$Pane", kw_360, Or.inl rfl⟩
theorem mf_X5_26_0 : fm_fl "FrostBids$Pane" 26 0 0 := ⟨by decide, "FrostBids$Pane", kw_337, Or.inl rfl⟩
theorem mf_X5_29_0 : fm_fl "FrostBids$Pane" 29 0 1 := ⟨by decide, "FrostBids$Pane", kw_340, Or.inl rfl⟩
theorem mf_X5_32_0 : fm_fl "FrostBids$Pane" 32 0 2 := ⟨by decide, "FrostBids$Pane", kw_344, Or.inl rfl⟩
theorem mf_X5_35_0 : fm_fl "FrostBids$Pane" 35 0 3 := ⟨by decide, "FrostBids$Pane", kw_349, Or.inl rfl⟩
theorem mf_X5_38_0 : fm_fl "FrostBids$Pane" 38 0 9 := ⟨by decide, "FrostBids$Pane", kw_361, Or.inl rfl⟩
theorem mf_X5_7_9 : fm_fl "FrostBids$Pane" 7 9 4 := ⟨by decide, "FrostBids$Pane", kw_352, Or.inl rfl⟩
theorem mf_X5_13_9 : fm_fl "FrostBids$Pane" 13 9 5 := ⟨by decide, "FrostBids$Pane", kw_355, Or.inl rfl⟩
theorem mf_X5_17_9 : fm_fl "FrostBids$Pane" 17 9 6 := ⟨by decide, "FrostBids$Pane", kw_358, Or.inl rfl⟩
theorem mf_X5_20_9 : fm_fl "FrostBids$Pane" 20 9 7 := ⟨by decide, "FrostBids$Pane", kw_359, Or.inl rfl⟩
theorem mf_X5_23_9 : fm_fl "FrostBids$Pane" 23 9 8 := ⟨by decide, "FrostBids$Pane", kw_360, Or.inl rfl⟩
theorem mf_X5_26_9 : fm_fl "FrostBids$Pane" 26 9 0 := ⟨by decide, "FrostBids$Pane", kw_337, Or.inl rfl⟩
theorem mf_X5_29_9 : fm_fl "FrostBids$Pane" 29 9 1 := ⟨by decide, "FrostBids$Pane", kw_340, Or.inl rfl⟩
theorem mf_X5_32_9 : fm_fl "FrostBids$Pane" 32 9 2 := ⟨by decide, "FrostBids$Pane", kw_344, Or.inl rfl⟩
theorem mf_X5_35_9 : fm_fl "FrostBids$Pane" 35 9 3 := ⟨by decide, "FrostBids$Pane", kw_349, Or.inl rfl⟩
theorem mf_X5_38_9 : fm_fl "FrostBids$Pane" 38 9 9 := ⟨by decide, "FrostBids$Pane", kw_361, Or.inl rfl⟩
theorem mf_X9_9_9 : fm_fl "FrostBids$Told" 9 9 10 := ⟨by decide, "FrostBids$Told", kw_469, Or.inl rfl⟩
theorem mf_X9_13_9 : fm_fl "FrostBids$Told" 13 9 11 := ⟨by decide, "FrostBids$Told", kw_470, Or.inl rfl⟩
theorem mf_X1_9_1 : fm_fl "FrostBids$Course" 9 1 2 := ⟨by decide, "FrostBids$Course", kw_506, Or.inl rfl⟩
theorem mf_X1_15_1 : fm_fl "FrostBids$Course" 15 1 3 := ⟨by decide, "FrostBids$Course", kw_507, Or.inl rfl⟩
theorem mf_X1_18_1 : fm_fl "FrostBids$Course" 18 1 4 := ⟨by decide, "FrostBids$Course", kw_509, Or.inl rfl⟩
theorem mf_X1_21_1 : fm_fl "FrostBids$Course" 21 1 5 := ⟨by decide, "FrostBids$Course", kw_513, Or.inl rfl⟩
theorem mf_X1_24_1 : fm_fl "FrostBids$Course" 24 1 6 := ⟨by decide, "FrostBids$Course", kw_515, Or.inl rfl⟩
theorem mf_X1_27_1 : fm_fl "FrostBids$Course" 27 1 7 := ⟨by decide, "FrostBids$Course", kw_517, Or.inl rfl⟩
theorem mf_X1_31_1 : fm_fl "FrostBids$Course" 31 1 8 := ⟨by decide, "FrostBids$Course", kw_518, Or.inl rfl⟩
theorem mf_X1_35_1 : fm_fl "FrostBids$Course" 35 1 9 := ⟨by decide, "FrostBids$Course", kw_520, Or.inl rfl⟩
theorem mf_X1_38_1 : fm_fl "FrostBids$Course" 38 1 0 := ⟨by decide, "FrostBids$Course", kw_504, Or.inl rfl⟩
theorem mf_X1_42_1 : fm_fl "FrostBids$Course" 42 1 1 := ⟨by decide, "FrostBids$Course", kw_505, Or.inl rfl⟩
theorem mf_X12_9_12 : fm_fl "FrostBidsModel" 9 12 1 := ⟨by decide, "FrostBidsModel", kw_936, Or.inl rfl⟩
theorem mf_X12_15_12 : fm_fl "FrostBidsModel" 15 12 2 := ⟨by decide, "FrostBidsModel", kw_937, Or.inl rfl⟩
theorem mf_X12_18_12 : fm_fl "FrostBidsModel" 18 12 3 := ⟨by decide, "FrostBidsModel", kw_938, Or.inl rfl⟩
theorem mf_X12_21_12 : fm_fl "FrostBidsModel" 21 12 10 := ⟨by decide, "FrostBidsModel", kw_945, Or.inl rfl⟩
theorem mf_X12_24_12 : fm_fl "FrostBidsModel" 24 12 11 := ⟨by decide, "FrostBidsModel", kw_946, Or.inl rfl⟩
theorem mf_X12_28_12 : fm_fl "FrostBidsModel" 28 12 12 := ⟨by decide, "FrostBidsModel", kw_947, Or.inl rfl⟩
theorem mf_X12_31_12 : fm_fl "FrostBidsModel" 31 12 13 := ⟨by decide, "FrostBidsModel", kw_948, Or.inl rfl⟩
theorem mf_X12_34_12 : fm_fl "FrostBidsModel" 34 12 14 := ⟨by decide, "FrostBidsModel", kw_949, Or.inl rfl⟩
theorem mf_X12_37_12 : fm_fl "FrostBidsModel" 37 12 16 := ⟨by decide, "FrostBidsModel", kw_951, Or.inl rfl⟩
theorem mf_X11_13_11 : fm_fl "FrostBids" 13 11 0 := ⟨by decide, "FrostBids", kw_126, Or.inl rfl⟩
theorem mf_X11_19_11 : fm_fl "FrostBids" 19 11 1 := ⟨by decide, "FrostBids", kw_127, Or.inl rfl⟩
theorem mf_X11_23_11 : fm_fl "FrostBids" 23 11 2 := ⟨by decide, "FrostBids", kw_128, Or.inl rfl⟩
theorem mf_X11_30_11 : fm_fl "FrostBids" 30 11 3 := ⟨by decide, "FrostBids", kw_129, Or.inl rfl⟩
theorem mf_X11_34_11 : fm_fl "FrostBids" 34 11 4 := ⟨by decide, "FrostBids", kw_130, Or.inl rfl⟩
theorem mf_X11_38_11 : fm_fl "FrostBids" 38 11 5 := ⟨by decide, "FrostBids", kw_131, Or.inl rfl⟩
theorem mf_X11_46_11 : fm_fl "FrostBids" 46 11 6 := ⟨by decide, "FrostBids", kw_132, Or.inl rfl⟩
theorem mf_X11_53_11 : fm_fl "FrostBids" 53 11 7 := ⟨by decide, "FrostBids", kw_133, Or.inl rfl⟩
theorem mf_X11_57_11 : fm_fl "FrostBids" 57 11 8 := ⟨by decide, "FrostBids", kw_134, Or.inl rfl⟩
theorem mf_X11_60_11 : fm_fl "FrostBids" 60 11 9 := ⟨by decide, "FrostBids", kw_135, Or.inl rfl⟩
theorem mf_X11_63_11 : fm_fl "FrostBids" 63 11 10 := ⟨by decide, "FrostBids", kw_136, Or.inl rfl⟩
theorem mf_X11_66_11 : fm_fl "FrostBids" 66 11 11 := ⟨by decide, "FrostBids", kw_137, Or.inl rfl⟩
theorem mf_X11_69_11 : fm_fl "FrostBids" 69 11 12 := ⟨by decide, "FrostBids", kw_138, Or.inl rfl⟩
theorem mf_X11_72_11 : fm_fl "FrostBids" 72 11 13 := ⟨by decide, "FrostBids", kw_139, Or.inl rfl⟩
theorem mf_X11_75_11 : fm_fl "FrostBids" 75 11 14 := ⟨by decide, "FrostBids", kw_140, Or.inl rfl⟩
theorem mf_X11_78_11 : fm_fl "FrostBids" 78 11 15 := ⟨by decide, "FrostBids", kw_141, Or.inl rfl⟩
theorem mf_X11_81_11 : fm_fl "FrostBids" 81 11 16 := ⟨by decide, "FrostBids", kw_142, Or.inl rfl⟩
theorem yd_X3_init : y_X3_init.cls ≠ "java/lang/invoke/MethodHandle" ∧ y_X3_init.cls ≠ "java/lang/invoke/VarHandle" ∧ (parseMethodDescriptor y_X3_init.desc).map (fun d => d.parameters.length) = some 5 := by decide +kernel
theorem yd_X4_init : y_X4_init.cls ≠ "java/lang/invoke/MethodHandle" ∧ y_X4_init.cls ≠ "java/lang/invoke/VarHandle" ∧ (parseMethodDescriptor y_X4_init.desc).map (fun d => d.parameters.length) = some 5 := by decide +kernel
theorem yd_X5_init : y_X5_init.cls ≠ "java/lang/invoke/MethodHandle" ∧ y_X5_init.cls ≠ "java/lang/invoke/VarHandle" ∧ (parseMethodDescriptor y_X5_init.desc).map (fun d => d.parameters.length) = some 5 := by decide +kernel
theorem yd_X6_init : y_X6_init.cls ≠ "java/lang/invoke/MethodHandle" ∧ y_X6_init.cls ≠ "java/lang/invoke/VarHandle" ∧ (parseMethodDescriptor y_X6_init.desc).map (fun d => d.parameters.length) = some 0 := by decide +kernel
theorem yd_X7_init : y_X7_init.cls ≠ "java/lang/invoke/MethodHandle" ∧ y_X7_init.cls ≠ "java/lang/invoke/VarHandle" ∧ (parseMethodDescriptor y_X7_init.desc).map (fun d => d.parameters.length) = some 5 := by decide +kernel
theorem yd_X8_init : y_X8_init.cls ≠ "java/lang/invoke/MethodHandle" ∧ y_X8_init.cls ≠ "java/lang/invoke/VarHandle" ∧ (parseMethodDescriptor y_X8_init.desc).map (fun d => d.parameters.length) = some 1 := by decide +kernel
theorem yd_X10_init : y_X10_init.cls ≠ "java/lang/invoke/MethodHandle" ∧ y_X10_init.cls ≠ "java/lang/invoke/VarHandle" ∧ (parseMethodDescriptor y_X10_init.desc).map (fun d => d.parameters.length) = some 0 := by decide +kernel
theorem mn_6 : ∀ j, j < fm_N 6 → defaultValue (fm_ty 6 j) = vp_V [.null, .null, .int 0, .int 0] j := fun j hj => match j, hj with
  | 0, _ => rfl
  | 1, _ => rfl
  | 2, _ => rfl
  | 3, _ => rfl
  | j + 4, h => absurd h (by show ¬ (j + 4 < 4); omega)
theorem mn_8 : ∀ j, j < fm_N 8 → defaultValue (fm_ty 8 j) = vp_V [.int 0, .null, .null, .int 0, .int 0] j := fun j hj => match j, hj with
  | 0, _ => rfl
  | 1, _ => rfl
  | 2, _ => rfl
  | 3, _ => rfl
  | 4, _ => rfl
  | j + 5, h => absurd h (by show ¬ (j + 5 < 5); omega)
theorem mn_10 : ∀ j, j < fm_N 10 → defaultValue (fm_ty 10 j) = vp_V [.int 0, .int 0, .int 0, .null, .null, .int 0, .null, .null] j := fun j hj => match j, hj with
  | 0, _ => rfl
  | 1, _ => rfl
  | 2, _ => rfl
  | 3, _ => rfl
  | 4, _ => rfl
  | 5, _ => rfl
  | 6, _ => rfl
  | 7, _ => rfl
  | j + 8, h => absurd h (by show ¬ (j + 8 < 8); omega)
