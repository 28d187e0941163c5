theorem d_Ac_init_0 : decode b_Ac_init 0 = .ok (.aload_n 0, 1) := by decide +kernel
theorem d_Ac_init_1 : decode b_Ac_init 1 = .ok (.invokespecial 1, 3) := by decide +kernel
theorem d_Ac_init_4 : decode b_Ac_init 4 = .ok (.return_, 1) := by decide +kernel
theorem d_Ab_init_0 : decode b_Ab_init 0 = .ok (.aload_n 0, 1) := by decide +kernel
theorem d_Ab_init_1 : decode b_Ab_init 1 = .ok (.invokespecial 1, 3) := by decide +kernel
theorem d_Ab_init_4 : decode b_Ab_init 4 = .ok (.aload_n 0, 1) := by decide +kernel
theorem d_Ab_init_5 : decode b_Ab_init 5 = .ok (.iconst 0, 1) := by decide +kernel
theorem d_Ab_init_6 : decode b_Ab_init 6 = .ok (.putfield 7, 3) := by decide +kernel
theorem d_Ab_init_9 : decode b_Ab_init 9 = .ok (.return_, 1) := by decide +kernel
theorem d_A_init_0 : decode b_A_init 0 = .ok (.aload_n 0, 1) := by decide +kernel
theorem d_A_init_1 : decode b_A_init 1 = .ok (.invokespecial 1, 3) := by decide +kernel
theorem d_A_init_4 : decode b_A_init 4 = .ok (.aload_n 0, 1) := by decide +kernel
theorem d_A_init_5 : decode b_A_init 5 = .ok (.getstatic 39, 3) := by decide +kernel
theorem d_A_init_8 : decode b_A_init 8 = .ok (.putfield 9, 3) := by decide +kernel
theorem d_A_init_11 : decode b_A_init 11 = .ok (.return_, 1) := by decide +kernel
theorem d_Ar_fill0_0 : decode b_Ar_fill0 0 = .ok (.iconst 0, 1) := by decide +kernel
theorem d_Ar_fill0_1 : decode b_Ar_fill0 1 = .ok (.istore_n 3, 1) := by decide +kernel
theorem d_Ar_fill0_2 : decode b_Ar_fill0 2 = .ok (.aload_n 0, 1) := by decide +kernel
theorem d_Ar_fill0_3 : decode b_Ar_fill0 3 = .ok (.arraylength, 1) := by decide +kernel
theorem d_Ar_fill0_4 : decode b_Ar_fill0 4 = .ok (.istore 4, 2) := by decide +kernel
theorem d_Ar_fill0_6 : decode b_Ar_fill0 6 = .ok (.iload_n 3, 1) := by decide +kernel
theorem d_Ar_fill0_7 : decode b_Ar_fill0 7 = .ok (.iload 4, 2) := by decide +kernel
theorem d_Ar_fill0_9 : decode b_Ar_fill0 9 = .ok (.if_icmp .ge 13, 3) := by decide +kernel
theorem d_Ar_fill0_12 : decode b_Ar_fill0 12 = .ok (.aload_n 0, 1) := by decide +kernel
theorem d_Ar_fill0_13 : decode b_Ar_fill0 13 = .ok (.iload_n 3, 1) := by decide +kernel
theorem d_Ar_fill0_14 : decode b_Ar_fill0 14 = .ok (.lload_n 1, 1) := by decide +kernel
theorem d_Ar_fill0_15 : decode b_Ar_fill0 15 = .ok (.lastore, 1) := by decide +kernel
theorem d_Ar_fill0_16 : decode b_Ar_fill0 16 = .ok (.iinc 3 1, 3) := by decide +kernel
theorem d_Ar_fill0_19 : decode b_Ar_fill0 19 = .ok (.goto (-13), 3) := by decide +kernel
theorem d_Ar_fill0_22 : decode b_Ar_fill0 22 = .ok (.return_, 1) := by decide +kernel
theorem d_B_init_0 : decode b_B_init 0 = .ok (.aload_n 0, 1) := by decide +kernel
theorem d_B_init_1 : decode b_B_init 1 = .ok (.invokespecial 3, 3) := by decide +kernel
theorem d_B_init_4 : decode b_B_init 4 = .ok (.aload_n 0, 1) := by decide +kernel
theorem d_B_init_5 : decode b_B_init 5 = .ok (.bipush 32, 2) := by decide +kernel
theorem d_B_init_7 : decode b_B_init 7 = .ok (.newarray .long, 2) := by decide +kernel
theorem d_B_init_9 : decode b_B_init 9 = .ok (.putfield 9, 3) := by decide +kernel
theorem d_B_init_12 : decode b_B_init 12 = .ok (.aload_n 0, 1) := by decide +kernel
theorem d_B_init_13 : decode b_B_init 13 = .ok (.bipush 8, 2) := by decide +kernel
theorem d_B_init_15 : decode b_B_init 15 = .ok (.newarray .int, 2) := by decide +kernel
theorem d_B_init_17 : decode b_B_init 17 = .ok (.putfield 15, 3) := by decide +kernel
theorem d_B_init_20 : decode b_B_init 20 = .ok (.aload_n 0, 1) := by decide +kernel
theorem d_B_init_21 : decode b_B_init 21 = .ok (.getfield 9, 3) := by decide +kernel
theorem d_B_init_24 : decode b_B_init 24 = .ok (.ldc2_w 19, 3) := by decide +kernel
theorem d_B_init_27 : decode b_B_init 27 = .ok (.invokestatic 21, 3) := by decide +kernel
theorem d_B_init_30 : decode b_B_init 30 = .ok (.return_, 1) := by decide +kernel
theorem d_Ma_min_0 : decode b_Ma_min 0 = .ok (.iload_n 0, 1) := by decide +kernel
theorem d_Ma_min_1 : decode b_Ma_min 1 = .ok (.iload_n 1, 1) := by decide +kernel
theorem d_Ma_min_2 : decode b_Ma_min 2 = .ok (.if_icmp .gt 7, 3) := by decide +kernel
theorem d_Ma_min_5 : decode b_Ma_min 5 = .ok (.iload_n 0, 1) := by decide +kernel
theorem d_Ma_min_6 : decode b_Ma_min 6 = .ok (.goto 4, 3) := by decide +kernel
theorem d_Ma_min_9 : decode b_Ma_min 9 = .ok (.iload_n 1, 1) := by decide +kernel
theorem d_Ma_min_10 : decode b_Ma_min 10 = .ok (.ireturn, 1) := by decide +kernel
theorem d_Ma_max_0 : decode b_Ma_max 0 = .ok (.iload_n 0, 1) := by decide +kernel
theorem d_Ma_max_1 : decode b_Ma_max 1 = .ok (.iload_n 1, 1) := by decide +kernel
theorem d_Ma_max_2 : decode b_Ma_max 2 = .ok (.if_icmp .lt 7, 3) := by decide +kernel
theorem d_Ma_max_5 : decode b_Ma_max 5 = .ok (.iload_n 0, 1) := by decide +kernel
theorem d_Ma_max_6 : decode b_Ma_max 6 = .ok (.goto 4, 3) := by decide +kernel
theorem d_Ma_max_9 : decode b_Ma_max 9 = .ok (.iload_n 1, 1) := by decide +kernel
theorem d_Ma_max_10 : decode b_Ma_max 10 = .ok (.ireturn, 1) := by decide +kernel
theorem d_R_init_0 : decode b_R_init 0 = .ok (.aload_n 0, 1) := by decide +kernel
theorem d_R_init_1 : decode b_R_init 1 = .ok (.invokespecial 3, 3) := by decide +kernel
theorem d_R_init_4 : decode b_R_init 4 = .ok (.aload_n 0, 1) := by decide +kernel
theorem d_R_init_5 : decode b_R_init 5 = .ok (.new 9, 3) := by decide +kernel
theorem d_R_init_8 : decode b_R_init 8 = .ok (.dup, 1) := by decide +kernel
theorem d_R_init_9 : decode b_R_init 9 = .ok (.invokespecial 11, 3) := by decide +kernel
theorem d_R_init_12 : decode b_R_init 12 = .ok (.putfield 12, 3) := by decide +kernel
theorem d_R_init_15 : decode b_R_init 15 = .ok (.aload_n 0, 1) := by decide +kernel
theorem d_R_init_16 : decode b_R_init 16 = .ok (.new 9, 3) := by decide +kernel
theorem d_R_init_19 : decode b_R_init 19 = .ok (.dup, 1) := by decide +kernel
theorem d_R_init_20 : decode b_R_init 20 = .ok (.invokespecial 11, 3) := by decide +kernel
theorem d_R_init_23 : decode b_R_init 23 = .ok (.putfield 18, 3) := by decide +kernel
theorem d_R_init_26 : decode b_R_init 26 = .ok (.aload_n 0, 1) := by decide +kernel
theorem d_R_init_27 : decode b_R_init 27 = .ok (.bipush 6, 2) := by decide +kernel
theorem d_R_init_29 : decode b_R_init 29 = .ok (.newarray .int, 2) := by decide +kernel
theorem d_R_init_31 : decode b_R_init 31 = .ok (.putfield 21, 3) := by decide +kernel
theorem d_R_init_34 : decode b_R_init 34 = .ok (.aload_n 0, 1) := by decide +kernel
theorem d_R_init_35 : decode b_R_init 35 = .ok (.iconst (-1), 1) := by decide +kernel
theorem d_R_init_36 : decode b_R_init 36 = .ok (.putfield 25, 3) := by decide +kernel
theorem d_R_init_39 : decode b_R_init 39 = .ok (.aload_n 0, 1) := by decide +kernel
theorem d_R_init_40 : decode b_R_init 40 = .ok (.iconst 4, 1) := by decide +kernel
theorem d_R_init_41 : decode b_R_init 41 = .ok (.newarray .int, 2) := by decide +kernel
theorem d_R_init_43 : decode b_R_init 43 = .ok (.putfield 29, 3) := by decide +kernel
theorem d_R_init_46 : decode b_R_init 46 = .ok (.aload_n 0, 1) := by decide +kernel
theorem d_R_init_47 : decode b_R_init 47 = .ok (.iconst 0, 1) := by decide +kernel
theorem d_R_init_48 : decode b_R_init 48 = .ok (.putfield 32, 3) := by decide +kernel
theorem d_R_init_51 : decode b_R_init 51 = .ok (.aload_n 0, 1) := by decide +kernel
theorem d_R_init_52 : decode b_R_init 52 = .ok (.iconst 0, 1) := by decide +kernel
theorem d_R_init_53 : decode b_R_init 53 = .ok (.putfield 35, 3) := by decide +kernel
theorem d_R_init_56 : decode b_R_init 56 = .ok (.aload_n 0, 1) := by decide +kernel
theorem d_R_init_57 : decode b_R_init 57 = .ok (.iload_n 1, 1) := by decide +kernel
theorem d_R_init_58 : decode b_R_init 58 = .ok (.putfield 38, 3) := by decide +kernel
theorem d_R_init_61 : decode b_R_init 61 = .ok (.return_, 1) := by decide +kernel
theorem d_P_init_0 : decode b_P_init 0 = .ok (.aload_n 0, 1) := by decide +kernel
theorem d_P_init_1 : decode b_P_init 1 = .ok (.invokespecial 3, 3) := by decide +kernel
theorem d_P_init_4 : decode b_P_init 4 = .ok (.aload_n 0, 1) := by decide +kernel
theorem d_P_init_5 : decode b_P_init 5 = .ok (.new 9, 3) := by decide +kernel
theorem d_P_init_8 : decode b_P_init 8 = .ok (.dup, 1) := by decide +kernel
theorem d_P_init_9 : decode b_P_init 9 = .ok (.invokespecial 11, 3) := by decide +kernel
theorem d_P_init_12 : decode b_P_init 12 = .ok (.putfield 12, 3) := by decide +kernel
theorem d_P_init_15 : decode b_P_init 15 = .ok (.aload_n 0, 1) := by decide +kernel
theorem d_P_init_16 : decode b_P_init 16 = .ok (.iconst 0, 1) := by decide +kernel
theorem d_P_init_17 : decode b_P_init 17 = .ok (.putfield 18, 3) := by decide +kernel
theorem d_P_init_20 : decode b_P_init 20 = .ok (.aload_n 0, 1) := by decide +kernel
theorem d_P_init_21 : decode b_P_init 21 = .ok (.iconst 0, 1) := by decide +kernel
theorem d_P_init_22 : decode b_P_init 22 = .ok (.putfield 22, 3) := by decide +kernel
theorem d_P_init_25 : decode b_P_init 25 = .ok (.return_, 1) := by decide +kernel
theorem d_C_init_0 : decode b_C_init 0 = .ok (.aload_n 0, 1) := by decide +kernel
theorem d_C_init_1 : decode b_C_init 1 = .ok (.invokespecial 3, 3) := by decide +kernel
theorem d_C_init_4 : decode b_C_init 4 = .ok (.aload_n 0, 1) := by decide +kernel
theorem d_C_init_5 : decode b_C_init 5 = .ok (.iconst 0, 1) := by decide +kernel
theorem d_C_init_6 : decode b_C_init 6 = .ok (.putfield 9, 3) := by decide +kernel
theorem d_C_init_9 : decode b_C_init 9 = .ok (.aload_n 0, 1) := by decide +kernel
theorem d_C_init_10 : decode b_C_init 10 = .ok (.iconst 0, 1) := by decide +kernel
theorem d_C_init_11 : decode b_C_init 11 = .ok (.putfield 15, 3) := by decide +kernel
theorem d_C_init_14 : decode b_C_init 14 = .ok (.aload_n 0, 1) := by decide +kernel
theorem d_C_init_15 : decode b_C_init 15 = .ok (.iconst 0, 1) := by decide +kernel
theorem d_C_init_16 : decode b_C_init 16 = .ok (.putfield 18, 3) := by decide +kernel
theorem d_C_init_19 : decode b_C_init 19 = .ok (.aload_n 0, 1) := by decide +kernel
theorem d_C_init_20 : decode b_C_init 20 = .ok (.iconst 0, 1) := by decide +kernel
theorem d_C_init_21 : decode b_C_init 21 = .ok (.putfield 22, 3) := by decide +kernel
theorem d_C_init_24 : decode b_C_init 24 = .ok (.aload_n 0, 1) := by decide +kernel
theorem d_C_init_25 : decode b_C_init 25 = .ok (.iconst 0, 1) := by decide +kernel
theorem d_C_init_26 : decode b_C_init 26 = .ok (.putfield 25, 3) := by decide +kernel
theorem d_C_init_29 : decode b_C_init 29 = .ok (.aload_n 0, 1) := by decide +kernel
theorem d_C_init_30 : decode b_C_init 30 = .ok (.iconst 0, 1) := by decide +kernel
theorem d_C_init_31 : decode b_C_init 31 = .ok (.putfield 28, 3) := by decide +kernel
theorem d_C_init_34 : decode b_C_init 34 = .ok (.aload_n 0, 1) := by decide +kernel
theorem d_C_init_35 : decode b_C_init 35 = .ok (.iconst 4, 1) := by decide +kernel
theorem d_C_init_36 : decode b_C_init 36 = .ok (.newarray .int, 2) := by decide +kernel
theorem d_C_init_38 : decode b_C_init 38 = .ok (.putfield 31, 3) := by decide +kernel
theorem d_C_init_41 : decode b_C_init 41 = .ok (.return_, 1) := by decide +kernel
theorem d_Q_init_0 : decode b_Q_init 0 = .ok (.aload_n 0, 1) := by decide +kernel
theorem d_Q_init_1 : decode b_Q_init 1 = .ok (.invokespecial 1, 3) := by decide +kernel
theorem d_Q_init_4 : decode b_Q_init 4 = .ok (.aload_n 0, 1) := by decide +kernel
theorem d_Q_init_5 : decode b_Q_init 5 = .ok (.new 7, 3) := by decide +kernel
theorem d_Q_init_8 : decode b_Q_init 8 = .ok (.dup, 1) := by decide +kernel
theorem d_Q_init_9 : decode b_Q_init 9 = .ok (.invokespecial 9, 3) := by decide +kernel
theorem d_Q_init_12 : decode b_Q_init 12 = .ok (.putfield 10, 3) := by decide +kernel
theorem d_Q_init_15 : decode b_Q_init 15 = .ok (.aload_n 0, 1) := by decide +kernel
theorem d_Q_init_16 : decode b_Q_init 16 = .ok (.iconst 0, 1) := by decide +kernel
theorem d_Q_init_17 : decode b_Q_init 17 = .ok (.putfield 16, 3) := by decide +kernel
theorem d_Q_init_20 : decode b_Q_init 20 = .ok (.aload_n 0, 1) := by decide +kernel
theorem d_Q_init_21 : decode b_Q_init 21 = .ok (.iconst 0, 1) := by decide +kernel
theorem d_Q_init_22 : decode b_Q_init 22 = .ok (.putfield 20, 3) := by decide +kernel
theorem d_Q_init_25 : decode b_Q_init 25 = .ok (.aload_n 0, 1) := by decide +kernel
theorem d_Q_init_26 : decode b_Q_init 26 = .ok (.iconst 0, 1) := by decide +kernel
theorem d_Q_init_27 : decode b_Q_init 27 = .ok (.putfield 23, 3) := by decide +kernel
theorem d_Q_init_30 : decode b_Q_init 30 = .ok (.return_, 1) := by decide +kernel
theorem d_S_init_0 : decode b_S_init 0 = .ok (.aload_n 0, 1) := by decide +kernel
theorem d_S_init_1 : decode b_S_init 1 = .ok (.invokespecial 1, 3) := by decide +kernel
theorem d_S_init_4 : decode b_S_init 4 = .ok (.aload_n 0, 1) := by decide +kernel
theorem d_S_init_5 : decode b_S_init 5 = .ok (.bipush 6, 2) := by decide +kernel
theorem d_S_init_7 : decode b_S_init 7 = .ok (.anewarray 9, 3) := by decide +kernel
theorem d_S_init_10 : decode b_S_init 10 = .ok (.putfield 11, 3) := by decide +kernel
theorem d_S_init_13 : decode b_S_init 13 = .ok (.aload_n 0, 1) := by decide +kernel
theorem d_S_init_14 : decode b_S_init 14 = .ok (.aconst_null, 1) := by decide +kernel
theorem d_S_init_15 : decode b_S_init 15 = .ok (.putfield 15, 3) := by decide +kernel
theorem d_S_init_18 : decode b_S_init 18 = .ok (.aload_n 0, 1) := by decide +kernel
theorem d_S_init_19 : decode b_S_init 19 = .ok (.iconst 4, 1) := by decide +kernel
theorem d_S_init_20 : decode b_S_init 20 = .ok (.anewarray 19, 3) := by decide +kernel
theorem d_S_init_23 : decode b_S_init 23 = .ok (.putfield 21, 3) := by decide +kernel
theorem d_S_init_26 : decode b_S_init 26 = .ok (.aload_n 0, 1) := by decide +kernel
theorem d_S_init_27 : decode b_S_init 27 = .ok (.new 25, 3) := by decide +kernel
theorem d_S_init_30 : decode b_S_init 30 = .ok (.dup, 1) := by decide +kernel
theorem d_S_init_31 : decode b_S_init 31 = .ok (.invokespecial 27, 3) := by decide +kernel
theorem d_S_init_34 : decode b_S_init 34 = .ok (.putfield 28, 3) := by decide +kernel
theorem d_S_init_37 : decode b_S_init 37 = .ok (.aload_n 0, 1) := by decide +kernel
theorem d_S_init_38 : decode b_S_init 38 = .ok (.new 32, 3) := by decide +kernel
theorem d_S_init_41 : decode b_S_init 41 = .ok (.dup, 1) := by decide +kernel
theorem d_S_init_42 : decode b_S_init 42 = .ok (.invokespecial 34, 3) := by decide +kernel
theorem d_S_init_45 : decode b_S_init 45 = .ok (.putfield 35, 3) := by decide +kernel
theorem d_S_init_48 : decode b_S_init 48 = .ok (.aload_n 0, 1) := by decide +kernel
theorem d_S_init_49 : decode b_S_init 49 = .ok (.iconst 0, 1) := by decide +kernel
theorem d_S_init_50 : decode b_S_init 50 = .ok (.putfield 39, 3) := by decide +kernel
theorem d_S_init_53 : decode b_S_init 53 = .ok (.aload_n 0, 1) := by decide +kernel
theorem d_S_init_54 : decode b_S_init 54 = .ok (.new 32, 3) := by decide +kernel
theorem d_S_init_57 : decode b_S_init 57 = .ok (.dup, 1) := by decide +kernel
theorem d_S_init_58 : decode b_S_init 58 = .ok (.invokespecial 34, 3) := by decide +kernel
theorem d_S_init_61 : decode b_S_init 61 = .ok (.putfield 43, 3) := by decide +kernel
theorem d_S_init_64 : decode b_S_init 64 = .ok (.aload_n 0, 1) := by decide +kernel
theorem d_S_init_65 : decode b_S_init 65 = .ok (.iconst 0, 1) := by decide +kernel
theorem d_S_init_66 : decode b_S_init 66 = .ok (.putfield 46, 3) := by decide +kernel
theorem d_S_init_69 : decode b_S_init 69 = .ok (.aload_n 0, 1) := by decide +kernel
theorem d_S_init_70 : decode b_S_init 70 = .ok (.iconst 0, 1) := by decide +kernel
theorem d_S_init_71 : decode b_S_init 71 = .ok (.putfield 49, 3) := by decide +kernel
theorem d_S_init_74 : decode b_S_init 74 = .ok (.aload_n 0, 1) := by decide +kernel
theorem d_S_init_75 : decode b_S_init 75 = .ok (.iconst 0, 1) := by decide +kernel
theorem d_S_init_76 : decode b_S_init 76 = .ok (.putfield 52, 3) := by decide +kernel
theorem d_S_init_79 : decode b_S_init 79 = .ok (.aload_n 0, 1) := by decide +kernel
theorem d_S_init_80 : decode b_S_init 80 = .ok (.iconst 1, 1) := by decide +kernel
theorem d_S_init_81 : decode b_S_init 81 = .ok (.iconst 4, 1) := by decide +kernel
theorem d_S_init_82 : decode b_S_init 82 = .ok (.iload_n 1, 1) := by decide +kernel
theorem d_S_init_83 : decode b_S_init 83 = .ok (.invokestatic 55, 3) := by decide +kernel
theorem d_S_init_86 : decode b_S_init 86 = .ok (.invokestatic 61, 3) := by decide +kernel
theorem d_S_init_89 : decode b_S_init 89 = .ok (.putfield 64, 3) := by decide +kernel
theorem d_S_init_92 : decode b_S_init 92 = .ok (.aload_n 0, 1) := by decide +kernel
theorem d_S_init_93 : decode b_S_init 93 = .ok (.new 67, 3) := by decide +kernel
theorem d_S_init_96 : decode b_S_init 96 = .ok (.dup, 1) := by decide +kernel
theorem d_S_init_97 : decode b_S_init 97 = .ok (.aload_n 0, 1) := by decide +kernel
theorem d_S_init_98 : decode b_S_init 98 = .ok (.getfield 64, 3) := by decide +kernel
theorem d_S_init_101 : decode b_S_init 101 = .ok (.invokespecial 69, 3) := by decide +kernel
theorem d_S_init_104 : decode b_S_init 104 = .ok (.putfield 72, 3) := by decide +kernel
theorem d_S_init_107 : decode b_S_init 107 = .ok (.iconst 0, 1) := by decide +kernel
theorem d_S_init_108 : decode b_S_init 108 = .ok (.istore_n 2, 1) := by decide +kernel
theorem d_S_init_109 : decode b_S_init 109 = .ok (.iload_n 2, 1) := by decide +kernel
theorem d_S_init_110 : decode b_S_init 110 = .ok (.bipush 6, 2) := by decide +kernel
theorem d_S_init_112 : decode b_S_init 112 = .ok (.if_icmp .ge 22, 3) := by decide +kernel
theorem d_S_init_115 : decode b_S_init 115 = .ok (.aload_n 0, 1) := by decide +kernel
theorem d_S_init_116 : decode b_S_init 116 = .ok (.getfield 11, 3) := by decide +kernel
theorem d_S_init_119 : decode b_S_init 119 = .ok (.iload_n 2, 1) := by decide +kernel
theorem d_S_init_120 : decode b_S_init 120 = .ok (.new 9, 3) := by decide +kernel
theorem d_S_init_123 : decode b_S_init 123 = .ok (.dup, 1) := by decide +kernel
theorem d_S_init_124 : decode b_S_init 124 = .ok (.invokespecial 76, 3) := by decide +kernel
theorem d_S_init_127 : decode b_S_init 127 = .ok (.aastore, 1) := by decide +kernel
theorem d_S_init_128 : decode b_S_init 128 = .ok (.iinc 2 1, 3) := by decide +kernel
theorem d_S_init_131 : decode b_S_init 131 = .ok (.goto (-22), 3) := by decide +kernel
theorem d_S_init_134 : decode b_S_init 134 = .ok (.iconst 0, 1) := by decide +kernel
theorem d_S_init_135 : decode b_S_init 135 = .ok (.istore_n 2, 1) := by decide +kernel
theorem d_S_init_136 : decode b_S_init 136 = .ok (.iload_n 2, 1) := by decide +kernel
theorem d_S_init_137 : decode b_S_init 137 = .ok (.iconst 4, 1) := by decide +kernel
theorem d_S_init_138 : decode b_S_init 138 = .ok (.if_icmp .ge 22, 3) := by decide +kernel
theorem d_S_init_141 : decode b_S_init 141 = .ok (.aload_n 0, 1) := by decide +kernel
theorem d_S_init_142 : decode b_S_init 142 = .ok (.getfield 21, 3) := by decide +kernel
theorem d_S_init_145 : decode b_S_init 145 = .ok (.iload_n 2, 1) := by decide +kernel
theorem d_S_init_146 : decode b_S_init 146 = .ok (.new 19, 3) := by decide +kernel
theorem d_S_init_149 : decode b_S_init 149 = .ok (.dup, 1) := by decide +kernel
theorem d_S_init_150 : decode b_S_init 150 = .ok (.invokespecial 77, 3) := by decide +kernel
theorem d_S_init_153 : decode b_S_init 153 = .ok (.aastore, 1) := by decide +kernel
theorem d_S_init_154 : decode b_S_init 154 = .ok (.iinc 2 1, 3) := by decide +kernel
theorem d_S_init_157 : decode b_S_init 157 = .ok (.goto (-21), 3) := by decide +kernel
theorem d_S_init_160 : decode b_S_init 160 = .ok (.aload_n 0, 1) := by decide +kernel
theorem d_S_init_161 : decode b_S_init 161 = .ok (.aload_n 0, 1) := by decide +kernel
theorem d_S_init_162 : decode b_S_init 162 = .ok (.getfield 64, 3) := by decide +kernel
theorem d_S_init_165 : decode b_S_init 165 = .ok (.anewarray 78, 3) := by decide +kernel
theorem d_S_init_168 : decode b_S_init 168 = .ok (.putfield 80, 3) := by decide +kernel
theorem d_S_init_171 : decode b_S_init 171 = .ok (.iconst 0, 1) := by decide +kernel
theorem d_S_init_172 : decode b_S_init 172 = .ok (.istore_n 2, 1) := by decide +kernel
theorem d_S_init_173 : decode b_S_init 173 = .ok (.iload_n 2, 1) := by decide +kernel
theorem d_S_init_174 : decode b_S_init 174 = .ok (.aload_n 0, 1) := by decide +kernel
theorem d_S_init_175 : decode b_S_init 175 = .ok (.getfield 64, 3) := by decide +kernel
theorem d_S_init_178 : decode b_S_init 178 = .ok (.if_icmp .ge 22, 3) := by decide +kernel
theorem d_S_init_181 : decode b_S_init 181 = .ok (.aload_n 0, 1) := by decide +kernel
theorem d_S_init_182 : decode b_S_init 182 = .ok (.getfield 80, 3) := by decide +kernel
theorem d_S_init_185 : decode b_S_init 185 = .ok (.iload_n 2, 1) := by decide +kernel
theorem d_S_init_186 : decode b_S_init 186 = .ok (.new 78, 3) := by decide +kernel
theorem d_S_init_189 : decode b_S_init 189 = .ok (.dup, 1) := by decide +kernel
theorem d_S_init_190 : decode b_S_init 190 = .ok (.invokespecial 84, 3) := by decide +kernel
theorem d_S_init_193 : decode b_S_init 193 = .ok (.aastore, 1) := by decide +kernel
theorem d_S_init_194 : decode b_S_init 194 = .ok (.iinc 2 1, 3) := by decide +kernel
theorem d_S_init_197 : decode b_S_init 197 = .ok (.goto (-24), 3) := by decide +kernel
theorem d_S_init_200 : decode b_S_init 200 = .ok (.return_, 1) := by decide +kernel
theorem d_S_isWithin_0 : decode b_S_isWithin 0 = .ok (.iload_n 0, 1) := by decide +kernel
theorem d_S_isWithin_1 : decode b_S_isWithin 1 = .ok (.ifCond .lt 12, 3) := by decide +kernel
theorem d_S_isWithin_4 : decode b_S_isWithin 4 = .ok (.iload_n 0, 1) := by decide +kernel
theorem d_S_isWithin_5 : decode b_S_isWithin 5 = .ok (.iload_n 1, 1) := by decide +kernel
theorem d_S_isWithin_6 : decode b_S_isWithin 6 = .ok (.if_icmp .ge 7, 3) := by decide +kernel
theorem d_S_isWithin_9 : decode b_S_isWithin 9 = .ok (.iconst 1, 1) := by decide +kernel
theorem d_S_isWithin_10 : decode b_S_isWithin 10 = .ok (.goto 4, 3) := by decide +kernel
theorem d_S_isWithin_13 : decode b_S_isWithin 13 = .ok (.iconst 0, 1) := by decide +kernel
theorem d_S_isWithin_14 : decode b_S_isWithin 14 = .ok (.ireturn, 1) := by decide +kernel
theorem d_A_clear_0 : decode b_A_clear 0 = .ok (.aload_n 0, 1) := by decide +kernel
theorem d_A_clear_1 : decode b_A_clear 1 = .ok (.dup, 1) := by decide +kernel
theorem d_A_clear_2 : decode b_A_clear 2 = .ok (.getfield 63, 3) := by decide +kernel
theorem d_A_clear_5 : decode b_A_clear 5 = .ok (.iconst 1, 1) := by decide +kernel
theorem d_A_clear_6 : decode b_A_clear 6 = .ok (.iadd, 1) := by decide +kernel
theorem d_A_clear_7 : decode b_A_clear 7 = .ok (.putfield 63, 3) := by decide +kernel
theorem d_A_clear_10 : decode b_A_clear 10 = .ok (.aload_n 0, 1) := by decide +kernel
theorem d_A_clear_11 : decode b_A_clear 11 = .ok (.getfield 9, 3) := by decide +kernel
theorem d_A_clear_14 : decode b_A_clear 14 = .ok (.astore_n 1, 1) := by decide +kernel
theorem d_A_clear_15 : decode b_A_clear 15 = .ok (.aload_n 0, 1) := by decide +kernel
theorem d_A_clear_16 : decode b_A_clear 16 = .ok (.getfield 48, 3) := by decide +kernel
theorem d_A_clear_19 : decode b_A_clear 19 = .ok (.istore_n 2, 1) := by decide +kernel
theorem d_A_clear_20 : decode b_A_clear 20 = .ok (.aload_n 0, 1) := by decide +kernel
theorem d_A_clear_21 : decode b_A_clear 21 = .ok (.iconst 0, 1) := by decide +kernel
theorem d_A_clear_22 : decode b_A_clear 22 = .ok (.dup_x1, 1) := by decide +kernel
theorem d_A_clear_23 : decode b_A_clear 23 = .ok (.putfield 48, 3) := by decide +kernel
theorem d_A_clear_26 : decode b_A_clear 26 = .ok (.istore_n 3, 1) := by decide +kernel
theorem d_A_clear_27 : decode b_A_clear 27 = .ok (.iload_n 3, 1) := by decide +kernel
theorem d_A_clear_28 : decode b_A_clear 28 = .ok (.iload_n 2, 1) := by decide +kernel
theorem d_A_clear_29 : decode b_A_clear 29 = .ok (.if_icmp .ge 13, 3) := by decide +kernel
theorem d_A_clear_32 : decode b_A_clear 32 = .ok (.aload_n 1, 1) := by decide +kernel
theorem d_A_clear_33 : decode b_A_clear 33 = .ok (.iload_n 3, 1) := by decide +kernel
theorem d_A_clear_34 : decode b_A_clear 34 = .ok (.aconst_null, 1) := by decide +kernel
theorem d_A_clear_35 : decode b_A_clear 35 = .ok (.aastore, 1) := by decide +kernel
theorem d_A_clear_36 : decode b_A_clear 36 = .ok (.iinc 3 1, 3) := by decide +kernel
theorem d_A_clear_39 : decode b_A_clear 39 = .ok (.goto (-12), 3) := by decide +kernel
theorem d_A_clear_42 : decode b_A_clear 42 = .ok (.return_, 1) := by decide +kernel
theorem d_P_restart_0 : decode b_P_restart 0 = .ok (.aload_n 0, 1) := by decide +kernel
theorem d_P_restart_1 : decode b_P_restart 1 = .ok (.getfield 12, 3) := by decide +kernel
theorem d_P_restart_4 : decode b_P_restart 4 = .ok (.invokevirtual 25, 3) := by decide +kernel
theorem d_P_restart_7 : decode b_P_restart 7 = .ok (.aload_n 0, 1) := by decide +kernel
theorem d_P_restart_8 : decode b_P_restart 8 = .ok (.iload_n 1, 1) := by decide +kernel
theorem d_P_restart_9 : decode b_P_restart 9 = .ok (.putfield 18, 3) := by decide +kernel
theorem d_P_restart_12 : decode b_P_restart 12 = .ok (.return_, 1) := by decide +kernel
theorem d_S_open_0 : decode b_S_open 0 = .ok (.iload_n 1, 1) := by decide +kernel
theorem d_S_open_1 : decode b_S_open 1 = .ok (.bipush 6, 2) := by decide +kernel
theorem d_S_open_3 : decode b_S_open 3 = .ok (.invokestatic 85, 3) := by decide +kernel
theorem d_S_open_6 : decode b_S_open 6 = .ok (.ifCond .eq 15, 3) := by decide +kernel
theorem d_S_open_9 : decode b_S_open 9 = .ok (.aload_n 0, 1) := by decide +kernel
theorem d_S_open_10 : decode b_S_open 10 = .ok (.getfield 11, 3) := by decide +kernel
theorem d_S_open_13 : decode b_S_open 13 = .ok (.iload_n 1, 1) := by decide +kernel
theorem d_S_open_14 : decode b_S_open 14 = .ok (.aaload, 1) := by decide +kernel
theorem d_S_open_15 : decode b_S_open 15 = .ok (.getfield 89, 3) := by decide +kernel
theorem d_S_open_18 : decode b_S_open 18 = .ok (.ifCond .eq 5, 3) := by decide +kernel
theorem d_S_open_21 : decode b_S_open 21 = .ok (.iconst (-1), 1) := by decide +kernel
theorem d_S_open_22 : decode b_S_open 22 = .ok (.ireturn, 1) := by decide +kernel
theorem d_S_open_23 : decode b_S_open 23 = .ok (.aload_n 0, 1) := by decide +kernel
theorem d_S_open_24 : decode b_S_open 24 = .ok (.aload_n 0, 1) := by decide +kernel
theorem d_S_open_25 : decode b_S_open 25 = .ok (.getfield 11, 3) := by decide +kernel
theorem d_S_open_28 : decode b_S_open 28 = .ok (.iload_n 1, 1) := by decide +kernel
theorem d_S_open_29 : decode b_S_open 29 = .ok (.aaload, 1) := by decide +kernel
theorem d_S_open_30 : decode b_S_open 30 = .ok (.putfield 15, 3) := by decide +kernel
theorem d_S_open_33 : decode b_S_open 33 = .ok (.aload_n 0, 1) := by decide +kernel
theorem d_S_open_34 : decode b_S_open 34 = .ok (.getfield 15, 3) := by decide +kernel
theorem d_S_open_37 : decode b_S_open 37 = .ok (.iload_n 2, 1) := by decide +kernel
theorem d_S_open_38 : decode b_S_open 38 = .ok (.invokevirtual 93, 3) := by decide +kernel
theorem d_S_open_41 : decode b_S_open 41 = .ok (.iconst 0, 1) := by decide +kernel
theorem d_S_open_42 : decode b_S_open 42 = .ok (.ireturn, 1) := by decide +kernel
theorem d_S_isStatement_0 : decode b_S_isStatement 0 = .ok (.iload_n 0, 1) := by decide +kernel
theorem d_S_isStatement_1 : decode b_S_isStatement 1 = .ok (.tableswitch 149 0 10 #[92, 92, 92, 59, 116, 59, 92, 66, 92, 92, 59], 59) := by decide +kernel
theorem d_S_isStatement_60 : decode b_S_isStatement 60 = .ok (.iload_n 1, 1) := by decide +kernel
theorem d_S_isStatement_61 : decode b_S_isStatement 61 = .ok (.bipush 6, 2) := by decide +kernel
theorem d_S_isStatement_63 : decode b_S_isStatement 63 = .ok (.invokestatic 85, 3) := by decide +kernel
theorem d_S_isStatement_66 : decode b_S_isStatement 66 = .ok (.ireturn, 1) := by decide +kernel
theorem d_S_isStatement_67 : decode b_S_isStatement 67 = .ok (.iload_n 1, 1) := by decide +kernel
theorem d_S_isStatement_68 : decode b_S_isStatement 68 = .ok (.bipush 6, 2) := by decide +kernel
theorem d_S_isStatement_70 : decode b_S_isStatement 70 = .ok (.invokestatic 85, 3) := by decide +kernel
theorem d_S_isStatement_73 : decode b_S_isStatement 73 = .ok (.ifCond .eq 18, 3) := by decide +kernel
theorem d_S_isStatement_76 : decode b_S_isStatement 76 = .ok (.iload_n 2, 1) := by decide +kernel
theorem d_S_isStatement_77 : decode b_S_isStatement 77 = .ok (.iconst 1, 1) := by decide +kernel
theorem d_S_isStatement_78 : decode b_S_isStatement 78 = .ok (.if_icmp .lt 13, 3) := by decide +kernel
theorem d_S_isStatement_81 : decode b_S_isStatement 81 = .ok (.iload_n 2, 1) := by decide +kernel
theorem d_S_isStatement_82 : decode b_S_isStatement 82 = .ok (.bipush 7, 2) := by decide +kernel
theorem d_S_isStatement_84 : decode b_S_isStatement 84 = .ok (.if_icmp .gt 7, 3) := by decide +kernel
theorem d_S_isStatement_87 : decode b_S_isStatement 87 = .ok (.iconst 1, 1) := by decide +kernel
theorem d_S_isStatement_88 : decode b_S_isStatement 88 = .ok (.goto 4, 3) := by decide +kernel
theorem d_S_isStatement_91 : decode b_S_isStatement 91 = .ok (.iconst 0, 1) := by decide +kernel
theorem d_S_isStatement_92 : decode b_S_isStatement 92 = .ok (.ireturn, 1) := by decide +kernel
theorem d_S_isStatement_93 : decode b_S_isStatement 93 = .ok (.iload_n 1, 1) := by decide +kernel
theorem d_S_isStatement_94 : decode b_S_isStatement 94 = .ok (.bipush 6, 2) := by decide +kernel
theorem d_S_isStatement_96 : decode b_S_isStatement 96 = .ok (.invokestatic 85, 3) := by decide +kernel
theorem d_S_isStatement_99 : decode b_S_isStatement 99 = .ok (.ifCond .eq 16, 3) := by decide +kernel
theorem d_S_isStatement_102 : decode b_S_isStatement 102 = .ok (.iload_n 2, 1) := by decide +kernel
theorem d_S_isStatement_103 : decode b_S_isStatement 103 = .ok (.bipush 6, 2) := by decide +kernel
theorem d_S_isStatement_105 : decode b_S_isStatement 105 = .ok (.invokestatic 85, 3) := by decide +kernel
theorem d_S_isStatement_108 : decode b_S_isStatement 108 = .ok (.ifCond .eq 7, 3) := by decide +kernel
theorem d_S_isStatement_111 : decode b_S_isStatement 111 = .ok (.iconst 1, 1) := by decide +kernel
theorem d_S_isStatement_112 : decode b_S_isStatement 112 = .ok (.goto 4, 3) := by decide +kernel
theorem d_S_isStatement_115 : decode b_S_isStatement 115 = .ok (.iconst 0, 1) := by decide +kernel
theorem d_S_isStatement_116 : decode b_S_isStatement 116 = .ok (.ireturn, 1) := by decide +kernel
theorem d_S_isStatement_117 : decode b_S_isStatement 117 = .ok (.iload_n 1, 1) := by decide +kernel
theorem d_S_isStatement_118 : decode b_S_isStatement 118 = .ok (.bipush 6, 2) := by decide +kernel
theorem d_S_isStatement_120 : decode b_S_isStatement 120 = .ok (.invokestatic 85, 3) := by decide +kernel
theorem d_S_isStatement_123 : decode b_S_isStatement 123 = .ok (.ifCond .eq 25, 3) := by decide +kernel
theorem d_S_isStatement_126 : decode b_S_isStatement 126 = .ok (.iload_n 2, 1) := by decide +kernel
theorem d_S_isStatement_127 : decode b_S_isStatement 127 = .ok (.bipush 6, 2) := by decide +kernel
theorem d_S_isStatement_129 : decode b_S_isStatement 129 = .ok (.invokestatic 85, 3) := by decide +kernel
theorem d_S_isStatement_132 : decode b_S_isStatement 132 = .ok (.ifCond .eq 16, 3) := by decide +kernel
theorem d_S_isStatement_135 : decode b_S_isStatement 135 = .ok (.iload_n 3, 1) := by decide +kernel
theorem d_S_isStatement_136 : decode b_S_isStatement 136 = .ok (.bipush 6, 2) := by decide +kernel
theorem d_S_isStatement_138 : decode b_S_isStatement 138 = .ok (.invokestatic 85, 3) := by decide +kernel
theorem d_S_isStatement_141 : decode b_S_isStatement 141 = .ok (.ifCond .eq 7, 3) := by decide +kernel
theorem d_S_isStatement_144 : decode b_S_isStatement 144 = .ok (.iconst 1, 1) := by decide +kernel
theorem d_S_isStatement_145 : decode b_S_isStatement 145 = .ok (.goto 4, 3) := by decide +kernel
theorem d_S_isStatement_148 : decode b_S_isStatement 148 = .ok (.iconst 0, 1) := by decide +kernel
theorem d_S_isStatement_149 : decode b_S_isStatement 149 = .ok (.ireturn, 1) := by decide +kernel
theorem d_S_isStatement_150 : decode b_S_isStatement 150 = .ok (.iconst 0, 1) := by decide +kernel
theorem d_S_isStatement_151 : decode b_S_isStatement 151 = .ok (.ireturn, 1) := by decide +kernel
theorem d_A_size_0 : decode b_A_size 0 = .ok (.aload_n 0, 1) := by decide +kernel
theorem d_A_size_1 : decode b_A_size 1 = .ok (.getfield 48, 3) := by decide +kernel
theorem d_A_size_4 : decode b_A_size 4 = .ok (.ireturn, 1) := by decide +kernel
theorem d_T_init_0 : decode b_T_init 0 = .ok (.aload_n 0, 1) := by decide +kernel
theorem d_T_init_1 : decode b_T_init 1 = .ok (.invokespecial 1, 3) := by decide +kernel
theorem d_T_init_4 : decode b_T_init 4 = .ok (.aload_n 0, 1) := by decide +kernel
theorem d_T_init_5 : decode b_T_init 5 = .ok (.iload_n 1, 1) := by decide +kernel
theorem d_T_init_6 : decode b_T_init 6 = .ok (.putfield 7, 3) := by decide +kernel
theorem d_T_init_9 : decode b_T_init 9 = .ok (.aload_n 0, 1) := by decide +kernel
theorem d_T_init_10 : decode b_T_init 10 = .ok (.iload_n 2, 1) := by decide +kernel
theorem d_T_init_11 : decode b_T_init 11 = .ok (.putfield 13, 3) := by decide +kernel
theorem d_T_init_14 : decode b_T_init 14 = .ok (.aload_n 0, 1) := by decide +kernel
theorem d_T_init_15 : decode b_T_init 15 = .ok (.iload_n 3, 1) := by decide +kernel
theorem d_T_init_16 : decode b_T_init 16 = .ok (.putfield 16, 3) := by decide +kernel
theorem d_T_init_19 : decode b_T_init 19 = .ok (.aload_n 0, 1) := by decide +kernel
theorem d_T_init_20 : decode b_T_init 20 = .ok (.iload 4, 2) := by decide +kernel
theorem d_T_init_22 : decode b_T_init 22 = .ok (.putfield 19, 3) := by decide +kernel
theorem d_T_init_25 : decode b_T_init 25 = .ok (.return_, 1) := by decide +kernel
theorem d_As_hugeLength_0 : decode b_As_hugeLength 0 = .ok (.iload_n 0, 1) := by decide +kernel
theorem d_As_hugeLength_1 : decode b_As_hugeLength 1 = .ok (.iload_n 1, 1) := by decide +kernel
theorem d_As_hugeLength_2 : decode b_As_hugeLength 2 = .ok (.iadd, 1) := by decide +kernel
theorem d_As_hugeLength_3 : decode b_As_hugeLength 3 = .ok (.istore_n 2, 1) := by decide +kernel
theorem d_As_hugeLength_4 : decode b_As_hugeLength 4 = .ok (.iload_n 2, 1) := by decide +kernel
theorem d_As_hugeLength_5 : decode b_As_hugeLength 5 = .ok (.ifCond .ge 44, 3) := by decide +kernel
theorem d_As_hugeLength_8 : decode b_As_hugeLength 8 = .ok (.new 204, 3) := by decide +kernel
theorem d_As_hugeLength_11 : decode b_As_hugeLength 11 = .ok (.dup, 1) := by decide +kernel
theorem d_As_hugeLength_12 : decode b_As_hugeLength 12 = .ok (.new 89, 3) := by decide +kernel
theorem d_As_hugeLength_15 : decode b_As_hugeLength 15 = .ok (.dup, 1) := by decide +kernel
theorem d_As_hugeLength_16 : decode b_As_hugeLength 16 = .ok (.invokespecial 91, 3) := by decide +kernel
theorem d_As_hugeLength_19 : decode b_As_hugeLength 19 = .ok (.ldc 206, 2) := by decide +kernel
theorem d_As_hugeLength_21 : decode b_As_hugeLength 21 = .ok (.invokevirtual 94, 3) := by decide +kernel
theorem d_As_hugeLength_24 : decode b_As_hugeLength 24 = .ok (.iload_n 0, 1) := by decide +kernel
theorem d_As_hugeLength_25 : decode b_As_hugeLength 25 = .ok (.invokevirtual 98, 3) := by decide +kernel
theorem d_As_hugeLength_28 : decode b_As_hugeLength 28 = .ok (.ldc 208, 2) := by decide +kernel
theorem d_As_hugeLength_30 : decode b_As_hugeLength 30 = .ok (.invokevirtual 94, 3) := by decide +kernel
theorem d_As_hugeLength_33 : decode b_As_hugeLength 33 = .ok (.iload_n 1, 1) := by decide +kernel
theorem d_As_hugeLength_34 : decode b_As_hugeLength 34 = .ok (.invokevirtual 98, 3) := by decide +kernel
theorem d_As_hugeLength_37 : decode b_As_hugeLength 37 = .ok (.ldc 210, 2) := by decide +kernel
theorem d_As_hugeLength_39 : decode b_As_hugeLength 39 = .ok (.invokevirtual 94, 3) := by decide +kernel
theorem d_As_hugeLength_42 : decode b_As_hugeLength 42 = .ok (.invokevirtual 101, 3) := by decide +kernel
theorem d_As_hugeLength_45 : decode b_As_hugeLength 45 = .ok (.invokespecial 212, 3) := by decide +kernel
theorem d_As_hugeLength_49 : decode b_As_hugeLength 49 = .ok (.iload_n 2, 1) := by decide +kernel
theorem d_As_hugeLength_50 : decode b_As_hugeLength 50 = .ok (.ldc 200, 2) := by decide +kernel
theorem d_As_hugeLength_52 : decode b_As_hugeLength 52 = .ok (.if_icmp .gt 6, 3) := by decide +kernel
theorem d_As_hugeLength_55 : decode b_As_hugeLength 55 = .ok (.ldc 200, 2) := by decide +kernel
theorem d_As_hugeLength_57 : decode b_As_hugeLength 57 = .ok (.ireturn, 1) := by decide +kernel
theorem d_As_hugeLength_58 : decode b_As_hugeLength 58 = .ok (.iload_n 2, 1) := by decide +kernel
theorem d_As_hugeLength_59 : decode b_As_hugeLength 59 = .ok (.ireturn, 1) := by decide +kernel
theorem d_As_newLength_0 : decode b_As_newLength 0 = .ok (.iload_n 0, 1) := by decide +kernel
theorem d_As_newLength_1 : decode b_As_newLength 1 = .ok (.iload_n 1, 1) := by decide +kernel
theorem d_As_newLength_2 : decode b_As_newLength 2 = .ok (.iload_n 2, 1) := by decide +kernel
theorem d_As_newLength_3 : decode b_As_newLength 3 = .ok (.invokestatic 194, 3) := by decide +kernel
theorem d_As_newLength_6 : decode b_As_newLength 6 = .ok (.iadd, 1) := by decide +kernel
theorem d_As_newLength_7 : decode b_As_newLength 7 = .ok (.istore_n 3, 1) := by decide +kernel
theorem d_As_newLength_8 : decode b_As_newLength 8 = .ok (.iconst 0, 1) := by decide +kernel
theorem d_As_newLength_9 : decode b_As_newLength 9 = .ok (.iload_n 3, 1) := by decide +kernel
theorem d_As_newLength_10 : decode b_As_newLength 10 = .ok (.if_icmp .ge 11, 3) := by decide +kernel
theorem d_As_newLength_13 : decode b_As_newLength 13 = .ok (.iload_n 3, 1) := by decide +kernel
theorem d_As_newLength_14 : decode b_As_newLength 14 = .ok (.ldc 200, 2) := by decide +kernel
theorem d_As_newLength_16 : decode b_As_newLength 16 = .ok (.if_icmp .gt 5, 3) := by decide +kernel
theorem d_As_newLength_19 : decode b_As_newLength 19 = .ok (.iload_n 3, 1) := by decide +kernel
theorem d_As_newLength_20 : decode b_As_newLength 20 = .ok (.ireturn, 1) := by decide +kernel
theorem d_As_newLength_21 : decode b_As_newLength 21 = .ok (.iload_n 0, 1) := by decide +kernel
theorem d_As_newLength_22 : decode b_As_newLength 22 = .ok (.iload_n 1, 1) := by decide +kernel
theorem d_As_newLength_23 : decode b_As_newLength 23 = .ok (.invokestatic 201, 3) := by decide +kernel
theorem d_As_newLength_26 : decode b_As_newLength 26 = .ok (.ireturn, 1) := by decide +kernel
theorem d_Ar_copyOf1_0 : decode b_Ar_copyOf1 0 = .ok (.aload_n 2, 1) := by decide +kernel
theorem d_Ar_copyOf1_1 : decode b_Ar_copyOf1 1 = .ok (.ldc 110, 2) := by decide +kernel
theorem d_Ar_copyOf1_3 : decode b_Ar_copyOf1 3 = .ok (.if_acmp .ne 10, 3) := by decide +kernel
theorem d_Ar_copyOf1_6 : decode b_Ar_copyOf1 6 = .ok (.iload_n 1, 1) := by decide +kernel
theorem d_Ar_copyOf1_7 : decode b_Ar_copyOf1 7 = .ok (.anewarray 2, 3) := by decide +kernel
theorem d_Ar_copyOf1_10 : decode b_Ar_copyOf1 10 = .ok (.goto 14, 3) := by decide +kernel
theorem d_Ar_copyOf1_13 : decode b_Ar_copyOf1 13 = .ok (.aload_n 2, 1) := by decide +kernel
theorem d_Ar_copyOf1_14 : decode b_Ar_copyOf1 14 = .ok (.invokevirtual 90, 3) := by decide +kernel
theorem d_Ar_copyOf1_17 : decode b_Ar_copyOf1 17 = .ok (.iload_n 1, 1) := by decide +kernel
theorem d_Ar_copyOf1_18 : decode b_Ar_copyOf1 18 = .ok (.invokestatic 95, 3) := by decide +kernel
theorem d_Ar_copyOf1_21 : decode b_Ar_copyOf1 21 = .ok (.checkcast 110, 3) := by decide +kernel
theorem d_Ar_copyOf1_24 : decode b_Ar_copyOf1 24 = .ok (.astore_n 3, 1) := by decide +kernel
theorem d_Ar_copyOf1_25 : decode b_Ar_copyOf1 25 = .ok (.aload_n 0, 1) := by decide +kernel
theorem d_Ar_copyOf1_26 : decode b_Ar_copyOf1 26 = .ok (.iconst 0, 1) := by decide +kernel
theorem d_Ar_copyOf1_27 : decode b_Ar_copyOf1 27 = .ok (.aload_n 3, 1) := by decide +kernel
theorem d_Ar_copyOf1_28 : decode b_Ar_copyOf1 28 = .ok (.iconst 0, 1) := by decide +kernel
theorem d_Ar_copyOf1_29 : decode b_Ar_copyOf1 29 = .ok (.aload_n 0, 1) := by decide +kernel
theorem d_Ar_copyOf1_30 : decode b_Ar_copyOf1 30 = .ok (.arraylength, 1) := by decide +kernel
theorem d_Ar_copyOf1_31 : decode b_Ar_copyOf1 31 = .ok (.iload_n 1, 1) := by decide +kernel
theorem d_Ar_copyOf1_32 : decode b_Ar_copyOf1 32 = .ok (.invokestatic 304, 3) := by decide +kernel
theorem d_Ar_copyOf1_35 : decode b_Ar_copyOf1 35 = .ok (.invokestatic 150, 3) := by decide +kernel
theorem d_Ar_copyOf1_38 : decode b_Ar_copyOf1 38 = .ok (.aload_n 3, 1) := by decide +kernel
theorem d_Ar_copyOf1_39 : decode b_Ar_copyOf1 39 = .ok (.areturn, 1) := by decide +kernel
theorem d_Ar_copyOf0_0 : decode b_Ar_copyOf0 0 = .ok (.aload_n 0, 1) := by decide +kernel
theorem d_Ar_copyOf0_1 : decode b_Ar_copyOf0 1 = .ok (.iload_n 1, 1) := by decide +kernel
theorem d_Ar_copyOf0_2 : decode b_Ar_copyOf0 2 = .ok (.aload_n 0, 1) := by decide +kernel
theorem d_Ar_copyOf0_3 : decode b_Ar_copyOf0 3 = .ok (.invokevirtual 86, 3) := by decide +kernel
theorem d_Ar_copyOf0_6 : decode b_Ar_copyOf0 6 = .ok (.invokestatic 300, 3) := by decide +kernel
theorem d_Ar_copyOf0_9 : decode b_Ar_copyOf0 9 = .ok (.areturn, 1) := by decide +kernel
theorem d_A_grow1_0 : decode b_A_grow1 0 = .ok (.aload_n 0, 1) := by decide +kernel
theorem d_A_grow1_1 : decode b_A_grow1 1 = .ok (.getfield 9, 3) := by decide +kernel
theorem d_A_grow1_4 : decode b_A_grow1 4 = .ok (.arraylength, 1) := by decide +kernel
theorem d_A_grow1_5 : decode b_A_grow1 5 = .ok (.istore_n 2, 1) := by decide +kernel
theorem d_A_grow1_6 : decode b_A_grow1 6 = .ok (.iload_n 2, 1) := by decide +kernel
theorem d_A_grow1_7 : decode b_A_grow1 7 = .ok (.ifCond .gt 13, 3) := by decide +kernel
theorem d_A_grow1_10 : decode b_A_grow1 10 = .ok (.aload_n 0, 1) := by decide +kernel
theorem d_A_grow1_11 : decode b_A_grow1 11 = .ok (.getfield 9, 3) := by decide +kernel
theorem d_A_grow1_14 : decode b_A_grow1 14 = .ok (.getstatic 39, 3) := by decide +kernel
theorem d_A_grow1_17 : decode b_A_grow1 17 = .ok (.if_acmp .eq 28, 3) := by decide +kernel
theorem d_A_grow1_20 : decode b_A_grow1 20 = .ok (.iload_n 2, 1) := by decide +kernel
theorem d_A_grow1_21 : decode b_A_grow1 21 = .ok (.iload_n 1, 1) := by decide +kernel
theorem d_A_grow1_22 : decode b_A_grow1 22 = .ok (.iload_n 2, 1) := by decide +kernel
theorem d_A_grow1_23 : decode b_A_grow1 23 = .ok (.isub, 1) := by decide +kernel
theorem d_A_grow1_24 : decode b_A_grow1 24 = .ok (.iload_n 2, 1) := by decide +kernel
theorem d_A_grow1_25 : decode b_A_grow1 25 = .ok (.iconst 1, 1) := by decide +kernel
theorem d_A_grow1_26 : decode b_A_grow1 26 = .ok (.ishr, 1) := by decide +kernel
theorem d_A_grow1_27 : decode b_A_grow1 27 = .ok (.invokestatic 73, 3) := by decide +kernel
theorem d_A_grow1_30 : decode b_A_grow1 30 = .ok (.istore_n 3, 1) := by decide +kernel
theorem d_A_grow1_31 : decode b_A_grow1 31 = .ok (.aload_n 0, 1) := by decide +kernel
theorem d_A_grow1_32 : decode b_A_grow1 32 = .ok (.aload_n 0, 1) := by decide +kernel
theorem d_A_grow1_33 : decode b_A_grow1 33 = .ok (.getfield 9, 3) := by decide +kernel
theorem d_A_grow1_36 : decode b_A_grow1 36 = .ok (.iload_n 3, 1) := by decide +kernel
theorem d_A_grow1_37 : decode b_A_grow1 37 = .ok (.invokestatic 66, 3) := by decide +kernel
theorem d_A_grow1_40 : decode b_A_grow1 40 = .ok (.dup_x1, 1) := by decide +kernel
theorem d_A_grow1_41 : decode b_A_grow1 41 = .ok (.putfield 9, 3) := by decide +kernel
theorem d_A_grow1_44 : decode b_A_grow1 44 = .ok (.areturn, 1) := by decide +kernel
theorem d_A_grow1_45 : decode b_A_grow1 45 = .ok (.aload_n 0, 1) := by decide +kernel
theorem d_A_grow1_46 : decode b_A_grow1 46 = .ok (.bipush 10, 2) := by decide +kernel
theorem d_A_grow1_48 : decode b_A_grow1 48 = .ok (.iload_n 1, 1) := by decide +kernel
theorem d_A_grow1_49 : decode b_A_grow1 49 = .ok (.invokestatic 79, 3) := by decide +kernel
theorem d_A_grow1_52 : decode b_A_grow1 52 = .ok (.anewarray 7, 3) := by decide +kernel
theorem d_A_grow1_55 : decode b_A_grow1 55 = .ok (.dup_x1, 1) := by decide +kernel
theorem d_A_grow1_56 : decode b_A_grow1 56 = .ok (.putfield 9, 3) := by decide +kernel
theorem d_A_grow1_59 : decode b_A_grow1 59 = .ok (.areturn, 1) := by decide +kernel
theorem d_A_grow0_0 : decode b_A_grow0 0 = .ok (.aload_n 0, 1) := by decide +kernel
theorem d_A_grow0_1 : decode b_A_grow0 1 = .ok (.aload_n 0, 1) := by decide +kernel
theorem d_A_grow0_2 : decode b_A_grow0 2 = .ok (.getfield 48, 3) := by decide +kernel
theorem d_A_grow0_5 : decode b_A_grow0 5 = .ok (.iconst 1, 1) := by decide +kernel
theorem d_A_grow0_6 : decode b_A_grow0 6 = .ok (.iadd, 1) := by decide +kernel
theorem d_A_grow0_7 : decode b_A_grow0 7 = .ok (.invokevirtual 69, 3) := by decide +kernel
theorem d_A_grow0_10 : decode b_A_grow0 10 = .ok (.areturn, 1) := by decide +kernel
theorem d_A_add1_0 : decode b_A_add1 0 = .ok (.iload_n 3, 1) := by decide +kernel
theorem d_A_add1_1 : decode b_A_add1 1 = .ok (.aload_n 2, 1) := by decide +kernel
theorem d_A_add1_2 : decode b_A_add1 2 = .ok (.arraylength, 1) := by decide +kernel
theorem d_A_add1_3 : decode b_A_add1 3 = .ok (.if_icmp .ne 8, 3) := by decide +kernel
theorem d_A_add1_6 : decode b_A_add1 6 = .ok (.aload_n 0, 1) := by decide +kernel
theorem d_A_add1_7 : decode b_A_add1 7 = .ok (.invokevirtual 129, 3) := by decide +kernel
theorem d_A_add1_10 : decode b_A_add1 10 = .ok (.astore_n 2, 1) := by decide +kernel
theorem d_A_add1_11 : decode b_A_add1 11 = .ok (.aload_n 2, 1) := by decide +kernel
theorem d_A_add1_12 : decode b_A_add1 12 = .ok (.iload_n 3, 1) := by decide +kernel
theorem d_A_add1_13 : decode b_A_add1 13 = .ok (.aload_n 1, 1) := by decide +kernel
theorem d_A_add1_14 : decode b_A_add1 14 = .ok (.aastore, 1) := by decide +kernel
theorem d_A_add1_15 : decode b_A_add1 15 = .ok (.aload_n 0, 1) := by decide +kernel
theorem d_A_add1_16 : decode b_A_add1 16 = .ok (.iload_n 3, 1) := by decide +kernel
theorem d_A_add1_17 : decode b_A_add1 17 = .ok (.iconst 1, 1) := by decide +kernel
theorem d_A_add1_18 : decode b_A_add1 18 = .ok (.iadd, 1) := by decide +kernel
theorem d_A_add1_19 : decode b_A_add1 19 = .ok (.putfield 48, 3) := by decide +kernel
theorem d_A_add1_22 : decode b_A_add1 22 = .ok (.return_, 1) := by decide +kernel
theorem d_A_add0_0 : decode b_A_add0 0 = .ok (.aload_n 0, 1) := by decide +kernel
theorem d_A_add0_1 : decode b_A_add0 1 = .ok (.dup, 1) := by decide +kernel
theorem d_A_add0_2 : decode b_A_add0 2 = .ok (.getfield 63, 3) := by decide +kernel
theorem d_A_add0_5 : decode b_A_add0 5 = .ok (.iconst 1, 1) := by decide +kernel
theorem d_A_add0_6 : decode b_A_add0 6 = .ok (.iadd, 1) := by decide +kernel
theorem d_A_add0_7 : decode b_A_add0 7 = .ok (.putfield 63, 3) := by decide +kernel
theorem d_A_add0_10 : decode b_A_add0 10 = .ok (.aload_n 0, 1) := by decide +kernel
theorem d_A_add0_11 : decode b_A_add0 11 = .ok (.aload_n 1, 1) := by decide +kernel
theorem d_A_add0_12 : decode b_A_add0 12 = .ok (.aload_n 0, 1) := by decide +kernel
theorem d_A_add0_13 : decode b_A_add0 13 = .ok (.getfield 9, 3) := by decide +kernel
theorem d_A_add0_16 : decode b_A_add0 16 = .ok (.aload_n 0, 1) := by decide +kernel
theorem d_A_add0_17 : decode b_A_add0 17 = .ok (.getfield 48, 3) := by decide +kernel
theorem d_A_add0_20 : decode b_A_add0 20 = .ok (.invokevirtual 131, 3) := by decide +kernel
theorem d_A_add0_23 : decode b_A_add0 23 = .ok (.iconst 1, 1) := by decide +kernel
theorem d_A_add0_24 : decode b_A_add0 24 = .ok (.ireturn, 1) := by decide +kernel
theorem d_S_add_0 : decode b_S_add 0 = .ok (.aload_n 0, 1) := by decide +kernel
theorem d_S_add_1 : decode b_S_add 1 = .ok (.getfield 15, 3) := by decide +kernel
theorem d_S_add_4 : decode b_S_add 4 = .ok (.ifnull 14, 3) := by decide +kernel
theorem d_S_add_7 : decode b_S_add 7 = .ok (.iload_n 1, 1) := by decide +kernel
theorem d_S_add_8 : decode b_S_add 8 = .ok (.iload_n 2, 1) := by decide +kernel
theorem d_S_add_9 : decode b_S_add 9 = .ok (.iload_n 3, 1) := by decide +kernel
theorem d_S_add_10 : decode b_S_add 10 = .ok (.iload 4, 2) := by decide +kernel
theorem d_S_add_12 : decode b_S_add 12 = .ok (.invokestatic 97, 3) := by decide +kernel
theorem d_S_add_15 : decode b_S_add 15 = .ok (.ifCond .ne 5, 3) := by decide +kernel
theorem d_S_add_18 : decode b_S_add 18 = .ok (.iconst (-1), 1) := by decide +kernel
theorem d_S_add_19 : decode b_S_add 19 = .ok (.ireturn, 1) := by decide +kernel
theorem d_S_add_20 : decode b_S_add 20 = .ok (.aload_n 0, 1) := by decide +kernel
theorem d_S_add_21 : decode b_S_add 21 = .ok (.getfield 15, 3) := by decide +kernel
theorem d_S_add_24 : decode b_S_add 24 = .ok (.getfield 101, 3) := by decide +kernel
theorem d_S_add_27 : decode b_S_add 27 = .ok (.invokevirtual 104, 3) := by decide +kernel
theorem d_S_add_30 : decode b_S_add 30 = .ok (.istore 5, 2) := by decide +kernel
theorem d_S_add_32 : decode b_S_add 32 = .ok (.iload 5, 2) := by decide +kernel
theorem d_S_add_34 : decode b_S_add 34 = .ok (.bipush 8, 2) := by decide +kernel
theorem d_S_add_36 : decode b_S_add 36 = .ok (.if_icmp .lt 6, 3) := by decide +kernel
theorem d_S_add_39 : decode b_S_add 39 = .ok (.bipush (-2), 2) := by decide +kernel
theorem d_S_add_41 : decode b_S_add 41 = .ok (.ireturn, 1) := by decide +kernel
theorem d_S_add_42 : decode b_S_add 42 = .ok (.aload_n 0, 1) := by decide +kernel
theorem d_S_add_43 : decode b_S_add 43 = .ok (.getfield 15, 3) := by decide +kernel
theorem d_S_add_46 : decode b_S_add 46 = .ok (.getfield 101, 3) := by decide +kernel
theorem d_S_add_49 : decode b_S_add 49 = .ok (.new 108, 3) := by decide +kernel
theorem d_S_add_52 : decode b_S_add 52 = .ok (.dup, 1) := by decide +kernel
theorem d_S_add_53 : decode b_S_add 53 = .ok (.iload_n 1, 1) := by decide +kernel
theorem d_S_add_54 : decode b_S_add 54 = .ok (.iload_n 2, 1) := by decide +kernel
theorem d_S_add_55 : decode b_S_add 55 = .ok (.iload_n 3, 1) := by decide +kernel
theorem d_S_add_56 : decode b_S_add 56 = .ok (.iload 4, 2) := by decide +kernel
theorem d_S_add_58 : decode b_S_add 58 = .ok (.invokespecial 110, 3) := by decide +kernel
theorem d_S_add_61 : decode b_S_add 61 = .ok (.invokevirtual 113, 3) := by decide +kernel
theorem d_S_add_64 : decode b_S_add 64 = .ok (.pop, 1) := by decide +kernel
theorem d_S_add_65 : decode b_S_add 65 = .ok (.iload 5, 2) := by decide +kernel
theorem d_S_add_67 : decode b_S_add 67 = .ok (.ireturn, 1) := by decide +kernel
theorem d_Pc_checkIndex_0 : decode b_Pc_checkIndex 0 = .ok (.iload_n 0, 1) := by decide +kernel
theorem d_Pc_checkIndex_1 : decode b_Pc_checkIndex 1 = .ok (.ifCond .lt 8, 3) := by decide +kernel
theorem d_Pc_checkIndex_4 : decode b_Pc_checkIndex 4 = .ok (.iload_n 0, 1) := by decide +kernel
theorem d_Pc_checkIndex_5 : decode b_Pc_checkIndex 5 = .ok (.iload_n 1, 1) := by decide +kernel
theorem d_Pc_checkIndex_6 : decode b_Pc_checkIndex 6 = .ok (.if_icmp .lt 10, 3) := by decide +kernel
theorem d_Pc_checkIndex_9 : decode b_Pc_checkIndex 9 = .ok (.aload_n 2, 1) := by decide +kernel
theorem d_Pc_checkIndex_10 : decode b_Pc_checkIndex 10 = .ok (.iload_n 0, 1) := by decide +kernel
theorem d_Pc_checkIndex_11 : decode b_Pc_checkIndex 11 = .ok (.iload_n 1, 1) := by decide +kernel
theorem d_Pc_checkIndex_12 : decode b_Pc_checkIndex 12 = .ok (.invokestatic 95, 3) := by decide +kernel
theorem d_Pc_checkIndex_16 : decode b_Pc_checkIndex 16 = .ok (.iload_n 0, 1) := by decide +kernel
theorem d_Pc_checkIndex_17 : decode b_Pc_checkIndex 17 = .ok (.ireturn, 1) := by decide +kernel
theorem d_Oj_checkIndex_0 : decode b_Oj_checkIndex 0 = .ok (.iload_n 0, 1) := by decide +kernel
theorem d_Oj_checkIndex_1 : decode b_Oj_checkIndex 1 = .ok (.iload_n 1, 1) := by decide +kernel
theorem d_Oj_checkIndex_2 : decode b_Oj_checkIndex 2 = .ok (.aconst_null, 1) := by decide +kernel
theorem d_Oj_checkIndex_3 : decode b_Oj_checkIndex 3 = .ok (.invokestatic 105, 3) := by decide +kernel
theorem d_Oj_checkIndex_6 : decode b_Oj_checkIndex 6 = .ok (.ireturn, 1) := by decide +kernel
theorem d_A_elementData_0 : decode b_A_elementData 0 = .ok (.aload_n 0, 1) := by decide +kernel
theorem d_A_elementData_1 : decode b_A_elementData 1 = .ok (.getfield 9, 3) := by decide +kernel
theorem d_A_elementData_4 : decode b_A_elementData 4 = .ok (.iload_n 1, 1) := by decide +kernel
theorem d_A_elementData_5 : decode b_A_elementData 5 = .ok (.aaload, 1) := by decide +kernel
theorem d_A_elementData_6 : decode b_A_elementData 6 = .ok (.areturn, 1) := by decide +kernel
theorem d_A_get_0 : decode b_A_get 0 = .ok (.iload_n 1, 1) := by decide +kernel
theorem d_A_get_1 : decode b_A_get 1 = .ok (.aload_n 0, 1) := by decide +kernel
theorem d_A_get_2 : decode b_A_get 2 = .ok (.getfield 48, 3) := by decide +kernel
theorem d_A_get_5 : decode b_A_get 5 = .ok (.invokestatic 118, 3) := by decide +kernel
theorem d_A_get_8 : decode b_A_get 8 = .ok (.pop, 1) := by decide +kernel
theorem d_A_get_9 : decode b_A_get 9 = .ok (.aload_n 0, 1) := by decide +kernel
theorem d_A_get_10 : decode b_A_get 10 = .ok (.iload_n 1, 1) := by decide +kernel
theorem d_A_get_11 : decode b_A_get 11 = .ok (.invokevirtual 123, 3) := by decide +kernel
theorem d_A_get_14 : decode b_A_get 14 = .ok (.areturn, 1) := by decide +kernel
theorem d_P_isSound_0 : decode b_P_isSound 0 = .ok (.aload_n 0, 1) := by decide +kernel
theorem d_P_isSound_1 : decode b_P_isSound 1 = .ok (.getfield 12, 3) := by decide +kernel
theorem d_P_isSound_4 : decode b_P_isSound 4 = .ok (.invokevirtual 28, 3) := by decide +kernel
theorem d_P_isSound_7 : decode b_P_isSound 7 = .ok (.istore_n 1, 1) := by decide +kernel
theorem d_P_isSound_8 : decode b_P_isSound 8 = .ok (.iconst 0, 1) := by decide +kernel
theorem d_P_isSound_9 : decode b_P_isSound 9 = .ok (.istore_n 2, 1) := by decide +kernel
theorem d_P_isSound_10 : decode b_P_isSound 10 = .ok (.iload_n 2, 1) := by decide +kernel
theorem d_P_isSound_11 : decode b_P_isSound 11 = .ok (.iload_n 1, 1) := by decide +kernel
theorem d_P_isSound_12 : decode b_P_isSound 12 = .ok (.if_icmp .ge 62, 3) := by decide +kernel
theorem d_P_isSound_15 : decode b_P_isSound 15 = .ok (.aload_n 0, 1) := by decide +kernel
theorem d_P_isSound_16 : decode b_P_isSound 16 = .ok (.getfield 12, 3) := by decide +kernel
theorem d_P_isSound_19 : decode b_P_isSound 19 = .ok (.iload_n 2, 1) := by decide +kernel
theorem d_P_isSound_20 : decode b_P_isSound 20 = .ok (.invokevirtual 32, 3) := by decide +kernel
theorem d_P_isSound_23 : decode b_P_isSound 23 = .ok (.checkcast 36, 3) := by decide +kernel
theorem d_P_isSound_26 : decode b_P_isSound 26 = .ok (.astore_n 3, 1) := by decide +kernel
theorem d_P_isSound_27 : decode b_P_isSound 27 = .ok (.aload_n 3, 1) := by decide +kernel
theorem d_P_isSound_28 : decode b_P_isSound 28 = .ok (.getfield 38, 3) := by decide +kernel
theorem d_P_isSound_31 : decode b_P_isSound 31 = .ok (.bipush 7, 2) := by decide +kernel
theorem d_P_isSound_33 : decode b_P_isSound 33 = .ok (.if_icmp .ne 17, 3) := by decide +kernel
theorem d_P_isSound_36 : decode b_P_isSound 36 = .ok (.aload_n 3, 1) := by decide +kernel
theorem d_P_isSound_37 : decode b_P_isSound 37 = .ok (.getfield 42, 3) := by decide +kernel
theorem d_P_isSound_40 : decode b_P_isSound 40 = .ok (.iload_n 1, 1) := by decide +kernel
theorem d_P_isSound_41 : decode b_P_isSound 41 = .ok (.iconst 1, 1) := by decide +kernel
theorem d_P_isSound_42 : decode b_P_isSound 42 = .ok (.isub, 1) := by decide +kernel
theorem d_P_isSound_43 : decode b_P_isSound 43 = .ok (.iload_n 2, 1) := by decide +kernel
theorem d_P_isSound_44 : decode b_P_isSound 44 = .ok (.isub, 1) := by decide +kernel
theorem d_P_isSound_45 : decode b_P_isSound 45 = .ok (.if_icmp .le 5, 3) := by decide +kernel
theorem d_P_isSound_48 : decode b_P_isSound 48 = .ok (.iconst 0, 1) := by decide +kernel
theorem d_P_isSound_49 : decode b_P_isSound 49 = .ok (.ireturn, 1) := by decide +kernel
theorem d_P_isSound_50 : decode b_P_isSound 50 = .ok (.aload_n 3, 1) := by decide +kernel
theorem d_P_isSound_51 : decode b_P_isSound 51 = .ok (.getfield 38, 3) := by decide +kernel
theorem d_P_isSound_54 : decode b_P_isSound 54 = .ok (.bipush 9, 2) := by decide +kernel
theorem d_P_isSound_56 : decode b_P_isSound 56 = .ok (.if_icmp .ne 12, 3) := by decide +kernel
theorem d_P_isSound_59 : decode b_P_isSound 59 = .ok (.aload_n 0, 1) := by decide +kernel
theorem d_P_isSound_60 : decode b_P_isSound 60 = .ok (.getfield 18, 3) := by decide +kernel
theorem d_P_isSound_63 : decode b_P_isSound 63 = .ok (.ifCond .ne 5, 3) := by decide +kernel
theorem d_P_isSound_66 : decode b_P_isSound 66 = .ok (.iconst 0, 1) := by decide +kernel
theorem d_P_isSound_67 : decode b_P_isSound 67 = .ok (.ireturn, 1) := by decide +kernel
theorem d_P_isSound_68 : decode b_P_isSound 68 = .ok (.iinc 2 1, 3) := by decide +kernel
theorem d_P_isSound_71 : decode b_P_isSound 71 = .ok (.goto (-61), 3) := by decide +kernel
theorem d_P_isSound_74 : decode b_P_isSound 74 = .ok (.iload_n 1, 1) := by decide +kernel
theorem d_P_isSound_75 : decode b_P_isSound 75 = .ok (.ifCond .le 7, 3) := by decide +kernel
theorem d_P_isSound_78 : decode b_P_isSound 78 = .ok (.iconst 1, 1) := by decide +kernel
theorem d_P_isSound_79 : decode b_P_isSound 79 = .ok (.goto 4, 3) := by decide +kernel
theorem d_P_isSound_82 : decode b_P_isSound 82 = .ok (.iconst 0, 1) := by decide +kernel
theorem d_P_isSound_83 : decode b_P_isSound 83 = .ok (.ireturn, 1) := by decide +kernel
theorem d_S_deploy_0 : decode b_S_deploy 0 = .ok (.aload_n 0, 1) := by decide +kernel
theorem d_S_deploy_1 : decode b_S_deploy 1 = .ok (.getfield 15, 3) := by decide +kernel
theorem d_S_deploy_4 : decode b_S_deploy 4 = .ok (.ifnonnull 5, 3) := by decide +kernel
theorem d_S_deploy_7 : decode b_S_deploy 7 = .ok (.iconst (-1), 1) := by decide +kernel
theorem d_S_deploy_8 : decode b_S_deploy 8 = .ok (.ireturn, 1) := by decide +kernel
theorem d_S_deploy_9 : decode b_S_deploy 9 = .ok (.aload_n 0, 1) := by decide +kernel
theorem d_S_deploy_10 : decode b_S_deploy 10 = .ok (.getfield 15, 3) := by decide +kernel
theorem d_S_deploy_13 : decode b_S_deploy 13 = .ok (.astore_n 1, 1) := by decide +kernel
theorem d_S_deploy_14 : decode b_S_deploy 14 = .ok (.aload_n 0, 1) := by decide +kernel
theorem d_S_deploy_15 : decode b_S_deploy 15 = .ok (.aconst_null, 1) := by decide +kernel
theorem d_S_deploy_16 : decode b_S_deploy 16 = .ok (.putfield 15, 3) := by decide +kernel
theorem d_S_deploy_19 : decode b_S_deploy 19 = .ok (.aload_n 1, 1) := by decide +kernel
theorem d_S_deploy_20 : decode b_S_deploy 20 = .ok (.invokevirtual 117, 3) := by decide +kernel
theorem d_S_deploy_23 : decode b_S_deploy 23 = .ok (.ifCond .ne 6, 3) := by decide +kernel
theorem d_S_deploy_26 : decode b_S_deploy 26 = .ok (.bipush (-3), 2) := by decide +kernel
theorem d_S_deploy_28 : decode b_S_deploy 28 = .ok (.ireturn, 1) := by decide +kernel
theorem d_S_deploy_29 : decode b_S_deploy 29 = .ok (.aload_n 1, 1) := by decide +kernel
theorem d_S_deploy_30 : decode b_S_deploy 30 = .ok (.iconst 1, 1) := by decide +kernel
theorem d_S_deploy_31 : decode b_S_deploy 31 = .ok (.putfield 89, 3) := by decide +kernel
theorem d_S_deploy_34 : decode b_S_deploy 34 = .ok (.iconst 0, 1) := by decide +kernel
theorem d_S_deploy_35 : decode b_S_deploy 35 = .ok (.ireturn, 1) := by decide +kernel
theorem d_K_init_0 : decode b_K_init 0 = .ok (.aload_n 0, 1) := by decide +kernel
theorem d_K_init_1 : decode b_K_init 1 = .ok (.invokespecial 1, 3) := by decide +kernel
theorem d_K_init_4 : decode b_K_init 4 = .ok (.aload_n 0, 1) := by decide +kernel
theorem d_K_init_5 : decode b_K_init 5 = .ok (.iload_n 1, 1) := by decide +kernel
theorem d_K_init_6 : decode b_K_init 6 = .ok (.putfield 7, 3) := by decide +kernel
theorem d_K_init_9 : decode b_K_init 9 = .ok (.aload_n 0, 1) := by decide +kernel
theorem d_K_init_10 : decode b_K_init 10 = .ok (.iload_n 2, 1) := by decide +kernel
theorem d_K_init_11 : decode b_K_init 11 = .ok (.putfield 13, 3) := by decide +kernel
theorem d_K_init_14 : decode b_K_init 14 = .ok (.aload_n 0, 1) := by decide +kernel
theorem d_K_init_15 : decode b_K_init 15 = .ok (.aload_n 3, 1) := by decide +kernel
theorem d_K_init_16 : decode b_K_init 16 = .ok (.putfield 16, 3) := by decide +kernel
theorem d_K_init_19 : decode b_K_init 19 = .ok (.aload_n 0, 1) := by decide +kernel
theorem d_K_init_20 : decode b_K_init 20 = .ok (.iload 4, 2) := by decide +kernel
theorem d_K_init_22 : decode b_K_init 22 = .ok (.putfield 20, 3) := by decide +kernel
theorem d_K_init_25 : decode b_K_init 25 = .ok (.aload_n 0, 1) := by decide +kernel
theorem d_K_init_26 : decode b_K_init 26 = .ok (.iload 5, 2) := by decide +kernel
theorem d_K_init_28 : decode b_K_init 28 = .ok (.putfield 23, 3) := by decide +kernel
theorem d_K_init_31 : decode b_K_init 31 = .ok (.aload_n 0, 1) := by decide +kernel
theorem d_K_init_32 : decode b_K_init 32 = .ok (.iload 6, 2) := by decide +kernel
theorem d_K_init_34 : decode b_K_init 34 = .ok (.putfield 26, 3) := by decide +kernel
theorem d_K_init_37 : decode b_K_init 37 = .ok (.return_, 1) := by decide +kernel
theorem d_C_begin_0 : decode b_C_begin 0 = .ok (.aload_n 0, 1) := by decide +kernel
theorem d_C_begin_1 : decode b_C_begin 1 = .ok (.iconst 1, 1) := by decide +kernel
theorem d_C_begin_2 : decode b_C_begin 2 = .ok (.putfield 9, 3) := by decide +kernel
theorem d_C_begin_5 : decode b_C_begin 5 = .ok (.aload_n 0, 1) := by decide +kernel
theorem d_C_begin_6 : decode b_C_begin 6 = .ok (.iload_n 1, 1) := by decide +kernel
theorem d_C_begin_7 : decode b_C_begin 7 = .ok (.putfield 15, 3) := by decide +kernel
theorem d_C_begin_10 : decode b_C_begin 10 = .ok (.aload_n 0, 1) := by decide +kernel
theorem d_C_begin_11 : decode b_C_begin 11 = .ok (.iconst 0, 1) := by decide +kernel
theorem d_C_begin_12 : decode b_C_begin 12 = .ok (.putfield 18, 3) := by decide +kernel
theorem d_C_begin_15 : decode b_C_begin 15 = .ok (.return_, 1) := by decide +kernel
theorem d_S_waitAtAllSites_0 : decode b_S_waitAtAllSites 0 = .ok (.aload_n 0, 1) := by decide +kernel
theorem d_S_waitAtAllSites_1 : decode b_S_waitAtAllSites 1 = .ok (.getfield 80, 3) := by decide +kernel
theorem d_S_waitAtAllSites_4 : decode b_S_waitAtAllSites 4 = .ok (.astore_n 2, 1) := by decide +kernel
theorem d_S_waitAtAllSites_5 : decode b_S_waitAtAllSites 5 = .ok (.aload_n 2, 1) := by decide +kernel
theorem d_S_waitAtAllSites_6 : decode b_S_waitAtAllSites 6 = .ok (.arraylength, 1) := by decide +kernel
theorem d_S_waitAtAllSites_7 : decode b_S_waitAtAllSites 7 = .ok (.istore_n 3, 1) := by decide +kernel
theorem d_S_waitAtAllSites_8 : decode b_S_waitAtAllSites 8 = .ok (.iconst 0, 1) := by decide +kernel
theorem d_S_waitAtAllSites_9 : decode b_S_waitAtAllSites 9 = .ok (.istore 4, 2) := by decide +kernel
theorem d_S_waitAtAllSites_11 : decode b_S_waitAtAllSites 11 = .ok (.iload 4, 2) := by decide +kernel
theorem d_S_waitAtAllSites_13 : decode b_S_waitAtAllSites 13 = .ok (.iload_n 3, 1) := by decide +kernel
theorem d_S_waitAtAllSites_14 : decode b_S_waitAtAllSites 14 = .ok (.if_icmp .ge 25, 3) := by decide +kernel
theorem d_S_waitAtAllSites_17 : decode b_S_waitAtAllSites 17 = .ok (.aload_n 2, 1) := by decide +kernel
theorem d_S_waitAtAllSites_18 : decode b_S_waitAtAllSites 18 = .ok (.iload 4, 2) := by decide +kernel
theorem d_S_waitAtAllSites_20 : decode b_S_waitAtAllSites 20 = .ok (.aaload, 1) := by decide +kernel
theorem d_S_waitAtAllSites_21 : decode b_S_waitAtAllSites 21 = .ok (.astore 5, 2) := by decide +kernel
theorem d_S_waitAtAllSites_23 : decode b_S_waitAtAllSites 23 = .ok (.aload 5, 2) := by decide +kernel
theorem d_S_waitAtAllSites_25 : decode b_S_waitAtAllSites 25 = .ok (.getfield 146, 3) := by decide +kernel
theorem d_S_waitAtAllSites_28 : decode b_S_waitAtAllSites 28 = .ok (.aload_n 1, 1) := by decide +kernel
theorem d_S_waitAtAllSites_29 : decode b_S_waitAtAllSites 29 = .ok (.invokevirtual 113, 3) := by decide +kernel
theorem d_S_waitAtAllSites_32 : decode b_S_waitAtAllSites 32 = .ok (.pop, 1) := by decide +kernel
theorem d_S_waitAtAllSites_33 : decode b_S_waitAtAllSites 33 = .ok (.iinc 4 1, 3) := by decide +kernel
theorem d_S_waitAtAllSites_36 : decode b_S_waitAtAllSites 36 = .ok (.goto (-25), 3) := by decide +kernel
theorem d_S_waitAtAllSites_39 : decode b_S_waitAtAllSites 39 = .ok (.return_, 1) := by decide +kernel
