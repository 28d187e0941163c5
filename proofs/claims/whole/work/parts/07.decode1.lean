theorem d_Ma_floorMod_0 : decode b_Ma_floorMod 0 = .ok (.iload_n 0, 1) := by decide +kernel
theorem d_Ma_floorMod_1 : decode b_Ma_floorMod 1 = .ok (.iload_n 1, 1) := by decide +kernel
theorem d_Ma_floorMod_2 : decode b_Ma_floorMod 2 = .ok (.irem, 1) := by decide +kernel
theorem d_Ma_floorMod_3 : decode b_Ma_floorMod 3 = .ok (.istore_n 2, 1) := by decide +kernel
theorem d_Ma_floorMod_4 : decode b_Ma_floorMod 4 = .ok (.iload_n 0, 1) := by decide +kernel
theorem d_Ma_floorMod_5 : decode b_Ma_floorMod 5 = .ok (.iload_n 1, 1) := by decide +kernel
theorem d_Ma_floorMod_6 : decode b_Ma_floorMod 6 = .ok (.ixor, 1) := by decide +kernel
theorem d_Ma_floorMod_7 : decode b_Ma_floorMod 7 = .ok (.ifCond .ge 11, 3) := by decide +kernel
theorem d_Ma_floorMod_10 : decode b_Ma_floorMod 10 = .ok (.iload_n 2, 1) := by decide +kernel
theorem d_Ma_floorMod_11 : decode b_Ma_floorMod 11 = .ok (.ifCond .eq 7, 3) := by decide +kernel
theorem d_Ma_floorMod_14 : decode b_Ma_floorMod 14 = .ok (.iload_n 2, 1) := by decide +kernel
theorem d_Ma_floorMod_15 : decode b_Ma_floorMod 15 = .ok (.iload_n 1, 1) := by decide +kernel
theorem d_Ma_floorMod_16 : decode b_Ma_floorMod 16 = .ok (.iadd, 1) := by decide +kernel
theorem d_Ma_floorMod_17 : decode b_Ma_floorMod 17 = .ok (.ireturn, 1) := by decide +kernel
theorem d_Ma_floorMod_18 : decode b_Ma_floorMod 18 = .ok (.iload_n 2, 1) := by decide +kernel
theorem d_Ma_floorMod_19 : decode b_Ma_floorMod 19 = .ok (.ireturn, 1) := by decide +kernel
theorem d_K_home_0 : decode b_K_home 0 = .ok (.aload_n 0, 1) := by decide +kernel
theorem d_K_home_1 : decode b_K_home 1 = .ok (.getfield 20, 3) := by decide +kernel
theorem d_K_home_4 : decode b_K_home 4 = .ok (.iload_n 1, 1) := by decide +kernel
theorem d_K_home_5 : decode b_K_home 5 = .ok (.invokestatic 29, 3) := by decide +kernel
theorem d_K_home_8 : decode b_K_home 8 = .ok (.ireturn, 1) := by decide +kernel
theorem d_S_invoke_0 : decode b_S_invoke 0 = .ok (.iload_n 1, 1) := by decide +kernel
theorem d_S_invoke_1 : decode b_S_invoke 1 = .ok (.iconst 4, 1) := by decide +kernel
theorem d_S_invoke_2 : decode b_S_invoke 2 = .ok (.invokestatic 85, 3) := by decide +kernel
theorem d_S_invoke_5 : decode b_S_invoke 5 = .ok (.ifCond .eq 16, 3) := by decide +kernel
theorem d_S_invoke_8 : decode b_S_invoke 8 = .ok (.aload_n 0, 1) := by decide +kernel
theorem d_S_invoke_9 : decode b_S_invoke 9 = .ok (.getfield 21, 3) := by decide +kernel
theorem d_S_invoke_12 : decode b_S_invoke 12 = .ok (.iload_n 1, 1) := by decide +kernel
theorem d_S_invoke_13 : decode b_S_invoke 13 = .ok (.aaload, 1) := by decide +kernel
theorem d_S_invoke_14 : decode b_S_invoke 14 = .ok (.getfield 121, 3) := by decide +kernel
theorem d_S_invoke_17 : decode b_S_invoke 17 = .ok (.iconst 1, 1) := by decide +kernel
theorem d_S_invoke_18 : decode b_S_invoke 18 = .ok (.if_icmp .ne 5, 3) := by decide +kernel
theorem d_S_invoke_21 : decode b_S_invoke 21 = .ok (.iconst (-1), 1) := by decide +kernel
theorem d_S_invoke_22 : decode b_S_invoke 22 = .ok (.ireturn, 1) := by decide +kernel
theorem d_S_invoke_23 : decode b_S_invoke 23 = .ok (.iload_n 2, 1) := by decide +kernel
theorem d_S_invoke_24 : decode b_S_invoke 24 = .ok (.bipush 6, 2) := by decide +kernel
theorem d_S_invoke_26 : decode b_S_invoke 26 = .ok (.invokestatic 85, 3) := by decide +kernel
theorem d_S_invoke_29 : decode b_S_invoke 29 = .ok (.ifCond .eq 15, 3) := by decide +kernel
theorem d_S_invoke_32 : decode b_S_invoke 32 = .ok (.aload_n 0, 1) := by decide +kernel
theorem d_S_invoke_33 : decode b_S_invoke 33 = .ok (.getfield 11, 3) := by decide +kernel
theorem d_S_invoke_36 : decode b_S_invoke 36 = .ok (.iload_n 2, 1) := by decide +kernel
theorem d_S_invoke_37 : decode b_S_invoke 37 = .ok (.aaload, 1) := by decide +kernel
theorem d_S_invoke_38 : decode b_S_invoke 38 = .ok (.getfield 89, 3) := by decide +kernel
theorem d_S_invoke_41 : decode b_S_invoke 41 = .ok (.ifCond .ne 5, 3) := by decide +kernel
theorem d_S_invoke_44 : decode b_S_invoke 44 = .ok (.iconst (-1), 1) := by decide +kernel
theorem d_S_invoke_45 : decode b_S_invoke 45 = .ok (.ireturn, 1) := by decide +kernel
theorem d_S_invoke_46 : decode b_S_invoke 46 = .ok (.aload_n 0, 1) := by decide +kernel
theorem d_S_invoke_47 : decode b_S_invoke 47 = .ok (.getfield 28, 3) := by decide +kernel
theorem d_S_invoke_50 : decode b_S_invoke 50 = .ok (.invokevirtual 104, 3) := by decide +kernel
theorem d_S_invoke_53 : decode b_S_invoke 53 = .ok (.bipush 48, 2) := by decide +kernel
theorem d_S_invoke_55 : decode b_S_invoke 55 = .ok (.if_icmp .lt 6, 3) := by decide +kernel
theorem d_S_invoke_58 : decode b_S_invoke 58 = .ok (.bipush (-2), 2) := by decide +kernel
theorem d_S_invoke_60 : decode b_S_invoke 60 = .ok (.ireturn, 1) := by decide +kernel
theorem d_S_invoke_61 : decode b_S_invoke 61 = .ok (.aload_n 0, 1) := by decide +kernel
theorem d_S_invoke_62 : decode b_S_invoke 62 = .ok (.dup, 1) := by decide +kernel
theorem d_S_invoke_63 : decode b_S_invoke 63 = .ok (.getfield 49, 3) := by decide +kernel
theorem d_S_invoke_66 : decode b_S_invoke 66 = .ok (.iconst 1, 1) := by decide +kernel
theorem d_S_invoke_67 : decode b_S_invoke 67 = .ok (.iadd, 1) := by decide +kernel
theorem d_S_invoke_68 : decode b_S_invoke 68 = .ok (.putfield 49, 3) := by decide +kernel
theorem d_S_invoke_71 : decode b_S_invoke 71 = .ok (.new 124, 3) := by decide +kernel
theorem d_S_invoke_74 : decode b_S_invoke 74 = .ok (.dup, 1) := by decide +kernel
theorem d_S_invoke_75 : decode b_S_invoke 75 = .ok (.aload_n 0, 1) := by decide +kernel
theorem d_S_invoke_76 : decode b_S_invoke 76 = .ok (.getfield 49, 3) := by decide +kernel
theorem d_S_invoke_79 : decode b_S_invoke 79 = .ok (.iload_n 1, 1) := by decide +kernel
theorem d_S_invoke_80 : decode b_S_invoke 80 = .ok (.aload_n 0, 1) := by decide +kernel
theorem d_S_invoke_81 : decode b_S_invoke 81 = .ok (.getfield 11, 3) := by decide +kernel
theorem d_S_invoke_84 : decode b_S_invoke 84 = .ok (.iload_n 2, 1) := by decide +kernel
theorem d_S_invoke_85 : decode b_S_invoke 85 = .ok (.aaload, 1) := by decide +kernel
theorem d_S_invoke_86 : decode b_S_invoke 86 = .ok (.iload_n 3, 1) := by decide +kernel
theorem d_S_invoke_87 : decode b_S_invoke 87 = .ok (.iload 4, 2) := by decide +kernel
theorem d_S_invoke_89 : decode b_S_invoke 89 = .ok (.iload 5, 2) := by decide +kernel
theorem d_S_invoke_91 : decode b_S_invoke 91 = .ok (.invokespecial 126, 3) := by decide +kernel
theorem d_S_invoke_94 : decode b_S_invoke 94 = .ok (.astore 6, 2) := by decide +kernel
theorem d_S_invoke_96 : decode b_S_invoke 96 = .ok (.aload_n 0, 1) := by decide +kernel
theorem d_S_invoke_97 : decode b_S_invoke 97 = .ok (.getfield 28, 3) := by decide +kernel
theorem d_S_invoke_100 : decode b_S_invoke 100 = .ok (.aload 6, 2) := by decide +kernel
theorem d_S_invoke_102 : decode b_S_invoke 102 = .ok (.invokevirtual 113, 3) := by decide +kernel
theorem d_S_invoke_105 : decode b_S_invoke 105 = .ok (.pop, 1) := by decide +kernel
theorem d_S_invoke_106 : decode b_S_invoke 106 = .ok (.aload_n 0, 1) := by decide +kernel
theorem d_S_invoke_107 : decode b_S_invoke 107 = .ok (.getfield 21, 3) := by decide +kernel
theorem d_S_invoke_110 : decode b_S_invoke 110 = .ok (.iload_n 1, 1) := by decide +kernel
theorem d_S_invoke_111 : decode b_S_invoke 111 = .ok (.aaload, 1) := by decide +kernel
theorem d_S_invoke_112 : decode b_S_invoke 112 = .ok (.aload_n 0, 1) := by decide +kernel
theorem d_S_invoke_113 : decode b_S_invoke 113 = .ok (.getfield 49, 3) := by decide +kernel
theorem d_S_invoke_116 : decode b_S_invoke 116 = .ok (.invokevirtual 129, 3) := by decide +kernel
theorem d_S_invoke_119 : decode b_S_invoke 119 = .ok (.aload 6, 2) := by decide +kernel
theorem d_S_invoke_121 : decode b_S_invoke 121 = .ok (.getfield 132, 3) := by decide +kernel
theorem d_S_invoke_124 : decode b_S_invoke 124 = .ok (.getfield 135, 3) := by decide +kernel
theorem d_S_invoke_127 : decode b_S_invoke 127 = .ok (.ifCond .eq 12, 3) := by decide +kernel
theorem d_S_invoke_130 : decode b_S_invoke 130 = .ok (.aload_n 0, 1) := by decide +kernel
theorem d_S_invoke_131 : decode b_S_invoke 131 = .ok (.aload 6, 2) := by decide +kernel
theorem d_S_invoke_133 : decode b_S_invoke 133 = .ok (.invokevirtual 138, 3) := by decide +kernel
theorem d_S_invoke_136 : decode b_S_invoke 136 = .ok (.goto 26, 3) := by decide +kernel
theorem d_S_invoke_139 : decode b_S_invoke 139 = .ok (.aload_n 0, 1) := by decide +kernel
theorem d_S_invoke_140 : decode b_S_invoke 140 = .ok (.getfield 80, 3) := by decide +kernel
theorem d_S_invoke_143 : decode b_S_invoke 143 = .ok (.aload 6, 2) := by decide +kernel
theorem d_S_invoke_145 : decode b_S_invoke 145 = .ok (.aload_n 0, 1) := by decide +kernel
theorem d_S_invoke_146 : decode b_S_invoke 146 = .ok (.getfield 64, 3) := by decide +kernel
theorem d_S_invoke_149 : decode b_S_invoke 149 = .ok (.invokevirtual 142, 3) := by decide +kernel
theorem d_S_invoke_152 : decode b_S_invoke 152 = .ok (.aaload, 1) := by decide +kernel
theorem d_S_invoke_153 : decode b_S_invoke 153 = .ok (.getfield 146, 3) := by decide +kernel
theorem d_S_invoke_156 : decode b_S_invoke 156 = .ok (.aload 6, 2) := by decide +kernel
theorem d_S_invoke_158 : decode b_S_invoke 158 = .ok (.invokevirtual 113, 3) := by decide +kernel
theorem d_S_invoke_161 : decode b_S_invoke 161 = .ok (.pop, 1) := by decide +kernel
theorem d_S_invoke_162 : decode b_S_invoke 162 = .ok (.aload_n 0, 1) := by decide +kernel
theorem d_S_invoke_163 : decode b_S_invoke 163 = .ok (.getfield 49, 3) := by decide +kernel
theorem d_S_invoke_166 : decode b_S_invoke 166 = .ok (.ireturn, 1) := by decide +kernel
theorem d_A_isEmpty_0 : decode b_A_isEmpty 0 = .ok (.aload_n 0, 1) := by decide +kernel
theorem d_A_isEmpty_1 : decode b_A_isEmpty 1 = .ok (.getfield 48, 3) := by decide +kernel
theorem d_A_isEmpty_4 : decode b_A_isEmpty 4 = .ok (.ifCond .ne 7, 3) := by decide +kernel
theorem d_A_isEmpty_7 : decode b_A_isEmpty 7 = .ok (.iconst 1, 1) := by decide +kernel
theorem d_A_isEmpty_8 : decode b_A_isEmpty 8 = .ok (.goto 4, 3) := by decide +kernel
theorem d_A_isEmpty_11 : decode b_A_isEmpty 11 = .ok (.iconst 0, 1) := by decide +kernel
theorem d_A_isEmpty_12 : decode b_A_isEmpty 12 = .ok (.ireturn, 1) := by decide +kernel
theorem d_Q_first_0 : decode b_Q_first 0 = .ok (.aload_n 0, 1) := by decide +kernel
theorem d_Q_first_1 : decode b_Q_first 1 = .ok (.getfield 10, 3) := by decide +kernel
theorem d_Q_first_4 : decode b_Q_first 4 = .ok (.invokevirtual 27, 3) := by decide +kernel
theorem d_Q_first_7 : decode b_Q_first 7 = .ok (.ifCond .eq 7, 3) := by decide +kernel
theorem d_Q_first_10 : decode b_Q_first 10 = .ok (.aconst_null, 1) := by decide +kernel
theorem d_Q_first_11 : decode b_Q_first 11 = .ok (.goto 14, 3) := by decide +kernel
theorem d_Q_first_14 : decode b_Q_first 14 = .ok (.aload_n 0, 1) := by decide +kernel
theorem d_Q_first_15 : decode b_Q_first 15 = .ok (.getfield 10, 3) := by decide +kernel
theorem d_Q_first_18 : decode b_Q_first 18 = .ok (.iconst 0, 1) := by decide +kernel
theorem d_Q_first_19 : decode b_Q_first 19 = .ok (.invokevirtual 31, 3) := by decide +kernel
theorem d_Q_first_22 : decode b_Q_first 22 = .ok (.checkcast 35, 3) := by decide +kernel
theorem d_Q_first_25 : decode b_Q_first 25 = .ok (.areturn, 1) := by decide +kernel
theorem d_A_fastRemove_0 : decode b_A_fastRemove 0 = .ok (.aload_n 0, 1) := by decide +kernel
theorem d_A_fastRemove_1 : decode b_A_fastRemove 1 = .ok (.dup, 1) := by decide +kernel
theorem d_A_fastRemove_2 : decode b_A_fastRemove 2 = .ok (.getfield 63, 3) := by decide +kernel
theorem d_A_fastRemove_5 : decode b_A_fastRemove 5 = .ok (.iconst 1, 1) := by decide +kernel
theorem d_A_fastRemove_6 : decode b_A_fastRemove 6 = .ok (.iadd, 1) := by decide +kernel
theorem d_A_fastRemove_7 : decode b_A_fastRemove 7 = .ok (.putfield 63, 3) := by decide +kernel
theorem d_A_fastRemove_10 : decode b_A_fastRemove 10 = .ok (.aload_n 0, 1) := by decide +kernel
theorem d_A_fastRemove_11 : decode b_A_fastRemove 11 = .ok (.getfield 48, 3) := by decide +kernel
theorem d_A_fastRemove_14 : decode b_A_fastRemove 14 = .ok (.iconst 1, 1) := by decide +kernel
theorem d_A_fastRemove_15 : decode b_A_fastRemove 15 = .ok (.isub, 1) := by decide +kernel
theorem d_A_fastRemove_16 : decode b_A_fastRemove 16 = .ok (.dup, 1) := by decide +kernel
theorem d_A_fastRemove_17 : decode b_A_fastRemove 17 = .ok (.istore_n 3, 1) := by decide +kernel
theorem d_A_fastRemove_18 : decode b_A_fastRemove 18 = .ok (.iload_n 2, 1) := by decide +kernel
theorem d_A_fastRemove_19 : decode b_A_fastRemove 19 = .ok (.if_icmp .le 15, 3) := by decide +kernel
theorem d_A_fastRemove_22 : decode b_A_fastRemove 22 = .ok (.aload_n 1, 1) := by decide +kernel
theorem d_A_fastRemove_23 : decode b_A_fastRemove 23 = .ok (.iload_n 2, 1) := by decide +kernel
theorem d_A_fastRemove_24 : decode b_A_fastRemove 24 = .ok (.iconst 1, 1) := by decide +kernel
theorem d_A_fastRemove_25 : decode b_A_fastRemove 25 = .ok (.iadd, 1) := by decide +kernel
theorem d_A_fastRemove_26 : decode b_A_fastRemove 26 = .ok (.aload_n 1, 1) := by decide +kernel
theorem d_A_fastRemove_27 : decode b_A_fastRemove 27 = .ok (.iload_n 2, 1) := by decide +kernel
theorem d_A_fastRemove_28 : decode b_A_fastRemove 28 = .ok (.iload_n 3, 1) := by decide +kernel
theorem d_A_fastRemove_29 : decode b_A_fastRemove 29 = .ok (.iload_n 2, 1) := by decide +kernel
theorem d_A_fastRemove_30 : decode b_A_fastRemove 30 = .ok (.isub, 1) := by decide +kernel
theorem d_A_fastRemove_31 : decode b_A_fastRemove 31 = .ok (.invokestatic 112, 3) := by decide +kernel
theorem d_A_fastRemove_34 : decode b_A_fastRemove 34 = .ok (.aload_n 1, 1) := by decide +kernel
theorem d_A_fastRemove_35 : decode b_A_fastRemove 35 = .ok (.aload_n 0, 1) := by decide +kernel
theorem d_A_fastRemove_36 : decode b_A_fastRemove 36 = .ok (.iload_n 3, 1) := by decide +kernel
theorem d_A_fastRemove_37 : decode b_A_fastRemove 37 = .ok (.dup_x1, 1) := by decide +kernel
theorem d_A_fastRemove_38 : decode b_A_fastRemove 38 = .ok (.putfield 48, 3) := by decide +kernel
theorem d_A_fastRemove_41 : decode b_A_fastRemove 41 = .ok (.aconst_null, 1) := by decide +kernel
theorem d_A_fastRemove_42 : decode b_A_fastRemove 42 = .ok (.aastore, 1) := by decide +kernel
theorem d_A_fastRemove_43 : decode b_A_fastRemove 43 = .ok (.return_, 1) := by decide +kernel
theorem d_A_remove_0 : decode b_A_remove 0 = .ok (.iload_n 1, 1) := by decide +kernel
theorem d_A_remove_1 : decode b_A_remove 1 = .ok (.aload_n 0, 1) := by decide +kernel
theorem d_A_remove_2 : decode b_A_remove 2 = .ok (.getfield 48, 3) := by decide +kernel
theorem d_A_remove_5 : decode b_A_remove 5 = .ok (.invokestatic 118, 3) := by decide +kernel
theorem d_A_remove_8 : decode b_A_remove 8 = .ok (.pop, 1) := by decide +kernel
theorem d_A_remove_9 : decode b_A_remove 9 = .ok (.aload_n 0, 1) := by decide +kernel
theorem d_A_remove_10 : decode b_A_remove 10 = .ok (.getfield 9, 3) := by decide +kernel
theorem d_A_remove_13 : decode b_A_remove 13 = .ok (.astore_n 2, 1) := by decide +kernel
theorem d_A_remove_14 : decode b_A_remove 14 = .ok (.aload_n 2, 1) := by decide +kernel
theorem d_A_remove_15 : decode b_A_remove 15 = .ok (.iload_n 1, 1) := by decide +kernel
theorem d_A_remove_16 : decode b_A_remove 16 = .ok (.aaload, 1) := by decide +kernel
theorem d_A_remove_17 : decode b_A_remove 17 = .ok (.astore_n 3, 1) := by decide +kernel
theorem d_A_remove_18 : decode b_A_remove 18 = .ok (.aload_n 0, 1) := by decide +kernel
theorem d_A_remove_19 : decode b_A_remove 19 = .ok (.aload_n 2, 1) := by decide +kernel
theorem d_A_remove_20 : decode b_A_remove 20 = .ok (.iload_n 1, 1) := by decide +kernel
theorem d_A_remove_21 : decode b_A_remove 21 = .ok (.invokevirtual 144, 3) := by decide +kernel
theorem d_A_remove_24 : decode b_A_remove 24 = .ok (.aload_n 3, 1) := by decide +kernel
theorem d_A_remove_25 : decode b_A_remove 25 = .ok (.areturn, 1) := by decide +kernel
theorem d_Q_passOn_0 : decode b_Q_passOn 0 = .ok (.aload_n 0, 1) := by decide +kernel
theorem d_Q_passOn_1 : decode b_Q_passOn 1 = .ok (.iconst 0, 1) := by decide +kernel
theorem d_Q_passOn_2 : decode b_Q_passOn 2 = .ok (.putfield 16, 3) := by decide +kernel
theorem d_Q_passOn_5 : decode b_Q_passOn 5 = .ok (.aload_n 0, 1) := by decide +kernel
theorem d_Q_passOn_6 : decode b_Q_passOn 6 = .ok (.getfield 10, 3) := by decide +kernel
theorem d_Q_passOn_9 : decode b_Q_passOn 9 = .ok (.invokevirtual 27, 3) := by decide +kernel
theorem d_Q_passOn_12 : decode b_Q_passOn 12 = .ok (.ifCond .ne 12, 3) := by decide +kernel
theorem d_Q_passOn_15 : decode b_Q_passOn 15 = .ok (.aload_n 0, 1) := by decide +kernel
theorem d_Q_passOn_16 : decode b_Q_passOn 16 = .ok (.getfield 10, 3) := by decide +kernel
theorem d_Q_passOn_19 : decode b_Q_passOn 19 = .ok (.iconst 0, 1) := by decide +kernel
theorem d_Q_passOn_20 : decode b_Q_passOn 20 = .ok (.invokevirtual 37, 3) := by decide +kernel
theorem d_Q_passOn_23 : decode b_Q_passOn 23 = .ok (.pop, 1) := by decide +kernel
theorem d_Q_passOn_24 : decode b_Q_passOn 24 = .ok (.return_, 1) := by decide +kernel
theorem d_B_copyPart_0 : decode b_B_copyPart 0 = .ok (.iconst 0, 1) := by decide +kernel
theorem d_B_copyPart_1 : decode b_B_copyPart 1 = .ok (.istore 4, 2) := by decide +kernel
theorem d_B_copyPart_3 : decode b_B_copyPart 3 = .ok (.iload 4, 2) := by decide +kernel
theorem d_B_copyPart_5 : decode b_B_copyPart 5 = .ok (.bipush 32, 2) := by decide +kernel
theorem d_B_copyPart_7 : decode b_B_copyPart 7 = .ok (.if_icmp .ge 31, 3) := by decide +kernel
theorem d_B_copyPart_10 : decode b_B_copyPart 10 = .ok (.iload 4, 2) := by decide +kernel
theorem d_B_copyPart_12 : decode b_B_copyPart 12 = .ok (.iload_n 3, 1) := by decide +kernel
theorem d_B_copyPart_13 : decode b_B_copyPart 13 = .ok (.irem, 1) := by decide +kernel
theorem d_B_copyPart_14 : decode b_B_copyPart 14 = .ok (.iload_n 2, 1) := by decide +kernel
theorem d_B_copyPart_15 : decode b_B_copyPart 15 = .ok (.if_icmp .ne 17, 3) := by decide +kernel
theorem d_B_copyPart_18 : decode b_B_copyPart 18 = .ok (.aload_n 0, 1) := by decide +kernel
theorem d_B_copyPart_19 : decode b_B_copyPart 19 = .ok (.getfield 9, 3) := by decide +kernel
theorem d_B_copyPart_22 : decode b_B_copyPart 22 = .ok (.iload 4, 2) := by decide +kernel
theorem d_B_copyPart_24 : decode b_B_copyPart 24 = .ok (.aload_n 1, 1) := by decide +kernel
theorem d_B_copyPart_25 : decode b_B_copyPart 25 = .ok (.getfield 9, 3) := by decide +kernel
theorem d_B_copyPart_28 : decode b_B_copyPart 28 = .ok (.iload 4, 2) := by decide +kernel
theorem d_B_copyPart_30 : decode b_B_copyPart 30 = .ok (.laload, 1) := by decide +kernel
theorem d_B_copyPart_31 : decode b_B_copyPart 31 = .ok (.lastore, 1) := by decide +kernel
theorem d_B_copyPart_32 : decode b_B_copyPart 32 = .ok (.iinc 4 1, 3) := by decide +kernel
theorem d_B_copyPart_35 : decode b_B_copyPart 35 = .ok (.goto (-32), 3) := by decide +kernel
theorem d_B_copyPart_38 : decode b_B_copyPart 38 = .ok (.return_, 1) := by decide +kernel
theorem d_B_copyCells_0 : decode b_B_copyCells 0 = .ok (.aload_n 1, 1) := by decide +kernel
theorem d_B_copyCells_1 : decode b_B_copyCells 1 = .ok (.getfield 15, 3) := by decide +kernel
theorem d_B_copyCells_4 : decode b_B_copyCells 4 = .ok (.iconst 0, 1) := by decide +kernel
theorem d_B_copyCells_5 : decode b_B_copyCells 5 = .ok (.aload_n 0, 1) := by decide +kernel
theorem d_B_copyCells_6 : decode b_B_copyCells 6 = .ok (.getfield 15, 3) := by decide +kernel
theorem d_B_copyCells_9 : decode b_B_copyCells 9 = .ok (.iconst 0, 1) := by decide +kernel
theorem d_B_copyCells_10 : decode b_B_copyCells 10 = .ok (.bipush 8, 2) := by decide +kernel
theorem d_B_copyCells_12 : decode b_B_copyCells 12 = .ok (.invokestatic 27, 3) := by decide +kernel
theorem d_B_copyCells_15 : decode b_B_copyCells 15 = .ok (.return_, 1) := by decide +kernel
theorem d_B_countPart_0 : decode b_B_countPart 0 = .ok (.iconst 0, 1) := by decide +kernel
theorem d_B_countPart_1 : decode b_B_countPart 1 = .ok (.istore_n 3, 1) := by decide +kernel
theorem d_B_countPart_2 : decode b_B_countPart 2 = .ok (.iconst 0, 1) := by decide +kernel
theorem d_B_countPart_3 : decode b_B_countPart 3 = .ok (.istore 4, 2) := by decide +kernel
theorem d_B_countPart_5 : decode b_B_countPart 5 = .ok (.iload 4, 2) := by decide +kernel
theorem d_B_countPart_7 : decode b_B_countPart 7 = .ok (.bipush 32, 2) := by decide +kernel
theorem d_B_countPart_9 : decode b_B_countPart 9 = .ok (.if_icmp .ge 34, 3) := by decide +kernel
theorem d_B_countPart_12 : decode b_B_countPart 12 = .ok (.iload 4, 2) := by decide +kernel
theorem d_B_countPart_14 : decode b_B_countPart 14 = .ok (.iload_n 2, 1) := by decide +kernel
theorem d_B_countPart_15 : decode b_B_countPart 15 = .ok (.irem, 1) := by decide +kernel
theorem d_B_countPart_16 : decode b_B_countPart 16 = .ok (.iload_n 1, 1) := by decide +kernel
theorem d_B_countPart_17 : decode b_B_countPart 17 = .ok (.if_icmp .ne 20, 3) := by decide +kernel
theorem d_B_countPart_20 : decode b_B_countPart 20 = .ok (.aload_n 0, 1) := by decide +kernel
theorem d_B_countPart_21 : decode b_B_countPart 21 = .ok (.getfield 9, 3) := by decide +kernel
theorem d_B_countPart_24 : decode b_B_countPart 24 = .ok (.iload 4, 2) := by decide +kernel
theorem d_B_countPart_26 : decode b_B_countPart 26 = .ok (.laload, 1) := by decide +kernel
theorem d_B_countPart_27 : decode b_B_countPart 27 = .ok (.ldc2_w 19, 3) := by decide +kernel
theorem d_B_countPart_30 : decode b_B_countPart 30 = .ok (.lcmp, 1) := by decide +kernel
theorem d_B_countPart_31 : decode b_B_countPart 31 = .ok (.ifCond .eq 6, 3) := by decide +kernel
theorem d_B_countPart_34 : decode b_B_countPart 34 = .ok (.iinc 3 1, 3) := by decide +kernel
theorem d_B_countPart_37 : decode b_B_countPart 37 = .ok (.iinc 4 1, 3) := by decide +kernel
theorem d_B_countPart_40 : decode b_B_countPart 40 = .ok (.goto (-35), 3) := by decide +kernel
theorem d_B_countPart_43 : decode b_B_countPart 43 = .ok (.iload_n 3, 1) := by decide +kernel
theorem d_B_countPart_44 : decode b_B_countPart 44 = .ok (.ireturn, 1) := by decide +kernel
theorem d_Q_beginPart_0 : decode b_Q_beginPart 0 = .ok (.aload_n 0, 1) := by decide +kernel
theorem d_Q_beginPart_1 : decode b_Q_beginPart 1 = .ok (.iconst 1, 1) := by decide +kernel
theorem d_Q_beginPart_2 : decode b_Q_beginPart 2 = .ok (.putfield 20, 3) := by decide +kernel
theorem d_Q_beginPart_5 : decode b_Q_beginPart 5 = .ok (.aload_n 0, 1) := by decide +kernel
theorem d_Q_beginPart_6 : decode b_Q_beginPart 6 = .ok (.iload_n 1, 1) := by decide +kernel
theorem d_Q_beginPart_7 : decode b_Q_beginPart 7 = .ok (.putfield 23, 3) := by decide +kernel
theorem d_Q_beginPart_10 : decode b_Q_beginPart 10 = .ok (.return_, 1) := by decide +kernel
theorem d_B_copyFrom_0 : decode b_B_copyFrom 0 = .ok (.aload_n 1, 1) := by decide +kernel
theorem d_B_copyFrom_1 : decode b_B_copyFrom 1 = .ok (.getfield 9, 3) := by decide +kernel
theorem d_B_copyFrom_4 : decode b_B_copyFrom 4 = .ok (.iconst 0, 1) := by decide +kernel
theorem d_B_copyFrom_5 : decode b_B_copyFrom 5 = .ok (.aload_n 0, 1) := by decide +kernel
theorem d_B_copyFrom_6 : decode b_B_copyFrom 6 = .ok (.getfield 9, 3) := by decide +kernel
theorem d_B_copyFrom_9 : decode b_B_copyFrom 9 = .ok (.iconst 0, 1) := by decide +kernel
theorem d_B_copyFrom_10 : decode b_B_copyFrom 10 = .ok (.bipush 32, 2) := by decide +kernel
theorem d_B_copyFrom_12 : decode b_B_copyFrom 12 = .ok (.invokestatic 27, 3) := by decide +kernel
theorem d_B_copyFrom_15 : decode b_B_copyFrom 15 = .ok (.aload_n 0, 1) := by decide +kernel
theorem d_B_copyFrom_16 : decode b_B_copyFrom 16 = .ok (.aload_n 1, 1) := by decide +kernel
theorem d_B_copyFrom_17 : decode b_B_copyFrom 17 = .ok (.invokevirtual 33, 3) := by decide +kernel
theorem d_B_copyFrom_20 : decode b_B_copyFrom 20 = .ok (.return_, 1) := by decide +kernel
theorem d_S_dropLogUpTo_0 : decode b_S_dropLogUpTo 0 = .ok (.aload_n 0, 1) := by decide +kernel
theorem d_S_dropLogUpTo_1 : decode b_S_dropLogUpTo 1 = .ok (.getfield 28, 3) := by decide +kernel
theorem d_S_dropLogUpTo_4 : decode b_S_dropLogUpTo 4 = .ok (.invokevirtual 104, 3) := by decide +kernel
theorem d_S_dropLogUpTo_7 : decode b_S_dropLogUpTo 7 = .ok (.istore_n 2, 1) := by decide +kernel
theorem d_S_dropLogUpTo_8 : decode b_S_dropLogUpTo 8 = .ok (.iload_n 2, 1) := by decide +kernel
theorem d_S_dropLogUpTo_9 : decode b_S_dropLogUpTo 9 = .ok (.ifCond .le 36, 3) := by decide +kernel
theorem d_S_dropLogUpTo_12 : decode b_S_dropLogUpTo 12 = .ok (.aload_n 0, 1) := by decide +kernel
theorem d_S_dropLogUpTo_13 : decode b_S_dropLogUpTo 13 = .ok (.getfield 28, 3) := by decide +kernel
theorem d_S_dropLogUpTo_16 : decode b_S_dropLogUpTo 16 = .ok (.iconst 0, 1) := by decide +kernel
theorem d_S_dropLogUpTo_17 : decode b_S_dropLogUpTo 17 = .ok (.invokevirtual 198, 3) := by decide +kernel
theorem d_S_dropLogUpTo_20 : decode b_S_dropLogUpTo 20 = .ok (.checkcast 124, 3) := by decide +kernel
theorem d_S_dropLogUpTo_23 : decode b_S_dropLogUpTo 23 = .ok (.getfield 248, 3) := by decide +kernel
theorem d_S_dropLogUpTo_26 : decode b_S_dropLogUpTo 26 = .ok (.iload_n 1, 1) := by decide +kernel
theorem d_S_dropLogUpTo_27 : decode b_S_dropLogUpTo 27 = .ok (.if_icmp .gt 18, 3) := by decide +kernel
theorem d_S_dropLogUpTo_30 : decode b_S_dropLogUpTo 30 = .ok (.aload_n 0, 1) := by decide +kernel
theorem d_S_dropLogUpTo_31 : decode b_S_dropLogUpTo 31 = .ok (.getfield 28, 3) := by decide +kernel
theorem d_S_dropLogUpTo_34 : decode b_S_dropLogUpTo 34 = .ok (.iconst 0, 1) := by decide +kernel
theorem d_S_dropLogUpTo_35 : decode b_S_dropLogUpTo 35 = .ok (.invokevirtual 251, 3) := by decide +kernel
theorem d_S_dropLogUpTo_38 : decode b_S_dropLogUpTo 38 = .ok (.pop, 1) := by decide +kernel
theorem d_S_dropLogUpTo_39 : decode b_S_dropLogUpTo 39 = .ok (.iinc 2 (-1), 3) := by decide +kernel
theorem d_S_dropLogUpTo_42 : decode b_S_dropLogUpTo 42 = .ok (.goto (-34), 3) := by decide +kernel
theorem d_S_dropLogUpTo_45 : decode b_S_dropLogUpTo 45 = .ok (.return_, 1) := by decide +kernel
theorem d_C_settle_0 : decode b_C_settle 0 = .ok (.aload_n 0, 1) := by decide +kernel
theorem d_C_settle_1 : decode b_C_settle 1 = .ok (.getfield 9, 3) := by decide +kernel
theorem d_C_settle_4 : decode b_C_settle 4 = .ok (.iconst 1, 1) := by decide +kernel
theorem d_C_settle_5 : decode b_C_settle 5 = .ok (.if_icmp .ne 34, 3) := by decide +kernel
theorem d_C_settle_8 : decode b_C_settle 8 = .ok (.aload_n 0, 1) := by decide +kernel
theorem d_C_settle_9 : decode b_C_settle 9 = .ok (.getfield 18, 3) := by decide +kernel
theorem d_C_settle_12 : decode b_C_settle 12 = .ok (.ifCond .eq 27, 3) := by decide +kernel
theorem d_C_settle_15 : decode b_C_settle 15 = .ok (.aload_n 0, 1) := by decide +kernel
theorem d_C_settle_16 : decode b_C_settle 16 = .ok (.getfield 15, 3) := by decide +kernel
theorem d_C_settle_19 : decode b_C_settle 19 = .ok (.iload_n 1, 1) := by decide +kernel
theorem d_C_settle_20 : decode b_C_settle 20 = .ok (.if_icmp .gt 19, 3) := by decide +kernel
theorem d_C_settle_23 : decode b_C_settle 23 = .ok (.aload_n 0, 1) := by decide +kernel
theorem d_C_settle_24 : decode b_C_settle 24 = .ok (.aload_n 0, 1) := by decide +kernel
theorem d_C_settle_25 : decode b_C_settle 25 = .ok (.getfield 22, 3) := by decide +kernel
theorem d_C_settle_28 : decode b_C_settle 28 = .ok (.ifCond .eq 7, 3) := by decide +kernel
theorem d_C_settle_31 : decode b_C_settle 31 = .ok (.iconst 2, 1) := by decide +kernel
theorem d_C_settle_32 : decode b_C_settle 32 = .ok (.goto 4, 3) := by decide +kernel
theorem d_C_settle_35 : decode b_C_settle 35 = .ok (.iconst 3, 1) := by decide +kernel
theorem d_C_settle_36 : decode b_C_settle 36 = .ok (.putfield 9, 3) := by decide +kernel
theorem d_C_settle_39 : decode b_C_settle 39 = .ok (.return_, 1) := by decide +kernel
theorem d_S_raiseDurable_0 : decode b_S_raiseDurable 0 = .ok (.aload_n 0, 1) := by decide +kernel
theorem d_S_raiseDurable_1 : decode b_S_raiseDurable 1 = .ok (.aload_n 0, 1) := by decide +kernel
theorem d_S_raiseDurable_2 : decode b_S_raiseDurable 2 = .ok (.getfield 52, 3) := by decide +kernel
theorem d_S_raiseDurable_5 : decode b_S_raiseDurable 5 = .ok (.iload_n 1, 1) := by decide +kernel
theorem d_S_raiseDurable_6 : decode b_S_raiseDurable 6 = .ok (.invokestatic 61, 3) := by decide +kernel
theorem d_S_raiseDurable_9 : decode b_S_raiseDurable 9 = .ok (.putfield 52, 3) := by decide +kernel
theorem d_S_raiseDurable_12 : decode b_S_raiseDurable 12 = .ok (.aload_n 0, 1) := by decide +kernel
theorem d_S_raiseDurable_13 : decode b_S_raiseDurable 13 = .ok (.getfield 21, 3) := by decide +kernel
theorem d_S_raiseDurable_16 : decode b_S_raiseDurable 16 = .ok (.astore_n 2, 1) := by decide +kernel
theorem d_S_raiseDurable_17 : decode b_S_raiseDurable 17 = .ok (.aload_n 2, 1) := by decide +kernel
theorem d_S_raiseDurable_18 : decode b_S_raiseDurable 18 = .ok (.arraylength, 1) := by decide +kernel
theorem d_S_raiseDurable_19 : decode b_S_raiseDurable 19 = .ok (.istore_n 3, 1) := by decide +kernel
theorem d_S_raiseDurable_20 : decode b_S_raiseDurable 20 = .ok (.iconst 0, 1) := by decide +kernel
theorem d_S_raiseDurable_21 : decode b_S_raiseDurable 21 = .ok (.istore 4, 2) := by decide +kernel
theorem d_S_raiseDurable_23 : decode b_S_raiseDurable 23 = .ok (.iload 4, 2) := by decide +kernel
theorem d_S_raiseDurable_25 : decode b_S_raiseDurable 25 = .ok (.iload_n 3, 1) := by decide +kernel
theorem d_S_raiseDurable_26 : decode b_S_raiseDurable 26 = .ok (.if_icmp .ge 24, 3) := by decide +kernel
theorem d_S_raiseDurable_29 : decode b_S_raiseDurable 29 = .ok (.aload_n 2, 1) := by decide +kernel
theorem d_S_raiseDurable_30 : decode b_S_raiseDurable 30 = .ok (.iload 4, 2) := by decide +kernel
theorem d_S_raiseDurable_32 : decode b_S_raiseDurable 32 = .ok (.aaload, 1) := by decide +kernel
theorem d_S_raiseDurable_33 : decode b_S_raiseDurable 33 = .ok (.astore 5, 2) := by decide +kernel
theorem d_S_raiseDurable_35 : decode b_S_raiseDurable 35 = .ok (.aload 5, 2) := by decide +kernel
theorem d_S_raiseDurable_37 : decode b_S_raiseDurable 37 = .ok (.aload_n 0, 1) := by decide +kernel
theorem d_S_raiseDurable_38 : decode b_S_raiseDurable 38 = .ok (.getfield 52, 3) := by decide +kernel
theorem d_S_raiseDurable_41 : decode b_S_raiseDurable 41 = .ok (.invokevirtual 232, 3) := by decide +kernel
theorem d_S_raiseDurable_44 : decode b_S_raiseDurable 44 = .ok (.iinc 4 1, 3) := by decide +kernel
theorem d_S_raiseDurable_47 : decode b_S_raiseDurable 47 = .ok (.goto (-24), 3) := by decide +kernel
theorem d_S_raiseDurable_50 : decode b_S_raiseDurable 50 = .ok (.return_, 1) := by decide +kernel
theorem d_S_completeSnapshotIfCopied_0 : decode b_S_completeSnapshotIfCopied 0 = .ok (.aload_n 0, 1) := by decide +kernel
theorem d_S_completeSnapshotIfCopied_1 : decode b_S_completeSnapshotIfCopied 1 = .ok (.getfield 80, 3) := by decide +kernel
theorem d_S_completeSnapshotIfCopied_4 : decode b_S_completeSnapshotIfCopied 4 = .ok (.astore_n 1, 1) := by decide +kernel
theorem d_S_completeSnapshotIfCopied_5 : decode b_S_completeSnapshotIfCopied 5 = .ok (.aload_n 1, 1) := by decide +kernel
theorem d_S_completeSnapshotIfCopied_6 : decode b_S_completeSnapshotIfCopied 6 = .ok (.arraylength, 1) := by decide +kernel
theorem d_S_completeSnapshotIfCopied_7 : decode b_S_completeSnapshotIfCopied 7 = .ok (.istore_n 2, 1) := by decide +kernel
theorem d_S_completeSnapshotIfCopied_8 : decode b_S_completeSnapshotIfCopied 8 = .ok (.iconst 0, 1) := by decide +kernel
theorem d_S_completeSnapshotIfCopied_9 : decode b_S_completeSnapshotIfCopied 9 = .ok (.istore_n 3, 1) := by decide +kernel
theorem d_S_completeSnapshotIfCopied_10 : decode b_S_completeSnapshotIfCopied 10 = .ok (.iload_n 3, 1) := by decide +kernel
theorem d_S_completeSnapshotIfCopied_11 : decode b_S_completeSnapshotIfCopied 11 = .ok (.iload_n 2, 1) := by decide +kernel
theorem d_S_completeSnapshotIfCopied_12 : decode b_S_completeSnapshotIfCopied 12 = .ok (.if_icmp .ge 31, 3) := by decide +kernel
theorem d_S_completeSnapshotIfCopied_15 : decode b_S_completeSnapshotIfCopied 15 = .ok (.aload_n 1, 1) := by decide +kernel
theorem d_S_completeSnapshotIfCopied_16 : decode b_S_completeSnapshotIfCopied 16 = .ok (.iload_n 3, 1) := by decide +kernel
theorem d_S_completeSnapshotIfCopied_17 : decode b_S_completeSnapshotIfCopied 17 = .ok (.aaload, 1) := by decide +kernel
theorem d_S_completeSnapshotIfCopied_18 : decode b_S_completeSnapshotIfCopied 18 = .ok (.astore 4, 2) := by decide +kernel
theorem d_S_completeSnapshotIfCopied_20 : decode b_S_completeSnapshotIfCopied 20 = .ok (.aload 4, 2) := by decide +kernel
theorem d_S_completeSnapshotIfCopied_22 : decode b_S_completeSnapshotIfCopied 22 = .ok (.getfield 174, 3) := by decide +kernel
theorem d_S_completeSnapshotIfCopied_25 : decode b_S_completeSnapshotIfCopied 25 = .ok (.ifCond .eq 11, 3) := by decide +kernel
theorem d_S_completeSnapshotIfCopied_28 : decode b_S_completeSnapshotIfCopied 28 = .ok (.aload 4, 2) := by decide +kernel
theorem d_S_completeSnapshotIfCopied_30 : decode b_S_completeSnapshotIfCopied 30 = .ok (.getfield 177, 3) := by decide +kernel
theorem d_S_completeSnapshotIfCopied_33 : decode b_S_completeSnapshotIfCopied 33 = .ok (.ifCond .le 4, 3) := by decide +kernel
theorem d_S_completeSnapshotIfCopied_36 : decode b_S_completeSnapshotIfCopied 36 = .ok (.return_, 1) := by decide +kernel
theorem d_S_completeSnapshotIfCopied_37 : decode b_S_completeSnapshotIfCopied 37 = .ok (.iinc 3 1, 3) := by decide +kernel
theorem d_S_completeSnapshotIfCopied_40 : decode b_S_completeSnapshotIfCopied 40 = .ok (.goto (-30), 3) := by decide +kernel
theorem d_S_completeSnapshotIfCopied_43 : decode b_S_completeSnapshotIfCopied 43 = .ok (.aload_n 0, 1) := by decide +kernel
theorem d_S_completeSnapshotIfCopied_44 : decode b_S_completeSnapshotIfCopied 44 = .ok (.getfield 35, 3) := by decide +kernel
theorem d_S_completeSnapshotIfCopied_47 : decode b_S_completeSnapshotIfCopied 47 = .ok (.aload_n 0, 1) := by decide +kernel
theorem d_S_completeSnapshotIfCopied_48 : decode b_S_completeSnapshotIfCopied 48 = .ok (.getfield 43, 3) := by decide +kernel
theorem d_S_completeSnapshotIfCopied_51 : decode b_S_completeSnapshotIfCopied 51 = .ok (.invokevirtual 194, 3) := by decide +kernel
theorem d_S_completeSnapshotIfCopied_54 : decode b_S_completeSnapshotIfCopied 54 = .ok (.aload_n 0, 1) := by decide +kernel
theorem d_S_completeSnapshotIfCopied_55 : decode b_S_completeSnapshotIfCopied 55 = .ok (.aload_n 0, 1) := by decide +kernel
theorem d_S_completeSnapshotIfCopied_56 : decode b_S_completeSnapshotIfCopied 56 = .ok (.getfield 46, 3) := by decide +kernel
theorem d_S_completeSnapshotIfCopied_59 : decode b_S_completeSnapshotIfCopied 59 = .ok (.putfield 39, 3) := by decide +kernel
theorem d_S_completeSnapshotIfCopied_62 : decode b_S_completeSnapshotIfCopied 62 = .ok (.aload_n 0, 1) := by decide +kernel
theorem d_S_completeSnapshotIfCopied_63 : decode b_S_completeSnapshotIfCopied 63 = .ok (.iconst 0, 1) := by decide +kernel
theorem d_S_completeSnapshotIfCopied_64 : decode b_S_completeSnapshotIfCopied 64 = .ok (.putfield 46, 3) := by decide +kernel
theorem d_S_completeSnapshotIfCopied_67 : decode b_S_completeSnapshotIfCopied 67 = .ok (.aload_n 0, 1) := by decide +kernel
theorem d_S_completeSnapshotIfCopied_68 : decode b_S_completeSnapshotIfCopied 68 = .ok (.aload_n 0, 1) := by decide +kernel
theorem d_S_completeSnapshotIfCopied_69 : decode b_S_completeSnapshotIfCopied 69 = .ok (.getfield 39, 3) := by decide +kernel
theorem d_S_completeSnapshotIfCopied_72 : decode b_S_completeSnapshotIfCopied 72 = .ok (.invokevirtual 245, 3) := by decide +kernel
theorem d_S_completeSnapshotIfCopied_75 : decode b_S_completeSnapshotIfCopied 75 = .ok (.aload_n 0, 1) := by decide +kernel
theorem d_S_completeSnapshotIfCopied_76 : decode b_S_completeSnapshotIfCopied 76 = .ok (.aload_n 0, 1) := by decide +kernel
theorem d_S_completeSnapshotIfCopied_77 : decode b_S_completeSnapshotIfCopied 77 = .ok (.getfield 39, 3) := by decide +kernel
theorem d_S_completeSnapshotIfCopied_80 : decode b_S_completeSnapshotIfCopied 80 = .ok (.invokevirtual 171, 3) := by decide +kernel
theorem d_S_completeSnapshotIfCopied_83 : decode b_S_completeSnapshotIfCopied 83 = .ok (.return_, 1) := by decide +kernel
theorem d_S_comeToMarker_0 : decode b_S_comeToMarker 0 = .ok (.aload_n 0, 1) := by decide +kernel
theorem d_S_comeToMarker_1 : decode b_S_comeToMarker 1 = .ok (.getfield 80, 3) := by decide +kernel
theorem d_S_comeToMarker_4 : decode b_S_comeToMarker 4 = .ok (.iload_n 1, 1) := by decide +kernel
theorem d_S_comeToMarker_5 : decode b_S_comeToMarker 5 = .ok (.aaload, 1) := by decide +kernel
theorem d_S_comeToMarker_6 : decode b_S_comeToMarker 6 = .ok (.invokevirtual 165, 3) := by decide +kernel
theorem d_S_comeToMarker_9 : decode b_S_comeToMarker 9 = .ok (.aload_n 0, 1) := by decide +kernel
theorem d_S_comeToMarker_10 : decode b_S_comeToMarker 10 = .ok (.getfield 43, 3) := by decide +kernel
theorem d_S_comeToMarker_13 : decode b_S_comeToMarker 13 = .ok (.aload_n 0, 1) := by decide +kernel
theorem d_S_comeToMarker_14 : decode b_S_comeToMarker 14 = .ok (.getfield 72, 3) := by decide +kernel
theorem d_S_comeToMarker_17 : decode b_S_comeToMarker 17 = .ok (.getfield 191, 3) := by decide +kernel
theorem d_S_comeToMarker_20 : decode b_S_comeToMarker 20 = .ok (.iload_n 1, 1) := by decide +kernel
theorem d_S_comeToMarker_21 : decode b_S_comeToMarker 21 = .ok (.aload_n 0, 1) := by decide +kernel
theorem d_S_comeToMarker_22 : decode b_S_comeToMarker 22 = .ok (.getfield 64, 3) := by decide +kernel
theorem d_S_comeToMarker_25 : decode b_S_comeToMarker 25 = .ok (.invokevirtual 235, 3) := by decide +kernel
theorem d_S_comeToMarker_28 : decode b_S_comeToMarker 28 = .ok (.aload_n 0, 1) := by decide +kernel
theorem d_S_comeToMarker_29 : decode b_S_comeToMarker 29 = .ok (.getfield 43, 3) := by decide +kernel
theorem d_S_comeToMarker_32 : decode b_S_comeToMarker 32 = .ok (.aload_n 0, 1) := by decide +kernel
theorem d_S_comeToMarker_33 : decode b_S_comeToMarker 33 = .ok (.getfield 72, 3) := by decide +kernel
theorem d_S_comeToMarker_36 : decode b_S_comeToMarker 36 = .ok (.getfield 191, 3) := by decide +kernel
theorem d_S_comeToMarker_39 : decode b_S_comeToMarker 39 = .ok (.invokevirtual 239, 3) := by decide +kernel
theorem d_S_comeToMarker_42 : decode b_S_comeToMarker 42 = .ok (.aload_n 0, 1) := by decide +kernel
theorem d_S_comeToMarker_43 : decode b_S_comeToMarker 43 = .ok (.getfield 80, 3) := by decide +kernel
theorem d_S_comeToMarker_46 : decode b_S_comeToMarker 46 = .ok (.iload_n 1, 1) := by decide +kernel
theorem d_S_comeToMarker_47 : decode b_S_comeToMarker 47 = .ok (.aaload, 1) := by decide +kernel
theorem d_S_comeToMarker_48 : decode b_S_comeToMarker 48 = .ok (.aload_n 0, 1) := by decide +kernel
theorem d_S_comeToMarker_49 : decode b_S_comeToMarker 49 = .ok (.getfield 43, 3) := by decide +kernel
theorem d_S_comeToMarker_52 : decode b_S_comeToMarker 52 = .ok (.iload_n 1, 1) := by decide +kernel
theorem d_S_comeToMarker_53 : decode b_S_comeToMarker 53 = .ok (.aload_n 0, 1) := by decide +kernel
theorem d_S_comeToMarker_54 : decode b_S_comeToMarker 54 = .ok (.getfield 64, 3) := by decide +kernel
theorem d_S_comeToMarker_57 : decode b_S_comeToMarker 57 = .ok (.invokevirtual 220, 3) := by decide +kernel
theorem d_S_comeToMarker_60 : decode b_S_comeToMarker 60 = .ok (.invokevirtual 242, 3) := by decide +kernel
theorem d_S_comeToMarker_63 : decode b_S_comeToMarker 63 = .ok (.aload_n 0, 1) := by decide +kernel
theorem d_S_comeToMarker_64 : decode b_S_comeToMarker 64 = .ok (.invokevirtual 180, 3) := by decide +kernel
theorem d_S_comeToMarker_67 : decode b_S_comeToMarker 67 = .ok (.return_, 1) := by decide +kernel
theorem d_S_areAllStalled_0 : decode b_S_areAllStalled 0 = .ok (.aload_n 0, 1) := by decide +kernel
theorem d_S_areAllStalled_1 : decode b_S_areAllStalled 1 = .ok (.getfield 80, 3) := by decide +kernel
theorem d_S_areAllStalled_4 : decode b_S_areAllStalled 4 = .ok (.astore_n 1, 1) := by decide +kernel
theorem d_S_areAllStalled_5 : decode b_S_areAllStalled 5 = .ok (.aload_n 1, 1) := by decide +kernel
theorem d_S_areAllStalled_6 : decode b_S_areAllStalled 6 = .ok (.arraylength, 1) := by decide +kernel
theorem d_S_areAllStalled_7 : decode b_S_areAllStalled 7 = .ok (.istore_n 2, 1) := by decide +kernel
theorem d_S_areAllStalled_8 : decode b_S_areAllStalled 8 = .ok (.iconst 0, 1) := by decide +kernel
theorem d_S_areAllStalled_9 : decode b_S_areAllStalled 9 = .ok (.istore_n 3, 1) := by decide +kernel
theorem d_S_areAllStalled_10 : decode b_S_areAllStalled 10 = .ok (.iload_n 3, 1) := by decide +kernel
theorem d_S_areAllStalled_11 : decode b_S_areAllStalled 11 = .ok (.iload_n 2, 1) := by decide +kernel
theorem d_S_areAllStalled_12 : decode b_S_areAllStalled 12 = .ok (.if_icmp .ge 24, 3) := by decide +kernel
theorem d_S_areAllStalled_15 : decode b_S_areAllStalled 15 = .ok (.aload_n 1, 1) := by decide +kernel
theorem d_S_areAllStalled_16 : decode b_S_areAllStalled 16 = .ok (.iload_n 3, 1) := by decide +kernel
theorem d_S_areAllStalled_17 : decode b_S_areAllStalled 17 = .ok (.aaload, 1) := by decide +kernel
theorem d_S_areAllStalled_18 : decode b_S_areAllStalled 18 = .ok (.astore 4, 2) := by decide +kernel
theorem d_S_areAllStalled_20 : decode b_S_areAllStalled 20 = .ok (.aload 4, 2) := by decide +kernel
theorem d_S_areAllStalled_22 : decode b_S_areAllStalled 22 = .ok (.getfield 156, 3) := by decide +kernel
theorem d_S_areAllStalled_25 : decode b_S_areAllStalled 25 = .ok (.ifCond .ne 5, 3) := by decide +kernel
theorem d_S_areAllStalled_28 : decode b_S_areAllStalled 28 = .ok (.iconst 0, 1) := by decide +kernel
theorem d_S_areAllStalled_29 : decode b_S_areAllStalled 29 = .ok (.ireturn, 1) := by decide +kernel
theorem d_S_areAllStalled_30 : decode b_S_areAllStalled 30 = .ok (.iinc 3 1, 3) := by decide +kernel
theorem d_S_areAllStalled_33 : decode b_S_areAllStalled 33 = .ok (.goto (-23), 3) := by decide +kernel
theorem d_S_areAllStalled_36 : decode b_S_areAllStalled 36 = .ok (.iconst 1, 1) := by decide +kernel
theorem d_S_areAllStalled_37 : decode b_S_areAllStalled 37 = .ok (.ireturn, 1) := by decide +kernel
theorem d_S_passOnAtAllSites_0 : decode b_S_passOnAtAllSites 0 = .ok (.aload_n 0, 1) := by decide +kernel
theorem d_S_passOnAtAllSites_1 : decode b_S_passOnAtAllSites 1 = .ok (.getfield 80, 3) := by decide +kernel
theorem d_S_passOnAtAllSites_4 : decode b_S_passOnAtAllSites 4 = .ok (.astore_n 1, 1) := by decide +kernel
theorem d_S_passOnAtAllSites_5 : decode b_S_passOnAtAllSites 5 = .ok (.aload_n 1, 1) := by decide +kernel
theorem d_S_passOnAtAllSites_6 : decode b_S_passOnAtAllSites 6 = .ok (.arraylength, 1) := by decide +kernel
theorem d_S_passOnAtAllSites_7 : decode b_S_passOnAtAllSites 7 = .ok (.istore_n 2, 1) := by decide +kernel
theorem d_S_passOnAtAllSites_8 : decode b_S_passOnAtAllSites 8 = .ok (.iconst 0, 1) := by decide +kernel
theorem d_S_passOnAtAllSites_9 : decode b_S_passOnAtAllSites 9 = .ok (.istore_n 3, 1) := by decide +kernel
theorem d_S_passOnAtAllSites_10 : decode b_S_passOnAtAllSites 10 = .ok (.iload_n 3, 1) := by decide +kernel
theorem d_S_passOnAtAllSites_11 : decode b_S_passOnAtAllSites 11 = .ok (.iload_n 2, 1) := by decide +kernel
theorem d_S_passOnAtAllSites_12 : decode b_S_passOnAtAllSites 12 = .ok (.if_icmp .ge 19, 3) := by decide +kernel
theorem d_S_passOnAtAllSites_15 : decode b_S_passOnAtAllSites 15 = .ok (.aload_n 1, 1) := by decide +kernel
theorem d_S_passOnAtAllSites_16 : decode b_S_passOnAtAllSites 16 = .ok (.iload_n 3, 1) := by decide +kernel
theorem d_S_passOnAtAllSites_17 : decode b_S_passOnAtAllSites 17 = .ok (.aaload, 1) := by decide +kernel
theorem d_S_passOnAtAllSites_18 : decode b_S_passOnAtAllSites 18 = .ok (.astore 4, 2) := by decide +kernel
theorem d_S_passOnAtAllSites_20 : decode b_S_passOnAtAllSites 20 = .ok (.aload 4, 2) := by decide +kernel
theorem d_S_passOnAtAllSites_22 : decode b_S_passOnAtAllSites 22 = .ok (.invokevirtual 165, 3) := by decide +kernel
theorem d_S_passOnAtAllSites_25 : decode b_S_passOnAtAllSites 25 = .ok (.iinc 3 1, 3) := by decide +kernel
theorem d_S_passOnAtAllSites_28 : decode b_S_passOnAtAllSites 28 = .ok (.goto (-18), 3) := by decide +kernel
theorem d_S_passOnAtAllSites_31 : decode b_S_passOnAtAllSites 31 = .ok (.return_, 1) := by decide +kernel
theorem d_Ar_fill1_0 : decode b_Ar_fill1 0 = .ok (.iconst 0, 1) := by decide +kernel
theorem d_Ar_fill1_1 : decode b_Ar_fill1 1 = .ok (.istore_n 2, 1) := by decide +kernel
theorem d_Ar_fill1_2 : decode b_Ar_fill1 2 = .ok (.aload_n 0, 1) := by decide +kernel
theorem d_Ar_fill1_3 : decode b_Ar_fill1 3 = .ok (.arraylength, 1) := by decide +kernel
theorem d_Ar_fill1_4 : decode b_Ar_fill1 4 = .ok (.istore_n 3, 1) := by decide +kernel
theorem d_Ar_fill1_5 : decode b_Ar_fill1 5 = .ok (.iload_n 2, 1) := by decide +kernel
theorem d_Ar_fill1_6 : decode b_Ar_fill1 6 = .ok (.iload_n 3, 1) := by decide +kernel
theorem d_Ar_fill1_7 : decode b_Ar_fill1 7 = .ok (.if_icmp .ge 13, 3) := by decide +kernel
theorem d_Ar_fill1_10 : decode b_Ar_fill1 10 = .ok (.aload_n 0, 1) := by decide +kernel
theorem d_Ar_fill1_11 : decode b_Ar_fill1 11 = .ok (.iload_n 2, 1) := by decide +kernel
theorem d_Ar_fill1_12 : decode b_Ar_fill1 12 = .ok (.iload_n 1, 1) := by decide +kernel
theorem d_Ar_fill1_13 : decode b_Ar_fill1 13 = .ok (.iastore, 1) := by decide +kernel
theorem d_Ar_fill1_14 : decode b_Ar_fill1 14 = .ok (.iinc 2 1, 3) := by decide +kernel
theorem d_Ar_fill1_17 : decode b_Ar_fill1 17 = .ok (.goto (-12), 3) := by decide +kernel
theorem d_Ar_fill1_20 : decode b_Ar_fill1 20 = .ok (.return_, 1) := by decide +kernel
theorem d_R_begin_0 : decode b_R_begin 0 = .ok (.aload_n 0, 1) := by decide +kernel
theorem d_R_begin_1 : decode b_R_begin 1 = .ok (.getfield 18, 3) := by decide +kernel
theorem d_R_begin_4 : decode b_R_begin 4 = .ok (.aload_n 0, 1) := by decide +kernel
theorem d_R_begin_5 : decode b_R_begin 5 = .ok (.getfield 12, 3) := by decide +kernel
theorem d_R_begin_8 : decode b_R_begin 8 = .ok (.invokevirtual 77, 3) := by decide +kernel
theorem d_R_begin_11 : decode b_R_begin 11 = .ok (.aload_n 0, 1) := by decide +kernel
theorem d_R_begin_12 : decode b_R_begin 12 = .ok (.aload_n 1, 1) := by decide +kernel
theorem d_R_begin_13 : decode b_R_begin 13 = .ok (.getfield 45, 3) := by decide +kernel
theorem d_R_begin_16 : decode b_R_begin 16 = .ok (.getfield 81, 3) := by decide +kernel
theorem d_R_begin_19 : decode b_R_begin 19 = .ok (.ifCond .eq 7, 3) := by decide +kernel
theorem d_R_begin_22 : decode b_R_begin 22 = .ok (.iconst (-1), 1) := by decide +kernel
theorem d_R_begin_23 : decode b_R_begin 23 = .ok (.goto 11, 3) := by decide +kernel
theorem d_R_begin_26 : decode b_R_begin 26 = .ok (.aload_n 1, 1) := by decide +kernel
theorem d_R_begin_27 : decode b_R_begin 27 = .ok (.aload_n 0, 1) := by decide +kernel
theorem d_R_begin_28 : decode b_R_begin 28 = .ok (.getfield 38, 3) := by decide +kernel
theorem d_R_begin_31 : decode b_R_begin 31 = .ok (.invokevirtual 85, 3) := by decide +kernel
theorem d_R_begin_34 : decode b_R_begin 34 = .ok (.putfield 25, 3) := by decide +kernel
theorem d_R_begin_37 : decode b_R_begin 37 = .ok (.aload_n 0, 1) := by decide +kernel
theorem d_R_begin_38 : decode b_R_begin 38 = .ok (.getfield 21, 3) := by decide +kernel
theorem d_R_begin_41 : decode b_R_begin 41 = .ok (.iconst 0, 1) := by decide +kernel
theorem d_R_begin_42 : decode b_R_begin 42 = .ok (.invokestatic 88, 3) := by decide +kernel
theorem d_R_begin_45 : decode b_R_begin 45 = .ok (.aload_n 0, 1) := by decide +kernel
theorem d_R_begin_46 : decode b_R_begin 46 = .ok (.getfield 21, 3) := by decide +kernel
theorem d_R_begin_49 : decode b_R_begin 49 = .ok (.iconst 0, 1) := by decide +kernel
theorem d_R_begin_50 : decode b_R_begin 50 = .ok (.aload_n 1, 1) := by decide +kernel
theorem d_R_begin_51 : decode b_R_begin 51 = .ok (.getfield 94, 3) := by decide +kernel
theorem d_R_begin_54 : decode b_R_begin 54 = .ok (.iastore, 1) := by decide +kernel
theorem d_R_begin_55 : decode b_R_begin 55 = .ok (.aload_n 0, 1) := by decide +kernel
theorem d_R_begin_56 : decode b_R_begin 56 = .ok (.getfield 21, 3) := by decide +kernel
theorem d_R_begin_59 : decode b_R_begin 59 = .ok (.iconst 1, 1) := by decide +kernel
theorem d_R_begin_60 : decode b_R_begin 60 = .ok (.aload_n 1, 1) := by decide +kernel
theorem d_R_begin_61 : decode b_R_begin 61 = .ok (.getfield 97, 3) := by decide +kernel
theorem d_R_begin_64 : decode b_R_begin 64 = .ok (.iastore, 1) := by decide +kernel
theorem d_R_begin_65 : decode b_R_begin 65 = .ok (.aload_n 0, 1) := by decide +kernel
theorem d_R_begin_66 : decode b_R_begin 66 = .ok (.getfield 21, 3) := by decide +kernel
theorem d_R_begin_69 : decode b_R_begin 69 = .ok (.iconst 2, 1) := by decide +kernel
theorem d_R_begin_70 : decode b_R_begin 70 = .ok (.aload_n 1, 1) := by decide +kernel
theorem d_R_begin_71 : decode b_R_begin 71 = .ok (.getfield 100, 3) := by decide +kernel
theorem d_R_begin_74 : decode b_R_begin 74 = .ok (.iastore, 1) := by decide +kernel
theorem d_R_begin_75 : decode b_R_begin 75 = .ok (.aload_n 0, 1) := by decide +kernel
theorem d_R_begin_76 : decode b_R_begin 76 = .ok (.iconst 0, 1) := by decide +kernel
theorem d_R_begin_77 : decode b_R_begin 77 = .ok (.putfield 32, 3) := by decide +kernel
theorem d_R_begin_80 : decode b_R_begin 80 = .ok (.return_, 1) := by decide +kernel
theorem d_R_isReachable_0 : decode b_R_isReachable 0 = .ok (.iload_n 1, 1) := by decide +kernel
theorem d_R_isReachable_1 : decode b_R_isReachable 1 = .ok (.ifCond .lt 34, 3) := by decide +kernel
theorem d_R_isReachable_4 : decode b_R_isReachable 4 = .ok (.iload_n 1, 1) := by decide +kernel
theorem d_R_isReachable_5 : decode b_R_isReachable 5 = .ok (.bipush 32, 2) := by decide +kernel
theorem d_R_isReachable_7 : decode b_R_isReachable 7 = .ok (.if_icmp .ge 28, 3) := by decide +kernel
theorem d_R_isReachable_10 : decode b_R_isReachable 10 = .ok (.aload_n 0, 1) := by decide +kernel
theorem d_R_isReachable_11 : decode b_R_isReachable 11 = .ok (.getfield 25, 3) := by decide +kernel
theorem d_R_isReachable_14 : decode b_R_isReachable 14 = .ok (.iconst (-1), 1) := by decide +kernel
theorem d_R_isReachable_15 : decode b_R_isReachable 15 = .ok (.if_icmp .eq 16, 3) := by decide +kernel
theorem d_R_isReachable_18 : decode b_R_isReachable 18 = .ok (.iload_n 1, 1) := by decide +kernel
theorem d_R_isReachable_19 : decode b_R_isReachable 19 = .ok (.aload_n 0, 1) := by decide +kernel
theorem d_R_isReachable_20 : decode b_R_isReachable 20 = .ok (.getfield 38, 3) := by decide +kernel
theorem d_R_isReachable_23 : decode b_R_isReachable 23 = .ok (.irem, 1) := by decide +kernel
theorem d_R_isReachable_24 : decode b_R_isReachable 24 = .ok (.aload_n 0, 1) := by decide +kernel
theorem d_R_isReachable_25 : decode b_R_isReachable 25 = .ok (.getfield 25, 3) := by decide +kernel
theorem d_R_isReachable_28 : decode b_R_isReachable 28 = .ok (.if_icmp .ne 7, 3) := by decide +kernel
theorem d_R_isReachable_31 : decode b_R_isReachable 31 = .ok (.iconst 1, 1) := by decide +kernel
theorem d_R_isReachable_32 : decode b_R_isReachable 32 = .ok (.goto 4, 3) := by decide +kernel
theorem d_R_isReachable_35 : decode b_R_isReachable 35 = .ok (.iconst 0, 1) := by decide +kernel
theorem d_R_isReachable_36 : decode b_R_isReachable 36 = .ok (.ireturn, 1) := by decide +kernel
theorem d_R_isPresent_0 : decode b_R_isPresent 0 = .ok (.aload_n 0, 1) := by decide +kernel
theorem d_R_isPresent_1 : decode b_R_isPresent 1 = .ok (.iload_n 1, 1) := by decide +kernel
theorem d_R_isPresent_2 : decode b_R_isPresent 2 = .ok (.invokevirtual 137, 3) := by decide +kernel
theorem d_R_isPresent_5 : decode b_R_isPresent 5 = .ok (.ifCond .eq 23, 3) := by decide +kernel
theorem d_R_isPresent_8 : decode b_R_isPresent 8 = .ok (.aload_n 0, 1) := by decide +kernel
theorem d_R_isPresent_9 : decode b_R_isPresent 9 = .ok (.getfield 12, 3) := by decide +kernel
theorem d_R_isPresent_12 : decode b_R_isPresent 12 = .ok (.getfield 140, 3) := by decide +kernel
theorem d_R_isPresent_15 : decode b_R_isPresent 15 = .ok (.iload_n 1, 1) := by decide +kernel
theorem d_R_isPresent_16 : decode b_R_isPresent 16 = .ok (.laload, 1) := by decide +kernel
theorem d_R_isPresent_17 : decode b_R_isPresent 17 = .ok (.ldc2_w 123, 3) := by decide +kernel
theorem d_R_isPresent_20 : decode b_R_isPresent 20 = .ok (.lcmp, 1) := by decide +kernel
theorem d_R_isPresent_21 : decode b_R_isPresent 21 = .ok (.ifCond .eq 7, 3) := by decide +kernel
theorem d_R_isPresent_24 : decode b_R_isPresent 24 = .ok (.iconst 1, 1) := by decide +kernel
theorem d_R_isPresent_25 : decode b_R_isPresent 25 = .ok (.goto 4, 3) := by decide +kernel
theorem d_R_isPresent_28 : decode b_R_isPresent 28 = .ok (.iconst 0, 1) := by decide +kernel
theorem d_R_isPresent_29 : decode b_R_isPresent 29 = .ok (.ireturn, 1) := by decide +kernel
theorem d_R_readRow_0 : decode b_R_readRow 0 = .ok (.aload_n 0, 1) := by decide +kernel
theorem d_R_readRow_1 : decode b_R_readRow 1 = .ok (.getfield 21, 3) := by decide +kernel
theorem d_R_readRow_4 : decode b_R_readRow 4 = .ok (.aload_n 1, 1) := by decide +kernel
theorem d_R_readRow_5 : decode b_R_readRow 5 = .ok (.getfield 112, 3) := by decide +kernel
theorem d_R_readRow_8 : decode b_R_readRow 8 = .ok (.iaload, 1) := by decide +kernel
theorem d_R_readRow_9 : decode b_R_readRow 9 = .ok (.istore_n 2, 1) := by decide +kernel
theorem d_R_readRow_10 : decode b_R_readRow 10 = .ok (.aload_n 0, 1) := by decide +kernel
theorem d_R_readRow_11 : decode b_R_readRow 11 = .ok (.iload_n 2, 1) := by decide +kernel
theorem d_R_readRow_12 : decode b_R_readRow 12 = .ok (.invokevirtual 119, 3) := by decide +kernel
theorem d_R_readRow_15 : decode b_R_readRow 15 = .ok (.ifCond .ne 5, 3) := by decide +kernel
theorem d_R_readRow_18 : decode b_R_readRow 18 = .ok (.iconst (-1), 1) := by decide +kernel
theorem d_R_readRow_19 : decode b_R_readRow 19 = .ok (.ireturn, 1) := by decide +kernel
theorem d_R_readRow_20 : decode b_R_readRow 20 = .ok (.aload_n 0, 1) := by decide +kernel
theorem d_R_readRow_21 : decode b_R_readRow 21 = .ok (.getfield 21, 3) := by decide +kernel
theorem d_R_readRow_24 : decode b_R_readRow 24 = .ok (.aload_n 1, 1) := by decide +kernel
theorem d_R_readRow_25 : decode b_R_readRow 25 = .ok (.getfield 109, 3) := by decide +kernel
theorem d_R_readRow_28 : decode b_R_readRow 28 = .ok (.aload_n 0, 1) := by decide +kernel
theorem d_R_readRow_29 : decode b_R_readRow 29 = .ok (.getfield 12, 3) := by decide +kernel
theorem d_R_readRow_32 : decode b_R_readRow 32 = .ok (.getfield 140, 3) := by decide +kernel
theorem d_R_readRow_35 : decode b_R_readRow 35 = .ok (.iload_n 2, 1) := by decide +kernel
theorem d_R_readRow_36 : decode b_R_readRow 36 = .ok (.laload, 1) := by decide +kernel
theorem d_R_readRow_37 : decode b_R_readRow 37 = .ok (.l2i, 1) := by decide +kernel
theorem d_R_readRow_38 : decode b_R_readRow 38 = .ok (.iastore, 1) := by decide +kernel
theorem d_R_readRow_39 : decode b_R_readRow 39 = .ok (.iconst 0, 1) := by decide +kernel
theorem d_R_readRow_40 : decode b_R_readRow 40 = .ok (.ireturn, 1) := by decide +kernel
theorem d_R_writeRow_0 : decode b_R_writeRow 0 = .ok (.aload_n 0, 1) := by decide +kernel
theorem d_R_writeRow_1 : decode b_R_writeRow 1 = .ok (.iload_n 1, 1) := by decide +kernel
theorem d_R_writeRow_2 : decode b_R_writeRow 2 = .ok (.invokevirtual 137, 3) := by decide +kernel
theorem d_R_writeRow_5 : decode b_R_writeRow 5 = .ok (.ifCond .ne 5, 3) := by decide +kernel
theorem d_R_writeRow_8 : decode b_R_writeRow 8 = .ok (.iconst (-1), 1) := by decide +kernel
theorem d_R_writeRow_9 : decode b_R_writeRow 9 = .ok (.ireturn, 1) := by decide +kernel
theorem d_R_writeRow_10 : decode b_R_writeRow 10 = .ok (.aload_n 0, 1) := by decide +kernel
theorem d_R_writeRow_11 : decode b_R_writeRow 11 = .ok (.getfield 12, 3) := by decide +kernel
theorem d_R_writeRow_14 : decode b_R_writeRow 14 = .ok (.getfield 140, 3) := by decide +kernel
theorem d_R_writeRow_17 : decode b_R_writeRow 17 = .ok (.iload_n 1, 1) := by decide +kernel
theorem d_R_writeRow_18 : decode b_R_writeRow 18 = .ok (.lload_n 2, 1) := by decide +kernel
theorem d_R_writeRow_19 : decode b_R_writeRow 19 = .ok (.lastore, 1) := by decide +kernel
theorem d_R_writeRow_20 : decode b_R_writeRow 20 = .ok (.iconst 0, 1) := by decide +kernel
theorem d_R_writeRow_21 : decode b_R_writeRow 21 = .ok (.ireturn, 1) := by decide +kernel
theorem d_R_loadCell_0 : decode b_R_loadCell 0 = .ok (.aload_n 0, 1) := by decide +kernel
theorem d_R_loadCell_1 : decode b_R_loadCell 1 = .ok (.getfield 21, 3) := by decide +kernel
theorem d_R_loadCell_4 : decode b_R_loadCell 4 = .ok (.aload_n 1, 1) := by decide +kernel
theorem d_R_loadCell_5 : decode b_R_loadCell 5 = .ok (.getfield 112, 3) := by decide +kernel
theorem d_R_loadCell_8 : decode b_R_loadCell 8 = .ok (.iaload, 1) := by decide +kernel
theorem d_R_loadCell_9 : decode b_R_loadCell 9 = .ok (.istore_n 2, 1) := by decide +kernel
theorem d_R_loadCell_10 : decode b_R_loadCell 10 = .ok (.iload_n 2, 1) := by decide +kernel
theorem d_R_loadCell_11 : decode b_R_loadCell 11 = .ok (.bipush 8, 2) := by decide +kernel
theorem d_R_loadCell_13 : decode b_R_loadCell 13 = .ok (.invokestatic 144, 3) := by decide +kernel
theorem d_R_loadCell_16 : decode b_R_loadCell 16 = .ok (.ifCond .ne 5, 3) := by decide +kernel
theorem d_R_loadCell_19 : decode b_R_loadCell 19 = .ok (.iconst (-1), 1) := by decide +kernel
theorem d_R_loadCell_20 : decode b_R_loadCell 20 = .ok (.ireturn, 1) := by decide +kernel
theorem d_R_loadCell_21 : decode b_R_loadCell 21 = .ok (.aload_n 0, 1) := by decide +kernel
theorem d_R_loadCell_22 : decode b_R_loadCell 22 = .ok (.getfield 21, 3) := by decide +kernel
theorem d_R_loadCell_25 : decode b_R_loadCell 25 = .ok (.aload_n 1, 1) := by decide +kernel
theorem d_R_loadCell_26 : decode b_R_loadCell 26 = .ok (.getfield 109, 3) := by decide +kernel
theorem d_R_loadCell_29 : decode b_R_loadCell 29 = .ok (.aload_n 0, 1) := by decide +kernel
theorem d_R_loadCell_30 : decode b_R_loadCell 30 = .ok (.getfield 12, 3) := by decide +kernel
theorem d_R_loadCell_33 : decode b_R_loadCell 33 = .ok (.getfield 148, 3) := by decide +kernel
theorem d_R_loadCell_36 : decode b_R_loadCell 36 = .ok (.iload_n 2, 1) := by decide +kernel
theorem d_R_loadCell_37 : decode b_R_loadCell 37 = .ok (.iaload, 1) := by decide +kernel
theorem d_R_loadCell_38 : decode b_R_loadCell 38 = .ok (.iastore, 1) := by decide +kernel
theorem d_R_loadCell_39 : decode b_R_loadCell 39 = .ok (.iconst 0, 1) := by decide +kernel
theorem d_R_loadCell_40 : decode b_R_loadCell 40 = .ok (.ireturn, 1) := by decide +kernel
theorem d_R_storeCell_0 : decode b_R_storeCell 0 = .ok (.aload_n 0, 1) := by decide +kernel
theorem d_R_storeCell_1 : decode b_R_storeCell 1 = .ok (.getfield 21, 3) := by decide +kernel
theorem d_R_storeCell_4 : decode b_R_storeCell 4 = .ok (.aload_n 1, 1) := by decide +kernel
theorem d_R_storeCell_5 : decode b_R_storeCell 5 = .ok (.getfield 109, 3) := by decide +kernel
theorem d_R_storeCell_8 : decode b_R_storeCell 8 = .ok (.iaload, 1) := by decide +kernel
theorem d_R_storeCell_9 : decode b_R_storeCell 9 = .ok (.istore_n 2, 1) := by decide +kernel
theorem d_R_storeCell_10 : decode b_R_storeCell 10 = .ok (.iload_n 2, 1) := by decide +kernel
theorem d_R_storeCell_11 : decode b_R_storeCell 11 = .ok (.bipush 8, 2) := by decide +kernel
theorem d_R_storeCell_13 : decode b_R_storeCell 13 = .ok (.invokestatic 144, 3) := by decide +kernel
theorem d_R_storeCell_16 : decode b_R_storeCell 16 = .ok (.ifCond .ne 5, 3) := by decide +kernel
theorem d_R_storeCell_19 : decode b_R_storeCell 19 = .ok (.iconst (-1), 1) := by decide +kernel
theorem d_R_storeCell_20 : decode b_R_storeCell 20 = .ok (.ireturn, 1) := by decide +kernel
theorem d_R_storeCell_21 : decode b_R_storeCell 21 = .ok (.aload_n 0, 1) := by decide +kernel
theorem d_R_storeCell_22 : decode b_R_storeCell 22 = .ok (.getfield 12, 3) := by decide +kernel
theorem d_R_storeCell_25 : decode b_R_storeCell 25 = .ok (.getfield 148, 3) := by decide +kernel
theorem d_R_storeCell_28 : decode b_R_storeCell 28 = .ok (.iload_n 2, 1) := by decide +kernel
theorem d_R_storeCell_29 : decode b_R_storeCell 29 = .ok (.aload_n 0, 1) := by decide +kernel
theorem d_R_storeCell_30 : decode b_R_storeCell 30 = .ok (.getfield 21, 3) := by decide +kernel
theorem d_R_storeCell_33 : decode b_R_storeCell 33 = .ok (.aload_n 1, 1) := by decide +kernel
theorem d_R_storeCell_34 : decode b_R_storeCell 34 = .ok (.getfield 112, 3) := by decide +kernel
theorem d_R_storeCell_37 : decode b_R_storeCell 37 = .ok (.iaload, 1) := by decide +kernel
theorem d_R_storeCell_38 : decode b_R_storeCell 38 = .ok (.iastore, 1) := by decide +kernel
theorem d_R_storeCell_39 : decode b_R_storeCell 39 = .ok (.iconst 0, 1) := by decide +kernel
theorem d_R_storeCell_40 : decode b_R_storeCell 40 = .ok (.ireturn, 1) := by decide +kernel
theorem d_R_putOut_0 : decode b_R_putOut 0 = .ok (.aload_n 0, 1) := by decide +kernel
theorem d_R_putOut_1 : decode b_R_putOut 1 = .ok (.getfield 32, 3) := by decide +kernel
theorem d_R_putOut_4 : decode b_R_putOut 4 = .ok (.iconst 4, 1) := by decide +kernel
theorem d_R_putOut_5 : decode b_R_putOut 5 = .ok (.if_icmp .lt 5, 3) := by decide +kernel
theorem d_R_putOut_8 : decode b_R_putOut 8 = .ok (.iconst (-1), 1) := by decide +kernel
theorem d_R_putOut_9 : decode b_R_putOut 9 = .ok (.ireturn, 1) := by decide +kernel
theorem d_R_putOut_10 : decode b_R_putOut 10 = .ok (.aload_n 0, 1) := by decide +kernel
theorem d_R_putOut_11 : decode b_R_putOut 11 = .ok (.getfield 29, 3) := by decide +kernel
theorem d_R_putOut_14 : decode b_R_putOut 14 = .ok (.aload_n 0, 1) := by decide +kernel
theorem d_R_putOut_15 : decode b_R_putOut 15 = .ok (.getfield 32, 3) := by decide +kernel
theorem d_R_putOut_18 : decode b_R_putOut 18 = .ok (.iload_n 1, 1) := by decide +kernel
theorem d_R_putOut_19 : decode b_R_putOut 19 = .ok (.iastore, 1) := by decide +kernel
theorem d_R_putOut_20 : decode b_R_putOut 20 = .ok (.aload_n 0, 1) := by decide +kernel
theorem d_R_putOut_21 : decode b_R_putOut 21 = .ok (.dup, 1) := by decide +kernel
theorem d_R_putOut_22 : decode b_R_putOut 22 = .ok (.getfield 32, 3) := by decide +kernel
theorem d_R_putOut_25 : decode b_R_putOut 25 = .ok (.iconst 1, 1) := by decide +kernel
theorem d_R_putOut_26 : decode b_R_putOut 26 = .ok (.iadd, 1) := by decide +kernel
theorem d_R_putOut_27 : decode b_R_putOut 27 = .ok (.putfield 32, 3) := by decide +kernel
theorem d_R_putOut_30 : decode b_R_putOut 30 = .ok (.iconst 0, 1) := by decide +kernel
theorem d_R_putOut_31 : decode b_R_putOut 31 = .ok (.ireturn, 1) := by decide +kernel
theorem d_R_execute_0 : decode b_R_execute 0 = .ok (.aload_n 1, 1) := by decide +kernel
theorem d_R_execute_1 : decode b_R_execute 1 = .ok (.getfield 103, 3) := by decide +kernel
theorem d_R_execute_4 : decode b_R_execute 4 = .ok (.tableswitch 290 0 10 #[60, 66, 90, 134, 171, 201, 216, 243, 264, 270, 276], 60) := by decide +kernel
theorem d_R_execute_64 : decode b_R_execute 64 = .ok (.aload_n 0, 1) := by decide +kernel
theorem d_R_execute_65 : decode b_R_execute 65 = .ok (.aload_n 1, 1) := by decide +kernel
theorem d_R_execute_66 : decode b_R_execute 66 = .ok (.invokevirtual 106, 3) := by decide +kernel
theorem d_R_execute_69 : decode b_R_execute 69 = .ok (.ireturn, 1) := by decide +kernel
theorem d_R_execute_70 : decode b_R_execute 70 = .ok (.aload_n 0, 1) := by decide +kernel
theorem d_R_execute_71 : decode b_R_execute 71 = .ok (.aload_n 0, 1) := by decide +kernel
theorem d_R_execute_72 : decode b_R_execute 72 = .ok (.getfield 21, 3) := by decide +kernel
theorem d_R_execute_75 : decode b_R_execute 75 = .ok (.aload_n 1, 1) := by decide +kernel
theorem d_R_execute_76 : decode b_R_execute 76 = .ok (.getfield 109, 3) := by decide +kernel
theorem d_R_execute_79 : decode b_R_execute 79 = .ok (.iaload, 1) := by decide +kernel
theorem d_R_execute_80 : decode b_R_execute 80 = .ok (.aload_n 0, 1) := by decide +kernel
theorem d_R_execute_81 : decode b_R_execute 81 = .ok (.getfield 21, 3) := by decide +kernel
theorem d_R_execute_84 : decode b_R_execute 84 = .ok (.aload_n 1, 1) := by decide +kernel
theorem d_R_execute_85 : decode b_R_execute 85 = .ok (.getfield 112, 3) := by decide +kernel
theorem d_R_execute_88 : decode b_R_execute 88 = .ok (.iaload, 1) := by decide +kernel
theorem d_R_execute_89 : decode b_R_execute 89 = .ok (.i2l, 1) := by decide +kernel
theorem d_R_execute_90 : decode b_R_execute 90 = .ok (.invokevirtual 115, 3) := by decide +kernel
theorem d_R_execute_93 : decode b_R_execute 93 = .ok (.ireturn, 1) := by decide +kernel
theorem d_R_execute_94 : decode b_R_execute 94 = .ok (.aload_n 0, 1) := by decide +kernel
theorem d_R_execute_95 : decode b_R_execute 95 = .ok (.aload_n 0, 1) := by decide +kernel
theorem d_R_execute_96 : decode b_R_execute 96 = .ok (.getfield 21, 3) := by decide +kernel
theorem d_R_execute_99 : decode b_R_execute 99 = .ok (.aload_n 1, 1) := by decide +kernel
theorem d_R_execute_100 : decode b_R_execute 100 = .ok (.getfield 109, 3) := by decide +kernel
theorem d_R_execute_103 : decode b_R_execute 103 = .ok (.iaload, 1) := by decide +kernel
theorem d_R_execute_104 : decode b_R_execute 104 = .ok (.invokevirtual 119, 3) := by decide +kernel
theorem d_R_execute_107 : decode b_R_execute 107 = .ok (.ifCond .eq 7, 3) := by decide +kernel
theorem d_R_execute_110 : decode b_R_execute 110 = .ok (.iconst (-1), 1) := by decide +kernel
theorem d_R_execute_111 : decode b_R_execute 111 = .ok (.goto 26, 3) := by decide +kernel
theorem d_R_execute_114 : decode b_R_execute 114 = .ok (.aload_n 0, 1) := by decide +kernel
theorem d_R_execute_115 : decode b_R_execute 115 = .ok (.aload_n 0, 1) := by decide +kernel
theorem d_R_execute_116 : decode b_R_execute 116 = .ok (.getfield 21, 3) := by decide +kernel
theorem d_R_execute_119 : decode b_R_execute 119 = .ok (.aload_n 1, 1) := by decide +kernel
theorem d_R_execute_120 : decode b_R_execute 120 = .ok (.getfield 109, 3) := by decide +kernel
theorem d_R_execute_123 : decode b_R_execute 123 = .ok (.iaload, 1) := by decide +kernel
theorem d_R_execute_124 : decode b_R_execute 124 = .ok (.aload_n 0, 1) := by decide +kernel
theorem d_R_execute_125 : decode b_R_execute 125 = .ok (.getfield 21, 3) := by decide +kernel
theorem d_R_execute_128 : decode b_R_execute 128 = .ok (.aload_n 1, 1) := by decide +kernel
theorem d_R_execute_129 : decode b_R_execute 129 = .ok (.getfield 112, 3) := by decide +kernel
theorem d_R_execute_132 : decode b_R_execute 132 = .ok (.iaload, 1) := by decide +kernel
theorem d_R_execute_133 : decode b_R_execute 133 = .ok (.i2l, 1) := by decide +kernel
theorem d_R_execute_134 : decode b_R_execute 134 = .ok (.invokevirtual 115, 3) := by decide +kernel
theorem d_R_execute_137 : decode b_R_execute 137 = .ok (.ireturn, 1) := by decide +kernel
theorem d_R_execute_138 : decode b_R_execute 138 = .ok (.aload_n 0, 1) := by decide +kernel
theorem d_R_execute_139 : decode b_R_execute 139 = .ok (.aload_n 0, 1) := by decide +kernel
theorem d_R_execute_140 : decode b_R_execute 140 = .ok (.getfield 21, 3) := by decide +kernel
theorem d_R_execute_143 : decode b_R_execute 143 = .ok (.aload_n 1, 1) := by decide +kernel
theorem d_R_execute_144 : decode b_R_execute 144 = .ok (.getfield 109, 3) := by decide +kernel
theorem d_R_execute_147 : decode b_R_execute 147 = .ok (.iaload, 1) := by decide +kernel
theorem d_R_execute_148 : decode b_R_execute 148 = .ok (.invokevirtual 119, 3) := by decide +kernel
theorem d_R_execute_151 : decode b_R_execute 151 = .ok (.ifCond .eq 22, 3) := by decide +kernel
theorem d_R_execute_154 : decode b_R_execute 154 = .ok (.aload_n 0, 1) := by decide +kernel
theorem d_R_execute_155 : decode b_R_execute 155 = .ok (.aload_n 0, 1) := by decide +kernel
theorem d_R_execute_156 : decode b_R_execute 156 = .ok (.getfield 21, 3) := by decide +kernel
theorem d_R_execute_159 : decode b_R_execute 159 = .ok (.aload_n 1, 1) := by decide +kernel
theorem d_R_execute_160 : decode b_R_execute 160 = .ok (.getfield 109, 3) := by decide +kernel
theorem d_R_execute_163 : decode b_R_execute 163 = .ok (.iaload, 1) := by decide +kernel
theorem d_R_execute_164 : decode b_R_execute 164 = .ok (.ldc2_w 123, 3) := by decide +kernel
theorem d_R_execute_167 : decode b_R_execute 167 = .ok (.invokevirtual 115, 3) := by decide +kernel
theorem d_R_execute_170 : decode b_R_execute 170 = .ok (.goto 4, 3) := by decide +kernel
theorem d_R_execute_173 : decode b_R_execute 173 = .ok (.iconst (-1), 1) := by decide +kernel
theorem d_R_execute_174 : decode b_R_execute 174 = .ok (.ireturn, 1) := by decide +kernel
theorem d_R_execute_175 : decode b_R_execute 175 = .ok (.aload_n 0, 1) := by decide +kernel
theorem d_R_execute_176 : decode b_R_execute 176 = .ok (.getfield 21, 3) := by decide +kernel
theorem d_R_execute_179 : decode b_R_execute 179 = .ok (.aload_n 1, 1) := by decide +kernel
theorem d_R_execute_180 : decode b_R_execute 180 = .ok (.getfield 109, 3) := by decide +kernel
theorem d_R_execute_183 : decode b_R_execute 183 = .ok (.aload_n 0, 1) := by decide +kernel
theorem d_R_execute_184 : decode b_R_execute 184 = .ok (.getfield 21, 3) := by decide +kernel
theorem d_R_execute_187 : decode b_R_execute 187 = .ok (.aload_n 1, 1) := by decide +kernel
theorem d_R_execute_188 : decode b_R_execute 188 = .ok (.getfield 112, 3) := by decide +kernel
theorem d_R_execute_191 : decode b_R_execute 191 = .ok (.iaload, 1) := by decide +kernel
theorem d_R_execute_192 : decode b_R_execute 192 = .ok (.aload_n 0, 1) := by decide +kernel
theorem d_R_execute_193 : decode b_R_execute 193 = .ok (.getfield 21, 3) := by decide +kernel
theorem d_R_execute_196 : decode b_R_execute 196 = .ok (.aload_n 1, 1) := by decide +kernel
theorem d_R_execute_197 : decode b_R_execute 197 = .ok (.getfield 125, 3) := by decide +kernel
theorem d_R_execute_200 : decode b_R_execute 200 = .ok (.iaload, 1) := by decide +kernel
theorem d_R_execute_201 : decode b_R_execute 201 = .ok (.iadd, 1) := by decide +kernel
theorem d_R_execute_202 : decode b_R_execute 202 = .ok (.iastore, 1) := by decide +kernel
theorem d_R_execute_203 : decode b_R_execute 203 = .ok (.iconst 0, 1) := by decide +kernel
theorem d_R_execute_204 : decode b_R_execute 204 = .ok (.ireturn, 1) := by decide +kernel
theorem d_R_execute_205 : decode b_R_execute 205 = .ok (.aload_n 0, 1) := by decide +kernel
theorem d_R_execute_206 : decode b_R_execute 206 = .ok (.getfield 21, 3) := by decide +kernel
theorem d_R_execute_209 : decode b_R_execute 209 = .ok (.aload_n 1, 1) := by decide +kernel
theorem d_R_execute_210 : decode b_R_execute 210 = .ok (.getfield 109, 3) := by decide +kernel
theorem d_R_execute_213 : decode b_R_execute 213 = .ok (.aload_n 1, 1) := by decide +kernel
theorem d_R_execute_214 : decode b_R_execute 214 = .ok (.getfield 112, 3) := by decide +kernel
theorem d_R_execute_217 : decode b_R_execute 217 = .ok (.iastore, 1) := by decide +kernel
theorem d_R_execute_218 : decode b_R_execute 218 = .ok (.iconst 0, 1) := by decide +kernel
theorem d_R_execute_219 : decode b_R_execute 219 = .ok (.ireturn, 1) := by decide +kernel
theorem d_R_execute_220 : decode b_R_execute 220 = .ok (.aload_n 0, 1) := by decide +kernel
theorem d_R_execute_221 : decode b_R_execute 221 = .ok (.getfield 21, 3) := by decide +kernel
theorem d_R_execute_224 : decode b_R_execute 224 = .ok (.aload_n 1, 1) := by decide +kernel
theorem d_R_execute_225 : decode b_R_execute 225 = .ok (.getfield 109, 3) := by decide +kernel
theorem d_R_execute_228 : decode b_R_execute 228 = .ok (.iaload, 1) := by decide +kernel
theorem d_R_execute_229 : decode b_R_execute 229 = .ok (.aload_n 0, 1) := by decide +kernel
theorem d_R_execute_230 : decode b_R_execute 230 = .ok (.getfield 21, 3) := by decide +kernel
theorem d_R_execute_233 : decode b_R_execute 233 = .ok (.aload_n 1, 1) := by decide +kernel
theorem d_R_execute_234 : decode b_R_execute 234 = .ok (.getfield 112, 3) := by decide +kernel
theorem d_R_execute_237 : decode b_R_execute 237 = .ok (.iaload, 1) := by decide +kernel
theorem d_R_execute_238 : decode b_R_execute 238 = .ok (.if_icmp .ge 7, 3) := by decide +kernel
theorem d_R_execute_241 : decode b_R_execute 241 = .ok (.iconst (-1), 1) := by decide +kernel
theorem d_R_execute_242 : decode b_R_execute 242 = .ok (.goto 4, 3) := by decide +kernel
theorem d_R_execute_245 : decode b_R_execute 245 = .ok (.iconst 0, 1) := by decide +kernel
theorem d_R_execute_246 : decode b_R_execute 246 = .ok (.ireturn, 1) := by decide +kernel
theorem d_R_execute_247 : decode b_R_execute 247 = .ok (.aload_n 0, 1) := by decide +kernel
theorem d_R_execute_248 : decode b_R_execute 248 = .ok (.getfield 21, 3) := by decide +kernel
theorem d_R_execute_251 : decode b_R_execute 251 = .ok (.aload_n 1, 1) := by decide +kernel
theorem d_R_execute_252 : decode b_R_execute 252 = .ok (.getfield 109, 3) := by decide +kernel
theorem d_R_execute_255 : decode b_R_execute 255 = .ok (.iaload, 1) := by decide +kernel
theorem d_R_execute_256 : decode b_R_execute 256 = .ok (.ifCond .ne 10, 3) := by decide +kernel
theorem d_R_execute_259 : decode b_R_execute 259 = .ok (.aload_n 1, 1) := by decide +kernel
theorem d_R_execute_260 : decode b_R_execute 260 = .ok (.getfield 112, 3) := by decide +kernel
theorem d_R_execute_263 : decode b_R_execute 263 = .ok (.goto 4, 3) := by decide +kernel
theorem d_R_execute_266 : decode b_R_execute 266 = .ok (.iconst 0, 1) := by decide +kernel
theorem d_R_execute_267 : decode b_R_execute 267 = .ok (.ireturn, 1) := by decide +kernel
theorem d_R_execute_268 : decode b_R_execute 268 = .ok (.aload_n 0, 1) := by decide +kernel
theorem d_R_execute_269 : decode b_R_execute 269 = .ok (.aload_n 1, 1) := by decide +kernel
theorem d_R_execute_270 : decode b_R_execute 270 = .ok (.invokevirtual 128, 3) := by decide +kernel
theorem d_R_execute_273 : decode b_R_execute 273 = .ok (.ireturn, 1) := by decide +kernel
theorem d_R_execute_274 : decode b_R_execute 274 = .ok (.aload_n 0, 1) := by decide +kernel
theorem d_R_execute_275 : decode b_R_execute 275 = .ok (.aload_n 1, 1) := by decide +kernel
theorem d_R_execute_276 : decode b_R_execute 276 = .ok (.invokevirtual 131, 3) := by decide +kernel
theorem d_R_execute_279 : decode b_R_execute 279 = .ok (.ireturn, 1) := by decide +kernel
theorem d_R_execute_280 : decode b_R_execute 280 = .ok (.aload_n 0, 1) := by decide +kernel
theorem d_R_execute_281 : decode b_R_execute 281 = .ok (.aload_n 0, 1) := by decide +kernel
theorem d_R_execute_282 : decode b_R_execute 282 = .ok (.getfield 21, 3) := by decide +kernel
theorem d_R_execute_285 : decode b_R_execute 285 = .ok (.aload_n 1, 1) := by decide +kernel
theorem d_R_execute_286 : decode b_R_execute 286 = .ok (.getfield 109, 3) := by decide +kernel
theorem d_R_execute_289 : decode b_R_execute 289 = .ok (.iaload, 1) := by decide +kernel
theorem d_R_execute_290 : decode b_R_execute 290 = .ok (.invokevirtual 134, 3) := by decide +kernel
theorem d_R_execute_293 : decode b_R_execute 293 = .ok (.ireturn, 1) := by decide +kernel
theorem d_R_execute_294 : decode b_R_execute 294 = .ok (.iconst (-1), 1) := by decide +kernel
theorem d_R_execute_295 : decode b_R_execute 295 = .ok (.ireturn, 1) := by decide +kernel
