theorem d_M_rows_0 : decode b_M_rows 0 = .ok (.iload_n 1, 1) := by decide +kernel
theorem d_M_rows_1 : decode b_M_rows 1 = .ok (.aload_n 0, 1) := by decide +kernel
theorem d_M_rows_2 : decode b_M_rows 2 = .ok (.getfield 96, 3) := by decide +kernel
theorem d_M_rows_5 : decode b_M_rows 5 = .ok (.invokestatic 99, 3) := by decide +kernel
theorem d_M_rows_8 : decode b_M_rows 8 = .ok (.ifCond .eq 7, 3) := by decide +kernel
theorem d_M_rows_11 : decode b_M_rows 11 = .ok (.iconst (-1), 1) := by decide +kernel
theorem d_M_rows_12 : decode b_M_rows 12 = .ok (.goto 8, 3) := by decide +kernel
theorem d_M_rows_15 : decode b_M_rows 15 = .ok (.aload_n 0, 1) := by decide +kernel
theorem d_M_rows_16 : decode b_M_rows 16 = .ok (.iload_n 1, 1) := by decide +kernel
theorem d_M_rows_17 : decode b_M_rows 17 = .ok (.invokevirtual 149, 3) := by decide +kernel
theorem d_M_rows_20 : decode b_M_rows 20 = .ok (.ireturn, 1) := by decide +kernel
theorem d_M_stalledAt_0 : decode b_M_stalledAt 0 = .ok (.iconst 1, 1) := by decide +kernel
theorem d_M_stalledAt_1 : decode b_M_stalledAt 1 = .ok (.istore_n 1, 1) := by decide +kernel
theorem d_M_stalledAt_2 : decode b_M_stalledAt 2 = .ok (.iload_n 1, 1) := by decide +kernel
theorem d_M_stalledAt_3 : decode b_M_stalledAt 3 = .ok (.aload_n 0, 1) := by decide +kernel
theorem d_M_stalledAt_4 : decode b_M_stalledAt 4 = .ok (.getfield 133, 3) := by decide +kernel
theorem d_M_stalledAt_7 : decode b_M_stalledAt 7 = .ok (.if_icmp .gt 52, 3) := by decide +kernel
theorem d_M_stalledAt_10 : decode b_M_stalledAt 10 = .ok (.aload_n 0, 1) := by decide +kernel
theorem d_M_stalledAt_11 : decode b_M_stalledAt 11 = .ok (.getfield 54, 3) := by decide +kernel
theorem d_M_stalledAt_14 : decode b_M_stalledAt 14 = .ok (.iload_n 1, 1) := by decide +kernel
theorem d_M_stalledAt_15 : decode b_M_stalledAt 15 = .ok (.iaload, 1) := by decide +kernel
theorem d_M_stalledAt_16 : decode b_M_stalledAt 16 = .ok (.ifCond .lt 37, 3) := by decide +kernel
theorem d_M_stalledAt_19 : decode b_M_stalledAt 19 = .ok (.aload_n 0, 1) := by decide +kernel
theorem d_M_stalledAt_20 : decode b_M_stalledAt 20 = .ok (.getfield 32, 3) := by decide +kernel
theorem d_M_stalledAt_23 : decode b_M_stalledAt 23 = .ok (.aload_n 0, 1) := by decide +kernel
theorem d_M_stalledAt_24 : decode b_M_stalledAt 24 = .ok (.getfield 54, 3) := by decide +kernel
theorem d_M_stalledAt_27 : decode b_M_stalledAt 27 = .ok (.iload_n 1, 1) := by decide +kernel
theorem d_M_stalledAt_28 : decode b_M_stalledAt 28 = .ok (.iaload, 1) := by decide +kernel
theorem d_M_stalledAt_29 : decode b_M_stalledAt 29 = .ok (.baload, 1) := by decide +kernel
theorem d_M_stalledAt_30 : decode b_M_stalledAt 30 = .ok (.ifCond .eq 23, 3) := by decide +kernel
theorem d_M_stalledAt_33 : decode b_M_stalledAt 33 = .ok (.aload_n 0, 1) := by decide +kernel
theorem d_M_stalledAt_34 : decode b_M_stalledAt 34 = .ok (.getfield 60, 3) := by decide +kernel
theorem d_M_stalledAt_37 : decode b_M_stalledAt 37 = .ok (.iload_n 1, 1) := by decide +kernel
theorem d_M_stalledAt_38 : decode b_M_stalledAt 38 = .ok (.baload, 1) := by decide +kernel
theorem d_M_stalledAt_39 : decode b_M_stalledAt 39 = .ok (.ifCond .ne 14, 3) := by decide +kernel
theorem d_M_stalledAt_42 : decode b_M_stalledAt 42 = .ok (.aload_n 0, 1) := by decide +kernel
theorem d_M_stalledAt_43 : decode b_M_stalledAt 43 = .ok (.getfield 63, 3) := by decide +kernel
theorem d_M_stalledAt_46 : decode b_M_stalledAt 46 = .ok (.iload_n 1, 1) := by decide +kernel
theorem d_M_stalledAt_47 : decode b_M_stalledAt 47 = .ok (.iaload, 1) := by decide +kernel
theorem d_M_stalledAt_48 : decode b_M_stalledAt 48 = .ok (.ifCond .eq 5, 3) := by decide +kernel
theorem d_M_stalledAt_51 : decode b_M_stalledAt 51 = .ok (.iload_n 1, 1) := by decide +kernel
theorem d_M_stalledAt_52 : decode b_M_stalledAt 52 = .ok (.ireturn, 1) := by decide +kernel
theorem d_M_stalledAt_53 : decode b_M_stalledAt 53 = .ok (.iinc 1 1, 3) := by decide +kernel
theorem d_M_stalledAt_56 : decode b_M_stalledAt 56 = .ok (.goto (-54), 3) := by decide +kernel
theorem d_M_stalledAt_59 : decode b_M_stalledAt 59 = .ok (.iconst 0, 1) := by decide +kernel
theorem d_M_stalledAt_60 : decode b_M_stalledAt 60 = .ok (.ireturn, 1) := by decide +kernel
theorem d_M_count_0 : decode b_M_count 0 = .ok (.iload_n 1, 1) := by decide +kernel
theorem d_M_count_1 : decode b_M_count 1 = .ok (.tableswitch 69 0 5 #[39, 44, 49, 54, 59, 64], 39) := by decide +kernel
theorem d_M_count_40 : decode b_M_count 40 = .ok (.aload_n 0, 1) := by decide +kernel
theorem d_M_count_41 : decode b_M_count 41 = .ok (.getfield 133, 3) := by decide +kernel
theorem d_M_count_44 : decode b_M_count 44 = .ok (.ireturn, 1) := by decide +kernel
theorem d_M_count_45 : decode b_M_count 45 = .ok (.aload_n 0, 1) := by decide +kernel
theorem d_M_count_46 : decode b_M_count 46 = .ok (.getfield 117, 3) := by decide +kernel
theorem d_M_count_49 : decode b_M_count 49 = .ok (.ireturn, 1) := by decide +kernel
theorem d_M_count_50 : decode b_M_count 50 = .ok (.aload_n 0, 1) := by decide +kernel
theorem d_M_count_51 : decode b_M_count 51 = .ok (.invokevirtual 139, 3) := by decide +kernel
theorem d_M_count_54 : decode b_M_count 54 = .ok (.ireturn, 1) := by decide +kernel
theorem d_M_count_55 : decode b_M_count 55 = .ok (.aload_n 0, 1) := by decide +kernel
theorem d_M_count_56 : decode b_M_count 56 = .ok (.getfield 120, 3) := by decide +kernel
theorem d_M_count_59 : decode b_M_count 59 = .ok (.ireturn, 1) := by decide +kernel
theorem d_M_count_60 : decode b_M_count 60 = .ok (.aload_n 0, 1) := by decide +kernel
theorem d_M_count_61 : decode b_M_count 61 = .ok (.getfield 127, 3) := by decide +kernel
theorem d_M_count_64 : decode b_M_count 64 = .ok (.ireturn, 1) := by decide +kernel
theorem d_M_count_65 : decode b_M_count 65 = .ok (.aload_n 0, 1) := by decide +kernel
theorem d_M_count_66 : decode b_M_count 66 = .ok (.invokevirtual 157, 3) := by decide +kernel
theorem d_M_count_69 : decode b_M_count 69 = .ok (.ireturn, 1) := by decide +kernel
theorem d_M_count_70 : decode b_M_count 70 = .ok (.iconst (-1), 1) := by decide +kernel
theorem d_M_count_71 : decode b_M_count 71 = .ok (.ireturn, 1) := by decide +kernel
