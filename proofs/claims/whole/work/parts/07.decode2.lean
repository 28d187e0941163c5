theorem d_R_abort_0 : decode b_R_abort 0 = .ok (.aload_n 0, 1) := by decide +kernel
theorem d_R_abort_1 : decode b_R_abort 1 = .ok (.getfield 12, 3) := by decide +kernel
theorem d_R_abort_4 : decode b_R_abort 4 = .ok (.aload_n 0, 1) := by decide +kernel
theorem d_R_abort_5 : decode b_R_abort 5 = .ok (.getfield 18, 3) := by decide +kernel
theorem d_R_abort_8 : decode b_R_abort 8 = .ok (.invokevirtual 77, 3) := by decide +kernel
theorem d_R_abort_11 : decode b_R_abort 11 = .ok (.aload_n 0, 1) := by decide +kernel
theorem d_R_abort_12 : decode b_R_abort 12 = .ok (.iconst 0, 1) := by decide +kernel
theorem d_R_abort_13 : decode b_R_abort 13 = .ok (.putfield 32, 3) := by decide +kernel
theorem d_R_abort_16 : decode b_R_abort 16 = .ok (.aload_n 0, 1) := by decide +kernel
theorem d_R_abort_17 : decode b_R_abort 17 = .ok (.iload_n 1, 1) := by decide +kernel
theorem d_R_abort_18 : decode b_R_abort 18 = .ok (.putfield 35, 3) := by decide +kernel
theorem d_R_abort_21 : decode b_R_abort 21 = .ok (.return_, 1) := by decide +kernel
theorem d_R_run_0 : decode b_R_run 0 = .ok (.aload_n 0, 1) := by decide +kernel
theorem d_R_run_1 : decode b_R_run 1 = .ok (.aload_n 1, 1) := by decide +kernel
theorem d_R_run_2 : decode b_R_run 2 = .ok (.invokevirtual 41, 3) := by decide +kernel
theorem d_R_run_5 : decode b_R_run 5 = .ok (.aload_n 1, 1) := by decide +kernel
theorem d_R_run_6 : decode b_R_run 6 = .ok (.getfield 45, 3) := by decide +kernel
theorem d_R_run_9 : decode b_R_run 9 = .ok (.getfield 51, 3) := by decide +kernel
theorem d_R_run_12 : decode b_R_run 12 = .ok (.astore_n 2, 1) := by decide +kernel
theorem d_R_run_13 : decode b_R_run 13 = .ok (.iconst 0, 1) := by decide +kernel
theorem d_R_run_14 : decode b_R_run 14 = .ok (.istore_n 3, 1) := by decide +kernel
theorem d_R_run_15 : decode b_R_run 15 = .ok (.iconst 0, 1) := by decide +kernel
theorem d_R_run_16 : decode b_R_run 16 = .ok (.istore 4, 2) := by decide +kernel
theorem d_R_run_18 : decode b_R_run 18 = .ok (.iload 4, 2) := by decide +kernel
theorem d_R_run_20 : decode b_R_run 20 = .ok (.aload_n 2, 1) := by decide +kernel
theorem d_R_run_21 : decode b_R_run 21 = .ok (.invokevirtual 57, 3) := by decide +kernel
theorem d_R_run_24 : decode b_R_run 24 = .ok (.if_icmp .ge 55, 3) := by decide +kernel
theorem d_R_run_27 : decode b_R_run 27 = .ok (.iload 4, 2) := by decide +kernel
theorem d_R_run_29 : decode b_R_run 29 = .ok (.iload_n 3, 1) := by decide +kernel
theorem d_R_run_30 : decode b_R_run 30 = .ok (.if_icmp .ge 6, 3) := by decide +kernel
theorem d_R_run_33 : decode b_R_run 33 = .ok (.goto 40, 3) := by decide +kernel
theorem d_R_run_36 : decode b_R_run 36 = .ok (.aload_n 0, 1) := by decide +kernel
theorem d_R_run_37 : decode b_R_run 37 = .ok (.aload_n 2, 1) := by decide +kernel
theorem d_R_run_38 : decode b_R_run 38 = .ok (.iload 4, 2) := by decide +kernel
theorem d_R_run_40 : decode b_R_run 40 = .ok (.invokevirtual 63, 3) := by decide +kernel
theorem d_R_run_43 : decode b_R_run 43 = .ok (.checkcast 67, 3) := by decide +kernel
theorem d_R_run_46 : decode b_R_run 46 = .ok (.invokevirtual 69, 3) := by decide +kernel
theorem d_R_run_49 : decode b_R_run 49 = .ok (.istore 5, 2) := by decide +kernel
theorem d_R_run_51 : decode b_R_run 51 = .ok (.iload 5, 2) := by decide +kernel
theorem d_R_run_53 : decode b_R_run 53 = .ok (.iconst (-1), 1) := by decide +kernel
theorem d_R_run_54 : decode b_R_run 54 = .ok (.if_icmp .ne 11, 3) := by decide +kernel
theorem d_R_run_57 : decode b_R_run 57 = .ok (.aload_n 0, 1) := by decide +kernel
theorem d_R_run_58 : decode b_R_run 58 = .ok (.iload 4, 2) := by decide +kernel
theorem d_R_run_60 : decode b_R_run 60 = .ok (.invokevirtual 73, 3) := by decide +kernel
theorem d_R_run_63 : decode b_R_run 63 = .ok (.iconst 0, 1) := by decide +kernel
theorem d_R_run_64 : decode b_R_run 64 = .ok (.ireturn, 1) := by decide +kernel
theorem d_R_run_65 : decode b_R_run 65 = .ok (.iload 4, 2) := by decide +kernel
theorem d_R_run_67 : decode b_R_run 67 = .ok (.iconst 1, 1) := by decide +kernel
theorem d_R_run_68 : decode b_R_run 68 = .ok (.iadd, 1) := by decide +kernel
theorem d_R_run_69 : decode b_R_run 69 = .ok (.iload 5, 2) := by decide +kernel
theorem d_R_run_71 : decode b_R_run 71 = .ok (.iadd, 1) := by decide +kernel
theorem d_R_run_72 : decode b_R_run 72 = .ok (.istore_n 3, 1) := by decide +kernel
theorem d_R_run_73 : decode b_R_run 73 = .ok (.iinc 4 1, 3) := by decide +kernel
theorem d_R_run_76 : decode b_R_run 76 = .ok (.goto (-58), 3) := by decide +kernel
theorem d_R_run_79 : decode b_R_run 79 = .ok (.iconst 1, 1) := by decide +kernel
theorem d_R_run_80 : decode b_R_run 80 = .ok (.ireturn, 1) := by decide +kernel
theorem d_C_finish_0 : decode b_C_finish 0 = .ok (.aload_n 0, 1) := by decide +kernel
theorem d_C_finish_1 : decode b_C_finish 1 = .ok (.iconst 1, 1) := by decide +kernel
theorem d_C_finish_2 : decode b_C_finish 2 = .ok (.putfield 18, 3) := by decide +kernel
theorem d_C_finish_5 : decode b_C_finish 5 = .ok (.aload_n 0, 1) := by decide +kernel
theorem d_C_finish_6 : decode b_C_finish 6 = .ok (.iload_n 1, 1) := by decide +kernel
theorem d_C_finish_7 : decode b_C_finish 7 = .ok (.putfield 22, 3) := by decide +kernel
theorem d_C_finish_10 : decode b_C_finish 10 = .ok (.aload_n 0, 1) := by decide +kernel
theorem d_C_finish_11 : decode b_C_finish 11 = .ok (.aload_n 2, 1) := by decide +kernel
theorem d_C_finish_12 : decode b_C_finish 12 = .ok (.getfield 35, 3) := by decide +kernel
theorem d_C_finish_15 : decode b_C_finish 15 = .ok (.putfield 25, 3) := by decide +kernel
theorem d_C_finish_18 : decode b_C_finish 18 = .ok (.aload_n 0, 1) := by decide +kernel
theorem d_C_finish_19 : decode b_C_finish 19 = .ok (.aload_n 2, 1) := by decide +kernel
theorem d_C_finish_20 : decode b_C_finish 20 = .ok (.getfield 38, 3) := by decide +kernel
theorem d_C_finish_23 : decode b_C_finish 23 = .ok (.putfield 28, 3) := by decide +kernel
theorem d_C_finish_26 : decode b_C_finish 26 = .ok (.aload_n 2, 1) := by decide +kernel
theorem d_C_finish_27 : decode b_C_finish 27 = .ok (.getfield 39, 3) := by decide +kernel
theorem d_C_finish_30 : decode b_C_finish 30 = .ok (.iconst 0, 1) := by decide +kernel
theorem d_C_finish_31 : decode b_C_finish 31 = .ok (.aload_n 0, 1) := by decide +kernel
theorem d_C_finish_32 : decode b_C_finish 32 = .ok (.getfield 31, 3) := by decide +kernel
theorem d_C_finish_35 : decode b_C_finish 35 = .ok (.iconst 0, 1) := by decide +kernel
theorem d_C_finish_36 : decode b_C_finish 36 = .ok (.iconst 4, 1) := by decide +kernel
theorem d_C_finish_37 : decode b_C_finish 37 = .ok (.invokestatic 40, 3) := by decide +kernel
theorem d_C_finish_40 : decode b_C_finish 40 = .ok (.return_, 1) := by decide +kernel
theorem d_S_finish_0 : decode b_S_finish 0 = .ok (.aload_n 0, 1) := by decide +kernel
theorem d_S_finish_1 : decode b_S_finish 1 = .ok (.getfield 21, 3) := by decide +kernel
theorem d_S_finish_4 : decode b_S_finish 4 = .ok (.aload_n 1, 1) := by decide +kernel
theorem d_S_finish_5 : decode b_S_finish 5 = .ok (.getfield 226, 3) := by decide +kernel
theorem d_S_finish_8 : decode b_S_finish 8 = .ok (.aaload, 1) := by decide +kernel
theorem d_S_finish_9 : decode b_S_finish 9 = .ok (.astore_n 2, 1) := by decide +kernel
theorem d_S_finish_10 : decode b_S_finish 10 = .ok (.aload_n 2, 1) := by decide +kernel
theorem d_S_finish_11 : decode b_S_finish 11 = .ok (.aload_n 0, 1) := by decide +kernel
theorem d_S_finish_12 : decode b_S_finish 12 = .ok (.getfield 72, 3) := by decide +kernel
theorem d_S_finish_15 : decode b_S_finish 15 = .ok (.aload_n 1, 1) := by decide +kernel
theorem d_S_finish_16 : decode b_S_finish 16 = .ok (.invokevirtual 202, 3) := by decide +kernel
theorem d_S_finish_19 : decode b_S_finish 19 = .ok (.aload_n 0, 1) := by decide +kernel
theorem d_S_finish_20 : decode b_S_finish 20 = .ok (.getfield 72, 3) := by decide +kernel
theorem d_S_finish_23 : decode b_S_finish 23 = .ok (.invokevirtual 229, 3) := by decide +kernel
theorem d_S_finish_26 : decode b_S_finish 26 = .ok (.aload_n 2, 1) := by decide +kernel
theorem d_S_finish_27 : decode b_S_finish 27 = .ok (.aload_n 0, 1) := by decide +kernel
theorem d_S_finish_28 : decode b_S_finish 28 = .ok (.getfield 52, 3) := by decide +kernel
theorem d_S_finish_31 : decode b_S_finish 31 = .ok (.invokevirtual 232, 3) := by decide +kernel
theorem d_S_finish_34 : decode b_S_finish 34 = .ok (.return_, 1) := by decide +kernel
theorem d_S_step_0 : decode b_S_step 0 = .ok (.iload_n 1, 1) := by decide +kernel
theorem d_S_step_1 : decode b_S_step 1 = .ok (.aload_n 0, 1) := by decide +kernel
theorem d_S_step_2 : decode b_S_step 2 = .ok (.getfield 64, 3) := by decide +kernel
theorem d_S_step_5 : decode b_S_step 5 = .ok (.invokestatic 85, 3) := by decide +kernel
theorem d_S_step_8 : decode b_S_step 8 = .ok (.ifCond .ne 5, 3) := by decide +kernel
theorem d_S_step_11 : decode b_S_step 11 = .ok (.iconst (-1), 1) := by decide +kernel
theorem d_S_step_12 : decode b_S_step 12 = .ok (.ireturn, 1) := by decide +kernel
theorem d_S_step_13 : decode b_S_step 13 = .ok (.aload_n 0, 1) := by decide +kernel
theorem d_S_step_14 : decode b_S_step 14 = .ok (.getfield 80, 3) := by decide +kernel
theorem d_S_step_17 : decode b_S_step 17 = .ok (.iload_n 1, 1) := by decide +kernel
theorem d_S_step_18 : decode b_S_step 18 = .ok (.aaload, 1) := by decide +kernel
theorem d_S_step_19 : decode b_S_step 19 = .ok (.invokevirtual 149, 3) := by decide +kernel
theorem d_S_step_22 : decode b_S_step 22 = .ok (.astore_n 2, 1) := by decide +kernel
theorem d_S_step_23 : decode b_S_step 23 = .ok (.aload_n 2, 1) := by decide +kernel
theorem d_S_step_24 : decode b_S_step 24 = .ok (.ifnonnull 5, 3) := by decide +kernel
theorem d_S_step_27 : decode b_S_step 27 = .ok (.iconst 0, 1) := by decide +kernel
theorem d_S_step_28 : decode b_S_step 28 = .ok (.ireturn, 1) := by decide +kernel
theorem d_S_step_29 : decode b_S_step 29 = .ok (.aload_n 2, 1) := by decide +kernel
theorem d_S_step_30 : decode b_S_step 30 = .ok (.getfield 132, 3) := by decide +kernel
theorem d_S_step_33 : decode b_S_step 33 = .ok (.ifnonnull 10, 3) := by decide +kernel
theorem d_S_step_36 : decode b_S_step 36 = .ok (.aload_n 0, 1) := by decide +kernel
theorem d_S_step_37 : decode b_S_step 37 = .ok (.iload_n 1, 1) := by decide +kernel
theorem d_S_step_38 : decode b_S_step 38 = .ok (.invokevirtual 153, 3) := by decide +kernel
theorem d_S_step_41 : decode b_S_step 41 = .ok (.iconst 3, 1) := by decide +kernel
theorem d_S_step_42 : decode b_S_step 42 = .ok (.ireturn, 1) := by decide +kernel
theorem d_S_step_43 : decode b_S_step 43 = .ok (.aload_n 2, 1) := by decide +kernel
theorem d_S_step_44 : decode b_S_step 44 = .ok (.getfield 132, 3) := by decide +kernel
theorem d_S_step_47 : decode b_S_step 47 = .ok (.getfield 135, 3) := by decide +kernel
theorem d_S_step_50 : decode b_S_step 50 = .ok (.ifCond .eq 29, 3) := by decide +kernel
theorem d_S_step_53 : decode b_S_step 53 = .ok (.aload_n 0, 1) := by decide +kernel
theorem d_S_step_54 : decode b_S_step 54 = .ok (.getfield 80, 3) := by decide +kernel
theorem d_S_step_57 : decode b_S_step 57 = .ok (.iload_n 1, 1) := by decide +kernel
theorem d_S_step_58 : decode b_S_step 58 = .ok (.aaload, 1) := by decide +kernel
theorem d_S_step_59 : decode b_S_step 59 = .ok (.iconst 1, 1) := by decide +kernel
theorem d_S_step_60 : decode b_S_step 60 = .ok (.putfield 156, 3) := by decide +kernel
theorem d_S_step_63 : decode b_S_step 63 = .ok (.aload_n 0, 1) := by decide +kernel
theorem d_S_step_64 : decode b_S_step 64 = .ok (.invokevirtual 159, 3) := by decide +kernel
theorem d_S_step_67 : decode b_S_step 67 = .ok (.ifCond .ne 5, 3) := by decide +kernel
theorem d_S_step_70 : decode b_S_step 70 = .ok (.iconst 2, 1) := by decide +kernel
theorem d_S_step_71 : decode b_S_step 71 = .ok (.ireturn, 1) := by decide +kernel
theorem d_S_step_72 : decode b_S_step 72 = .ok (.aload_n 0, 1) := by decide +kernel
theorem d_S_step_73 : decode b_S_step 73 = .ok (.invokevirtual 162, 3) := by decide +kernel
theorem d_S_step_76 : decode b_S_step 76 = .ok (.goto 12, 3) := by decide +kernel
theorem d_S_step_79 : decode b_S_step 79 = .ok (.aload_n 0, 1) := by decide +kernel
theorem d_S_step_80 : decode b_S_step 80 = .ok (.getfield 80, 3) := by decide +kernel
theorem d_S_step_83 : decode b_S_step 83 = .ok (.iload_n 1, 1) := by decide +kernel
theorem d_S_step_84 : decode b_S_step 84 = .ok (.aaload, 1) := by decide +kernel
theorem d_S_step_85 : decode b_S_step 85 = .ok (.invokevirtual 165, 3) := by decide +kernel
theorem d_S_step_88 : decode b_S_step 88 = .ok (.aload_n 0, 1) := by decide +kernel
theorem d_S_step_89 : decode b_S_step 89 = .ok (.aload_n 2, 1) := by decide +kernel
theorem d_S_step_90 : decode b_S_step 90 = .ok (.invokevirtual 168, 3) := by decide +kernel
theorem d_S_step_93 : decode b_S_step 93 = .ok (.iconst 1, 1) := by decide +kernel
theorem d_S_step_94 : decode b_S_step 94 = .ok (.ireturn, 1) := by decide +kernel
theorem d_S_flush_0 : decode b_S_flush 0 = .ok (.aload_n 0, 1) := by decide +kernel
theorem d_S_flush_1 : decode b_S_flush 1 = .ok (.aload_n 0, 1) := by decide +kernel
theorem d_S_flush_2 : decode b_S_flush 2 = .ok (.getfield 49, 3) := by decide +kernel
theorem d_S_flush_5 : decode b_S_flush 5 = .ok (.invokevirtual 171, 3) := by decide +kernel
theorem d_S_flush_8 : decode b_S_flush 8 = .ok (.aload_n 0, 1) := by decide +kernel
theorem d_S_flush_9 : decode b_S_flush 9 = .ok (.getfield 52, 3) := by decide +kernel
theorem d_S_flush_12 : decode b_S_flush 12 = .ok (.ireturn, 1) := by decide +kernel
theorem d_S_snapshot_0 : decode b_S_snapshot 0 = .ok (.aload_n 0, 1) := by decide +kernel
theorem d_S_snapshot_1 : decode b_S_snapshot 1 = .ok (.getfield 46, 3) := by decide +kernel
theorem d_S_snapshot_4 : decode b_S_snapshot 4 = .ok (.ifCond .eq 5, 3) := by decide +kernel
theorem d_S_snapshot_7 : decode b_S_snapshot 7 = .ok (.iconst (-1), 1) := by decide +kernel
theorem d_S_snapshot_8 : decode b_S_snapshot 8 = .ok (.ireturn, 1) := by decide +kernel
theorem d_S_snapshot_9 : decode b_S_snapshot 9 = .ok (.aload_n 0, 1) := by decide +kernel
theorem d_S_snapshot_10 : decode b_S_snapshot 10 = .ok (.dup, 1) := by decide +kernel
theorem d_S_snapshot_11 : decode b_S_snapshot 11 = .ok (.getfield 49, 3) := by decide +kernel
theorem d_S_snapshot_14 : decode b_S_snapshot 14 = .ok (.iconst 1, 1) := by decide +kernel
theorem d_S_snapshot_15 : decode b_S_snapshot 15 = .ok (.iadd, 1) := by decide +kernel
theorem d_S_snapshot_16 : decode b_S_snapshot 16 = .ok (.putfield 49, 3) := by decide +kernel
theorem d_S_snapshot_19 : decode b_S_snapshot 19 = .ok (.aload_n 0, 1) := by decide +kernel
theorem d_S_snapshot_20 : decode b_S_snapshot 20 = .ok (.aload_n 0, 1) := by decide +kernel
theorem d_S_snapshot_21 : decode b_S_snapshot 21 = .ok (.getfield 49, 3) := by decide +kernel
theorem d_S_snapshot_24 : decode b_S_snapshot 24 = .ok (.putfield 46, 3) := by decide +kernel
theorem d_S_snapshot_27 : decode b_S_snapshot 27 = .ok (.aload_n 0, 1) := by decide +kernel
theorem d_S_snapshot_28 : decode b_S_snapshot 28 = .ok (.getfield 80, 3) := by decide +kernel
theorem d_S_snapshot_31 : decode b_S_snapshot 31 = .ok (.astore_n 1, 1) := by decide +kernel
theorem d_S_snapshot_32 : decode b_S_snapshot 32 = .ok (.aload_n 1, 1) := by decide +kernel
theorem d_S_snapshot_33 : decode b_S_snapshot 33 = .ok (.arraylength, 1) := by decide +kernel
theorem d_S_snapshot_34 : decode b_S_snapshot 34 = .ok (.istore_n 2, 1) := by decide +kernel
theorem d_S_snapshot_35 : decode b_S_snapshot 35 = .ok (.iconst 0, 1) := by decide +kernel
theorem d_S_snapshot_36 : decode b_S_snapshot 36 = .ok (.istore_n 3, 1) := by decide +kernel
theorem d_S_snapshot_37 : decode b_S_snapshot 37 = .ok (.iload_n 3, 1) := by decide +kernel
theorem d_S_snapshot_38 : decode b_S_snapshot 38 = .ok (.iload_n 2, 1) := by decide +kernel
theorem d_S_snapshot_39 : decode b_S_snapshot 39 = .ok (.if_icmp .ge 20, 3) := by decide +kernel
theorem d_S_snapshot_42 : decode b_S_snapshot 42 = .ok (.aload_n 1, 1) := by decide +kernel
theorem d_S_snapshot_43 : decode b_S_snapshot 43 = .ok (.iload_n 3, 1) := by decide +kernel
theorem d_S_snapshot_44 : decode b_S_snapshot 44 = .ok (.aaload, 1) := by decide +kernel
theorem d_S_snapshot_45 : decode b_S_snapshot 45 = .ok (.astore 4, 2) := by decide +kernel
theorem d_S_snapshot_47 : decode b_S_snapshot 47 = .ok (.aload 4, 2) := by decide +kernel
theorem d_S_snapshot_49 : decode b_S_snapshot 49 = .ok (.iconst 0, 1) := by decide +kernel
theorem d_S_snapshot_50 : decode b_S_snapshot 50 = .ok (.putfield 174, 3) := by decide +kernel
theorem d_S_snapshot_53 : decode b_S_snapshot 53 = .ok (.iinc 3 1, 3) := by decide +kernel
theorem d_S_snapshot_56 : decode b_S_snapshot 56 = .ok (.goto (-19), 3) := by decide +kernel
theorem d_S_snapshot_59 : decode b_S_snapshot 59 = .ok (.aload_n 0, 1) := by decide +kernel
theorem d_S_snapshot_60 : decode b_S_snapshot 60 = .ok (.new 124, 3) := by decide +kernel
theorem d_S_snapshot_63 : decode b_S_snapshot 63 = .ok (.dup, 1) := by decide +kernel
theorem d_S_snapshot_64 : decode b_S_snapshot 64 = .ok (.aload_n 0, 1) := by decide +kernel
theorem d_S_snapshot_65 : decode b_S_snapshot 65 = .ok (.getfield 49, 3) := by decide +kernel
theorem d_S_snapshot_68 : decode b_S_snapshot 68 = .ok (.iconst (-1), 1) := by decide +kernel
theorem d_S_snapshot_69 : decode b_S_snapshot 69 = .ok (.aconst_null, 1) := by decide +kernel
theorem d_S_snapshot_70 : decode b_S_snapshot 70 = .ok (.iconst 0, 1) := by decide +kernel
theorem d_S_snapshot_71 : decode b_S_snapshot 71 = .ok (.iconst 0, 1) := by decide +kernel
theorem d_S_snapshot_72 : decode b_S_snapshot 72 = .ok (.iconst 0, 1) := by decide +kernel
theorem d_S_snapshot_73 : decode b_S_snapshot 73 = .ok (.invokespecial 126, 3) := by decide +kernel
theorem d_S_snapshot_76 : decode b_S_snapshot 76 = .ok (.invokevirtual 138, 3) := by decide +kernel
theorem d_S_snapshot_79 : decode b_S_snapshot 79 = .ok (.aload_n 0, 1) := by decide +kernel
theorem d_S_snapshot_80 : decode b_S_snapshot 80 = .ok (.getfield 49, 3) := by decide +kernel
theorem d_S_snapshot_83 : decode b_S_snapshot 83 = .ok (.ireturn, 1) := by decide +kernel
theorem d_S_scan_0 : decode b_S_scan 0 = .ok (.iload_n 1, 1) := by decide +kernel
theorem d_S_scan_1 : decode b_S_scan 1 = .ok (.aload_n 0, 1) := by decide +kernel
theorem d_S_scan_2 : decode b_S_scan 2 = .ok (.getfield 64, 3) := by decide +kernel
theorem d_S_scan_5 : decode b_S_scan 5 = .ok (.invokestatic 85, 3) := by decide +kernel
theorem d_S_scan_8 : decode b_S_scan 8 = .ok (.ifCond .eq 22, 3) := by decide +kernel
theorem d_S_scan_11 : decode b_S_scan 11 = .ok (.aload_n 0, 1) := by decide +kernel
theorem d_S_scan_12 : decode b_S_scan 12 = .ok (.getfield 46, 3) := by decide +kernel
theorem d_S_scan_15 : decode b_S_scan 15 = .ok (.ifCond .eq 15, 3) := by decide +kernel
theorem d_S_scan_18 : decode b_S_scan 18 = .ok (.aload_n 0, 1) := by decide +kernel
theorem d_S_scan_19 : decode b_S_scan 19 = .ok (.getfield 80, 3) := by decide +kernel
theorem d_S_scan_22 : decode b_S_scan 22 = .ok (.iload_n 1, 1) := by decide +kernel
theorem d_S_scan_23 : decode b_S_scan 23 = .ok (.aaload, 1) := by decide +kernel
theorem d_S_scan_24 : decode b_S_scan 24 = .ok (.getfield 174, 3) := by decide +kernel
theorem d_S_scan_27 : decode b_S_scan 27 = .ok (.ifCond .ne 5, 3) := by decide +kernel
theorem d_S_scan_30 : decode b_S_scan 30 = .ok (.iconst (-1), 1) := by decide +kernel
theorem d_S_scan_31 : decode b_S_scan 31 = .ok (.ireturn, 1) := by decide +kernel
theorem d_S_scan_32 : decode b_S_scan 32 = .ok (.aload_n 0, 1) := by decide +kernel
theorem d_S_scan_33 : decode b_S_scan 33 = .ok (.getfield 80, 3) := by decide +kernel
theorem d_S_scan_36 : decode b_S_scan 36 = .ok (.iload_n 1, 1) := by decide +kernel
theorem d_S_scan_37 : decode b_S_scan 37 = .ok (.aaload, 1) := by decide +kernel
theorem d_S_scan_38 : decode b_S_scan 38 = .ok (.astore_n 3, 1) := by decide +kernel
theorem d_S_scan_39 : decode b_S_scan 39 = .ok (.aload_n 3, 1) := by decide +kernel
theorem d_S_scan_40 : decode b_S_scan 40 = .ok (.dup, 1) := by decide +kernel
theorem d_S_scan_41 : decode b_S_scan 41 = .ok (.getfield 177, 3) := by decide +kernel
theorem d_S_scan_44 : decode b_S_scan 44 = .ok (.iload_n 2, 1) := by decide +kernel
theorem d_S_scan_45 : decode b_S_scan 45 = .ok (.iconst 0, 1) := by decide +kernel
theorem d_S_scan_46 : decode b_S_scan 46 = .ok (.invokestatic 61, 3) := by decide +kernel
theorem d_S_scan_49 : decode b_S_scan 49 = .ok (.aload_n 3, 1) := by decide +kernel
theorem d_S_scan_50 : decode b_S_scan 50 = .ok (.getfield 177, 3) := by decide +kernel
theorem d_S_scan_53 : decode b_S_scan 53 = .ok (.invokestatic 55, 3) := by decide +kernel
theorem d_S_scan_56 : decode b_S_scan 56 = .ok (.isub, 1) := by decide +kernel
theorem d_S_scan_57 : decode b_S_scan 57 = .ok (.putfield 177, 3) := by decide +kernel
theorem d_S_scan_60 : decode b_S_scan 60 = .ok (.aload_n 0, 1) := by decide +kernel
theorem d_S_scan_61 : decode b_S_scan 61 = .ok (.invokevirtual 180, 3) := by decide +kernel
theorem d_S_scan_64 : decode b_S_scan 64 = .ok (.aload_n 3, 1) := by decide +kernel
theorem d_S_scan_65 : decode b_S_scan 65 = .ok (.getfield 177, 3) := by decide +kernel
theorem d_S_scan_68 : decode b_S_scan 68 = .ok (.ireturn, 1) := by decide +kernel
theorem d_Q_restart_0 : decode b_Q_restart 0 = .ok (.aload_n 0, 1) := by decide +kernel
theorem d_Q_restart_1 : decode b_Q_restart 1 = .ok (.getfield 10, 3) := by decide +kernel
theorem d_Q_restart_4 : decode b_Q_restart 4 = .ok (.invokevirtual 40, 3) := by decide +kernel
theorem d_Q_restart_7 : decode b_Q_restart 7 = .ok (.aload_n 0, 1) := by decide +kernel
theorem d_Q_restart_8 : decode b_Q_restart 8 = .ok (.iconst 0, 1) := by decide +kernel
theorem d_Q_restart_9 : decode b_Q_restart 9 = .ok (.putfield 16, 3) := by decide +kernel
theorem d_Q_restart_12 : decode b_Q_restart 12 = .ok (.return_, 1) := by decide +kernel
theorem d_C_lose_0 : decode b_C_lose 0 = .ok (.aload_n 0, 1) := by decide +kernel
theorem d_C_lose_1 : decode b_C_lose 1 = .ok (.getfield 9, 3) := by decide +kernel
theorem d_C_lose_4 : decode b_C_lose 4 = .ok (.iconst 1, 1) := by decide +kernel
theorem d_C_lose_5 : decode b_C_lose 5 = .ok (.if_icmp .ne 8, 3) := by decide +kernel
theorem d_C_lose_8 : decode b_C_lose 8 = .ok (.aload_n 0, 1) := by decide +kernel
theorem d_C_lose_9 : decode b_C_lose 9 = .ok (.iconst 4, 1) := by decide +kernel
theorem d_C_lose_10 : decode b_C_lose 10 = .ok (.putfield 9, 3) := by decide +kernel
theorem d_C_lose_13 : decode b_C_lose 13 = .ok (.return_, 1) := by decide +kernel
theorem d_S_dropLogAbove_0 : decode b_S_dropLogAbove 0 = .ok (.aload_n 0, 1) := by decide +kernel
theorem d_S_dropLogAbove_1 : decode b_S_dropLogAbove 1 = .ok (.getfield 28, 3) := by decide +kernel
theorem d_S_dropLogAbove_4 : decode b_S_dropLogAbove 4 = .ok (.invokevirtual 104, 3) := by decide +kernel
theorem d_S_dropLogAbove_7 : decode b_S_dropLogAbove 7 = .ok (.iconst 1, 1) := by decide +kernel
theorem d_S_dropLogAbove_8 : decode b_S_dropLogAbove 8 = .ok (.isub, 1) := by decide +kernel
theorem d_S_dropLogAbove_9 : decode b_S_dropLogAbove 9 = .ok (.istore_n 2, 1) := by decide +kernel
theorem d_S_dropLogAbove_10 : decode b_S_dropLogAbove 10 = .ok (.iload_n 2, 1) := by decide +kernel
theorem d_S_dropLogAbove_11 : decode b_S_dropLogAbove 11 = .ok (.ifCond .lt 36, 3) := by decide +kernel
theorem d_S_dropLogAbove_14 : decode b_S_dropLogAbove 14 = .ok (.aload_n 0, 1) := by decide +kernel
theorem d_S_dropLogAbove_15 : decode b_S_dropLogAbove 15 = .ok (.getfield 28, 3) := by decide +kernel
theorem d_S_dropLogAbove_18 : decode b_S_dropLogAbove 18 = .ok (.iload_n 2, 1) := by decide +kernel
theorem d_S_dropLogAbove_19 : decode b_S_dropLogAbove 19 = .ok (.invokevirtual 198, 3) := by decide +kernel
theorem d_S_dropLogAbove_22 : decode b_S_dropLogAbove 22 = .ok (.checkcast 124, 3) := by decide +kernel
theorem d_S_dropLogAbove_25 : decode b_S_dropLogAbove 25 = .ok (.getfield 248, 3) := by decide +kernel
theorem d_S_dropLogAbove_28 : decode b_S_dropLogAbove 28 = .ok (.iload_n 1, 1) := by decide +kernel
theorem d_S_dropLogAbove_29 : decode b_S_dropLogAbove 29 = .ok (.if_icmp .le 18, 3) := by decide +kernel
theorem d_S_dropLogAbove_32 : decode b_S_dropLogAbove 32 = .ok (.aload_n 0, 1) := by decide +kernel
theorem d_S_dropLogAbove_33 : decode b_S_dropLogAbove 33 = .ok (.getfield 28, 3) := by decide +kernel
theorem d_S_dropLogAbove_36 : decode b_S_dropLogAbove 36 = .ok (.iload_n 2, 1) := by decide +kernel
theorem d_S_dropLogAbove_37 : decode b_S_dropLogAbove 37 = .ok (.invokevirtual 251, 3) := by decide +kernel
theorem d_S_dropLogAbove_40 : decode b_S_dropLogAbove 40 = .ok (.pop, 1) := by decide +kernel
theorem d_S_dropLogAbove_41 : decode b_S_dropLogAbove 41 = .ok (.iinc 2 (-1), 3) := by decide +kernel
theorem d_S_dropLogAbove_44 : decode b_S_dropLogAbove 44 = .ok (.goto (-34), 3) := by decide +kernel
theorem d_S_dropLogAbove_47 : decode b_S_dropLogAbove 47 = .ok (.return_, 1) := by decide +kernel
theorem d_S_crash_0 : decode b_S_crash 0 = .ok (.aload_n 0, 1) := by decide +kernel
theorem d_S_crash_1 : decode b_S_crash 1 = .ok (.getfield 80, 3) := by decide +kernel
theorem d_S_crash_4 : decode b_S_crash 4 = .ok (.astore_n 1, 1) := by decide +kernel
theorem d_S_crash_5 : decode b_S_crash 5 = .ok (.aload_n 1, 1) := by decide +kernel
theorem d_S_crash_6 : decode b_S_crash 6 = .ok (.arraylength, 1) := by decide +kernel
theorem d_S_crash_7 : decode b_S_crash 7 = .ok (.istore_n 2, 1) := by decide +kernel
theorem d_S_crash_8 : decode b_S_crash 8 = .ok (.iconst 0, 1) := by decide +kernel
theorem d_S_crash_9 : decode b_S_crash 9 = .ok (.istore_n 3, 1) := by decide +kernel
theorem d_S_crash_10 : decode b_S_crash 10 = .ok (.iload_n 3, 1) := by decide +kernel
theorem d_S_crash_11 : decode b_S_crash 11 = .ok (.iload_n 2, 1) := by decide +kernel
theorem d_S_crash_12 : decode b_S_crash 12 = .ok (.if_icmp .ge 19, 3) := by decide +kernel
theorem d_S_crash_15 : decode b_S_crash 15 = .ok (.aload_n 1, 1) := by decide +kernel
theorem d_S_crash_16 : decode b_S_crash 16 = .ok (.iload_n 3, 1) := by decide +kernel
theorem d_S_crash_17 : decode b_S_crash 17 = .ok (.aaload, 1) := by decide +kernel
theorem d_S_crash_18 : decode b_S_crash 18 = .ok (.astore 4, 2) := by decide +kernel
theorem d_S_crash_20 : decode b_S_crash 20 = .ok (.aload 4, 2) := by decide +kernel
theorem d_S_crash_22 : decode b_S_crash 22 = .ok (.invokevirtual 183, 3) := by decide +kernel
theorem d_S_crash_25 : decode b_S_crash 25 = .ok (.iinc 3 1, 3) := by decide +kernel
theorem d_S_crash_28 : decode b_S_crash 28 = .ok (.goto (-18), 3) := by decide +kernel
theorem d_S_crash_31 : decode b_S_crash 31 = .ok (.aload_n 0, 1) := by decide +kernel
theorem d_S_crash_32 : decode b_S_crash 32 = .ok (.iconst 0, 1) := by decide +kernel
theorem d_S_crash_33 : decode b_S_crash 33 = .ok (.putfield 46, 3) := by decide +kernel
theorem d_S_crash_36 : decode b_S_crash 36 = .ok (.aload_n 0, 1) := by decide +kernel
theorem d_S_crash_37 : decode b_S_crash 37 = .ok (.getfield 21, 3) := by decide +kernel
theorem d_S_crash_40 : decode b_S_crash 40 = .ok (.astore_n 1, 1) := by decide +kernel
theorem d_S_crash_41 : decode b_S_crash 41 = .ok (.aload_n 1, 1) := by decide +kernel
theorem d_S_crash_42 : decode b_S_crash 42 = .ok (.arraylength, 1) := by decide +kernel
theorem d_S_crash_43 : decode b_S_crash 43 = .ok (.istore_n 2, 1) := by decide +kernel
theorem d_S_crash_44 : decode b_S_crash 44 = .ok (.iconst 0, 1) := by decide +kernel
theorem d_S_crash_45 : decode b_S_crash 45 = .ok (.istore_n 3, 1) := by decide +kernel
theorem d_S_crash_46 : decode b_S_crash 46 = .ok (.iload_n 3, 1) := by decide +kernel
theorem d_S_crash_47 : decode b_S_crash 47 = .ok (.iload_n 2, 1) := by decide +kernel
theorem d_S_crash_48 : decode b_S_crash 48 = .ok (.if_icmp .ge 19, 3) := by decide +kernel
theorem d_S_crash_51 : decode b_S_crash 51 = .ok (.aload_n 1, 1) := by decide +kernel
theorem d_S_crash_52 : decode b_S_crash 52 = .ok (.iload_n 3, 1) := by decide +kernel
theorem d_S_crash_53 : decode b_S_crash 53 = .ok (.aaload, 1) := by decide +kernel
theorem d_S_crash_54 : decode b_S_crash 54 = .ok (.astore 4, 2) := by decide +kernel
theorem d_S_crash_56 : decode b_S_crash 56 = .ok (.aload 4, 2) := by decide +kernel
theorem d_S_crash_58 : decode b_S_crash 58 = .ok (.invokevirtual 185, 3) := by decide +kernel
theorem d_S_crash_61 : decode b_S_crash 61 = .ok (.iinc 3 1, 3) := by decide +kernel
theorem d_S_crash_64 : decode b_S_crash 64 = .ok (.goto (-18), 3) := by decide +kernel
theorem d_S_crash_67 : decode b_S_crash 67 = .ok (.aload_n 0, 1) := by decide +kernel
theorem d_S_crash_68 : decode b_S_crash 68 = .ok (.aload_n 0, 1) := by decide +kernel
theorem d_S_crash_69 : decode b_S_crash 69 = .ok (.getfield 52, 3) := by decide +kernel
theorem d_S_crash_72 : decode b_S_crash 72 = .ok (.invokevirtual 188, 3) := by decide +kernel
theorem d_S_crash_75 : decode b_S_crash 75 = .ok (.aload_n 0, 1) := by decide +kernel
theorem d_S_crash_76 : decode b_S_crash 76 = .ok (.aload_n 0, 1) := by decide +kernel
theorem d_S_crash_77 : decode b_S_crash 77 = .ok (.getfield 52, 3) := by decide +kernel
theorem d_S_crash_80 : decode b_S_crash 80 = .ok (.putfield 49, 3) := by decide +kernel
theorem d_S_crash_83 : decode b_S_crash 83 = .ok (.aload_n 0, 1) := by decide +kernel
theorem d_S_crash_84 : decode b_S_crash 84 = .ok (.getfield 72, 3) := by decide +kernel
theorem d_S_crash_87 : decode b_S_crash 87 = .ok (.getfield 191, 3) := by decide +kernel
theorem d_S_crash_90 : decode b_S_crash 90 = .ok (.aload_n 0, 1) := by decide +kernel
theorem d_S_crash_91 : decode b_S_crash 91 = .ok (.getfield 35, 3) := by decide +kernel
theorem d_S_crash_94 : decode b_S_crash 94 = .ok (.invokevirtual 194, 3) := by decide +kernel
theorem d_S_crash_97 : decode b_S_crash 97 = .ok (.iconst 0, 1) := by decide +kernel
theorem d_S_crash_98 : decode b_S_crash 98 = .ok (.istore_n 1, 1) := by decide +kernel
theorem d_S_crash_99 : decode b_S_crash 99 = .ok (.iload_n 1, 1) := by decide +kernel
theorem d_S_crash_100 : decode b_S_crash 100 = .ok (.aload_n 0, 1) := by decide +kernel
theorem d_S_crash_101 : decode b_S_crash 101 = .ok (.getfield 28, 3) := by decide +kernel
theorem d_S_crash_104 : decode b_S_crash 104 = .ok (.invokevirtual 104, 3) := by decide +kernel
theorem d_S_crash_107 : decode b_S_crash 107 = .ok (.if_icmp .ge 28, 3) := by decide +kernel
theorem d_S_crash_110 : decode b_S_crash 110 = .ok (.aload_n 0, 1) := by decide +kernel
theorem d_S_crash_111 : decode b_S_crash 111 = .ok (.getfield 72, 3) := by decide +kernel
theorem d_S_crash_114 : decode b_S_crash 114 = .ok (.aload_n 0, 1) := by decide +kernel
theorem d_S_crash_115 : decode b_S_crash 115 = .ok (.getfield 28, 3) := by decide +kernel
theorem d_S_crash_118 : decode b_S_crash 118 = .ok (.iload_n 1, 1) := by decide +kernel
theorem d_S_crash_119 : decode b_S_crash 119 = .ok (.invokevirtual 198, 3) := by decide +kernel
theorem d_S_crash_122 : decode b_S_crash 122 = .ok (.checkcast 124, 3) := by decide +kernel
theorem d_S_crash_125 : decode b_S_crash 125 = .ok (.invokevirtual 202, 3) := by decide +kernel
theorem d_S_crash_128 : decode b_S_crash 128 = .ok (.pop, 1) := by decide +kernel
theorem d_S_crash_129 : decode b_S_crash 129 = .ok (.iinc 1 1, 3) := by decide +kernel
theorem d_S_crash_132 : decode b_S_crash 132 = .ok (.goto (-33), 3) := by decide +kernel
theorem d_S_crash_135 : decode b_S_crash 135 = .ok (.aload_n 0, 1) := by decide +kernel
theorem d_S_crash_136 : decode b_S_crash 136 = .ok (.getfield 52, 3) := by decide +kernel
theorem d_S_crash_139 : decode b_S_crash 139 = .ok (.ireturn, 1) := by decide +kernel
theorem d_S_answer_0 : decode b_S_answer 0 = .ok (.iload_n 1, 1) := by decide +kernel
theorem d_S_answer_1 : decode b_S_answer 1 = .ok (.iconst 4, 1) := by decide +kernel
theorem d_S_answer_2 : decode b_S_answer 2 = .ok (.invokestatic 85, 3) := by decide +kernel
theorem d_S_answer_5 : decode b_S_answer 5 = .ok (.ifCond .eq 15, 3) := by decide +kernel
theorem d_S_answer_8 : decode b_S_answer 8 = .ok (.aload_n 0, 1) := by decide +kernel
theorem d_S_answer_9 : decode b_S_answer 9 = .ok (.getfield 21, 3) := by decide +kernel
theorem d_S_answer_12 : decode b_S_answer 12 = .ok (.iload_n 1, 1) := by decide +kernel
theorem d_S_answer_13 : decode b_S_answer 13 = .ok (.aaload, 1) := by decide +kernel
theorem d_S_answer_14 : decode b_S_answer 14 = .ok (.getfield 121, 3) := by decide +kernel
theorem d_S_answer_17 : decode b_S_answer 17 = .ok (.goto 4, 3) := by decide +kernel
theorem d_S_answer_20 : decode b_S_answer 20 = .ok (.iconst (-1), 1) := by decide +kernel
theorem d_S_answer_21 : decode b_S_answer 21 = .ok (.ireturn, 1) := by decide +kernel
theorem d_C_tell_0 : decode b_C_tell 0 = .ok (.aload_n 0, 1) := by decide +kernel
theorem d_C_tell_1 : decode b_C_tell 1 = .ok (.getfield 9, 3) := by decide +kernel
theorem d_C_tell_4 : decode b_C_tell 4 = .ok (.iconst 2, 1) := by decide +kernel
theorem d_C_tell_5 : decode b_C_tell 5 = .ok (.if_icmp .ne 14, 3) := by decide +kernel
theorem d_C_tell_8 : decode b_C_tell 8 = .ok (.iload_n 1, 1) := by decide +kernel
theorem d_C_tell_9 : decode b_C_tell 9 = .ok (.iconst (-1), 1) := by decide +kernel
theorem d_C_tell_10 : decode b_C_tell 10 = .ok (.if_icmp .ne 9, 3) := by decide +kernel
theorem d_C_tell_13 : decode b_C_tell 13 = .ok (.aload_n 0, 1) := by decide +kernel
theorem d_C_tell_14 : decode b_C_tell 14 = .ok (.getfield 28, 3) := by decide +kernel
theorem d_C_tell_17 : decode b_C_tell 17 = .ok (.i2l, 1) := by decide +kernel
theorem d_C_tell_18 : decode b_C_tell 18 = .ok (.lreturn, 1) := by decide +kernel
theorem d_C_tell_19 : decode b_C_tell 19 = .ok (.aload_n 0, 1) := by decide +kernel
theorem d_C_tell_20 : decode b_C_tell 20 = .ok (.getfield 9, 3) := by decide +kernel
theorem d_C_tell_23 : decode b_C_tell 23 = .ok (.iconst 2, 1) := by decide +kernel
theorem d_C_tell_24 : decode b_C_tell 24 = .ok (.if_icmp .ne 22, 3) := by decide +kernel
theorem d_C_tell_27 : decode b_C_tell 27 = .ok (.iload_n 1, 1) := by decide +kernel
theorem d_C_tell_28 : decode b_C_tell 28 = .ok (.aload_n 0, 1) := by decide +kernel
theorem d_C_tell_29 : decode b_C_tell 29 = .ok (.getfield 28, 3) := by decide +kernel
theorem d_C_tell_32 : decode b_C_tell 32 = .ok (.invokestatic 46, 3) := by decide +kernel
theorem d_C_tell_35 : decode b_C_tell 35 = .ok (.ifCond .eq 11, 3) := by decide +kernel
theorem d_C_tell_38 : decode b_C_tell 38 = .ok (.aload_n 0, 1) := by decide +kernel
theorem d_C_tell_39 : decode b_C_tell 39 = .ok (.getfield 31, 3) := by decide +kernel
theorem d_C_tell_42 : decode b_C_tell 42 = .ok (.iload_n 1, 1) := by decide +kernel
theorem d_C_tell_43 : decode b_C_tell 43 = .ok (.iaload, 1) := by decide +kernel
theorem d_C_tell_44 : decode b_C_tell 44 = .ok (.i2l, 1) := by decide +kernel
theorem d_C_tell_45 : decode b_C_tell 45 = .ok (.lreturn, 1) := by decide +kernel
theorem d_C_tell_46 : decode b_C_tell 46 = .ok (.aload_n 0, 1) := by decide +kernel
theorem d_C_tell_47 : decode b_C_tell 47 = .ok (.getfield 9, 3) := by decide +kernel
theorem d_C_tell_50 : decode b_C_tell 50 = .ok (.iconst 3, 1) := by decide +kernel
theorem d_C_tell_51 : decode b_C_tell 51 = .ok (.if_icmp .ne 14, 3) := by decide +kernel
theorem d_C_tell_54 : decode b_C_tell 54 = .ok (.iload_n 1, 1) := by decide +kernel
theorem d_C_tell_55 : decode b_C_tell 55 = .ok (.iconst (-1), 1) := by decide +kernel
theorem d_C_tell_56 : decode b_C_tell 56 = .ok (.if_icmp .ne 9, 3) := by decide +kernel
theorem d_C_tell_59 : decode b_C_tell 59 = .ok (.aload_n 0, 1) := by decide +kernel
theorem d_C_tell_60 : decode b_C_tell 60 = .ok (.getfield 25, 3) := by decide +kernel
theorem d_C_tell_63 : decode b_C_tell 63 = .ok (.i2l, 1) := by decide +kernel
theorem d_C_tell_64 : decode b_C_tell 64 = .ok (.lreturn, 1) := by decide +kernel
theorem d_C_tell_65 : decode b_C_tell 65 = .ok (.ldc2_w 50, 3) := by decide +kernel
theorem d_C_tell_68 : decode b_C_tell 68 = .ok (.lreturn, 1) := by decide +kernel
theorem d_S_output_0 : decode b_S_output 0 = .ok (.iload_n 1, 1) := by decide +kernel
theorem d_S_output_1 : decode b_S_output 1 = .ok (.iconst 4, 1) := by decide +kernel
theorem d_S_output_2 : decode b_S_output 2 = .ok (.invokestatic 85, 3) := by decide +kernel
theorem d_S_output_5 : decode b_S_output 5 = .ok (.ifCond .eq 16, 3) := by decide +kernel
theorem d_S_output_8 : decode b_S_output 8 = .ok (.aload_n 0, 1) := by decide +kernel
theorem d_S_output_9 : decode b_S_output 9 = .ok (.getfield 21, 3) := by decide +kernel
theorem d_S_output_12 : decode b_S_output 12 = .ok (.iload_n 1, 1) := by decide +kernel
theorem d_S_output_13 : decode b_S_output 13 = .ok (.aaload, 1) := by decide +kernel
theorem d_S_output_14 : decode b_S_output 14 = .ok (.iload_n 2, 1) := by decide +kernel
theorem d_S_output_15 : decode b_S_output 15 = .ok (.invokevirtual 206, 3) := by decide +kernel
theorem d_S_output_18 : decode b_S_output 18 = .ok (.goto 6, 3) := by decide +kernel
theorem d_S_output_21 : decode b_S_output 21 = .ok (.ldc2_w 210, 3) := by decide +kernel
theorem d_S_output_24 : decode b_S_output 24 = .ok (.lreturn, 1) := by decide +kernel
theorem d_S_row_0 : decode b_S_row 0 = .ok (.iload_n 1, 1) := by decide +kernel
theorem d_S_row_1 : decode b_S_row 1 = .ok (.bipush 32, 2) := by decide +kernel
theorem d_S_row_3 : decode b_S_row 3 = .ok (.invokestatic 85, 3) := by decide +kernel
theorem d_S_row_6 : decode b_S_row 6 = .ok (.ifCond .eq 18, 3) := by decide +kernel
theorem d_S_row_9 : decode b_S_row 9 = .ok (.aload_n 0, 1) := by decide +kernel
theorem d_S_row_10 : decode b_S_row 10 = .ok (.getfield 72, 3) := by decide +kernel
theorem d_S_row_13 : decode b_S_row 13 = .ok (.getfield 191, 3) := by decide +kernel
theorem d_S_row_16 : decode b_S_row 16 = .ok (.getfield 212, 3) := by decide +kernel
theorem d_S_row_19 : decode b_S_row 19 = .ok (.iload_n 1, 1) := by decide +kernel
theorem d_S_row_20 : decode b_S_row 20 = .ok (.laload, 1) := by decide +kernel
theorem d_S_row_21 : decode b_S_row 21 = .ok (.goto 6, 3) := by decide +kernel
theorem d_S_row_24 : decode b_S_row 24 = .ok (.ldc2_w 210, 3) := by decide +kernel
theorem d_S_row_27 : decode b_S_row 27 = .ok (.lreturn, 1) := by decide +kernel
theorem d_S_replicated_0 : decode b_S_replicated 0 = .ok (.iload_n 1, 1) := by decide +kernel
theorem d_S_replicated_1 : decode b_S_replicated 1 = .ok (.bipush 8, 2) := by decide +kernel
theorem d_S_replicated_3 : decode b_S_replicated 3 = .ok (.invokestatic 85, 3) := by decide +kernel
theorem d_S_replicated_6 : decode b_S_replicated 6 = .ok (.ifCond .eq 19, 3) := by decide +kernel
theorem d_S_replicated_9 : decode b_S_replicated 9 = .ok (.aload_n 0, 1) := by decide +kernel
theorem d_S_replicated_10 : decode b_S_replicated 10 = .ok (.getfield 72, 3) := by decide +kernel
theorem d_S_replicated_13 : decode b_S_replicated 13 = .ok (.getfield 191, 3) := by decide +kernel
theorem d_S_replicated_16 : decode b_S_replicated 16 = .ok (.getfield 216, 3) := by decide +kernel
theorem d_S_replicated_19 : decode b_S_replicated 19 = .ok (.iload_n 1, 1) := by decide +kernel
theorem d_S_replicated_20 : decode b_S_replicated 20 = .ok (.iaload, 1) := by decide +kernel
theorem d_S_replicated_21 : decode b_S_replicated 21 = .ok (.i2l, 1) := by decide +kernel
theorem d_S_replicated_22 : decode b_S_replicated 22 = .ok (.goto 6, 3) := by decide +kernel
theorem d_S_replicated_25 : decode b_S_replicated 25 = .ok (.ldc2_w 210, 3) := by decide +kernel
theorem d_S_replicated_28 : decode b_S_replicated 28 = .ok (.lreturn, 1) := by decide +kernel
theorem d_S_waiting_0 : decode b_S_waiting 0 = .ok (.iload_n 1, 1) := by decide +kernel
theorem d_S_waiting_1 : decode b_S_waiting 1 = .ok (.aload_n 0, 1) := by decide +kernel
theorem d_S_waiting_2 : decode b_S_waiting 2 = .ok (.getfield 64, 3) := by decide +kernel
theorem d_S_waiting_5 : decode b_S_waiting 5 = .ok (.invokestatic 85, 3) := by decide +kernel
theorem d_S_waiting_8 : decode b_S_waiting 8 = .ok (.ifCond .eq 18, 3) := by decide +kernel
theorem d_S_waiting_11 : decode b_S_waiting 11 = .ok (.aload_n 0, 1) := by decide +kernel
theorem d_S_waiting_12 : decode b_S_waiting 12 = .ok (.getfield 80, 3) := by decide +kernel
theorem d_S_waiting_15 : decode b_S_waiting 15 = .ok (.iload_n 1, 1) := by decide +kernel
theorem d_S_waiting_16 : decode b_S_waiting 16 = .ok (.aaload, 1) := by decide +kernel
theorem d_S_waiting_17 : decode b_S_waiting 17 = .ok (.getfield 146, 3) := by decide +kernel
theorem d_S_waiting_20 : decode b_S_waiting 20 = .ok (.invokevirtual 104, 3) := by decide +kernel
theorem d_S_waiting_23 : decode b_S_waiting 23 = .ok (.goto 4, 3) := by decide +kernel
theorem d_S_waiting_26 : decode b_S_waiting 26 = .ok (.iconst (-1), 1) := by decide +kernel
theorem d_S_waiting_27 : decode b_S_waiting 27 = .ok (.ireturn, 1) := by decide +kernel
theorem d_S_rows_0 : decode b_S_rows 0 = .ok (.iload_n 1, 1) := by decide +kernel
theorem d_S_rows_1 : decode b_S_rows 1 = .ok (.aload_n 0, 1) := by decide +kernel
theorem d_S_rows_2 : decode b_S_rows 2 = .ok (.getfield 64, 3) := by decide +kernel
theorem d_S_rows_5 : decode b_S_rows 5 = .ok (.invokestatic 85, 3) := by decide +kernel
theorem d_S_rows_8 : decode b_S_rows 8 = .ok (.ifCond .eq 21, 3) := by decide +kernel
theorem d_S_rows_11 : decode b_S_rows 11 = .ok (.aload_n 0, 1) := by decide +kernel
theorem d_S_rows_12 : decode b_S_rows 12 = .ok (.getfield 72, 3) := by decide +kernel
theorem d_S_rows_15 : decode b_S_rows 15 = .ok (.getfield 191, 3) := by decide +kernel
theorem d_S_rows_18 : decode b_S_rows 18 = .ok (.iload_n 1, 1) := by decide +kernel
theorem d_S_rows_19 : decode b_S_rows 19 = .ok (.aload_n 0, 1) := by decide +kernel
theorem d_S_rows_20 : decode b_S_rows 20 = .ok (.getfield 64, 3) := by decide +kernel
theorem d_S_rows_23 : decode b_S_rows 23 = .ok (.invokevirtual 220, 3) := by decide +kernel
theorem d_S_rows_26 : decode b_S_rows 26 = .ok (.goto 4, 3) := by decide +kernel
theorem d_S_rows_29 : decode b_S_rows 29 = .ok (.iconst (-1), 1) := by decide +kernel
theorem d_S_rows_30 : decode b_S_rows 30 = .ok (.ireturn, 1) := by decide +kernel
theorem d_S_stalledNumber_0 : decode b_S_stalledNumber 0 = .ok (.aload_n 0, 1) := by decide +kernel
theorem d_S_stalledNumber_1 : decode b_S_stalledNumber 1 = .ok (.getfield 80, 3) := by decide +kernel
theorem d_S_stalledNumber_4 : decode b_S_stalledNumber 4 = .ok (.astore_n 1, 1) := by decide +kernel
theorem d_S_stalledNumber_5 : decode b_S_stalledNumber 5 = .ok (.aload_n 1, 1) := by decide +kernel
theorem d_S_stalledNumber_6 : decode b_S_stalledNumber 6 = .ok (.arraylength, 1) := by decide +kernel
theorem d_S_stalledNumber_7 : decode b_S_stalledNumber 7 = .ok (.istore_n 2, 1) := by decide +kernel
theorem d_S_stalledNumber_8 : decode b_S_stalledNumber 8 = .ok (.iconst 0, 1) := by decide +kernel
theorem d_S_stalledNumber_9 : decode b_S_stalledNumber 9 = .ok (.istore_n 3, 1) := by decide +kernel
theorem d_S_stalledNumber_10 : decode b_S_stalledNumber 10 = .ok (.iload_n 3, 1) := by decide +kernel
theorem d_S_stalledNumber_11 : decode b_S_stalledNumber 11 = .ok (.iload_n 2, 1) := by decide +kernel
theorem d_S_stalledNumber_12 : decode b_S_stalledNumber 12 = .ok (.if_icmp .ge 40, 3) := by decide +kernel
theorem d_S_stalledNumber_15 : decode b_S_stalledNumber 15 = .ok (.aload_n 1, 1) := by decide +kernel
theorem d_S_stalledNumber_16 : decode b_S_stalledNumber 16 = .ok (.iload_n 3, 1) := by decide +kernel
theorem d_S_stalledNumber_17 : decode b_S_stalledNumber 17 = .ok (.aaload, 1) := by decide +kernel
theorem d_S_stalledNumber_18 : decode b_S_stalledNumber 18 = .ok (.astore 4, 2) := by decide +kernel
theorem d_S_stalledNumber_20 : decode b_S_stalledNumber 20 = .ok (.aload 4, 2) := by decide +kernel
theorem d_S_stalledNumber_22 : decode b_S_stalledNumber 22 = .ok (.invokevirtual 149, 3) := by decide +kernel
theorem d_S_stalledNumber_25 : decode b_S_stalledNumber 25 = .ok (.astore 5, 2) := by decide +kernel
theorem d_S_stalledNumber_27 : decode b_S_stalledNumber 27 = .ok (.aload 4, 2) := by decide +kernel
theorem d_S_stalledNumber_29 : decode b_S_stalledNumber 29 = .ok (.getfield 156, 3) := by decide +kernel
theorem d_S_stalledNumber_32 : decode b_S_stalledNumber 32 = .ok (.ifCond .eq 14, 3) := by decide +kernel
theorem d_S_stalledNumber_35 : decode b_S_stalledNumber 35 = .ok (.aload 5, 2) := by decide +kernel
theorem d_S_stalledNumber_37 : decode b_S_stalledNumber 37 = .ok (.ifnull 9, 3) := by decide +kernel
theorem d_S_stalledNumber_40 : decode b_S_stalledNumber 40 = .ok (.aload 5, 2) := by decide +kernel
theorem d_S_stalledNumber_42 : decode b_S_stalledNumber 42 = .ok (.getfield 248, 3) := by decide +kernel
theorem d_S_stalledNumber_45 : decode b_S_stalledNumber 45 = .ok (.ireturn, 1) := by decide +kernel
theorem d_S_stalledNumber_46 : decode b_S_stalledNumber 46 = .ok (.iinc 3 1, 3) := by decide +kernel
theorem d_S_stalledNumber_49 : decode b_S_stalledNumber 49 = .ok (.goto (-39), 3) := by decide +kernel
theorem d_S_stalledNumber_52 : decode b_S_stalledNumber 52 = .ok (.iconst 0, 1) := by decide +kernel
theorem d_S_stalledNumber_53 : decode b_S_stalledNumber 53 = .ok (.ireturn, 1) := by decide +kernel
theorem d_S_count_0 : decode b_S_count 0 = .ok (.iload_n 1, 1) := by decide +kernel
theorem d_S_count_1 : decode b_S_count 1 = .ok (.tableswitch 72 0 5 #[39, 44, 49, 57, 62, 67], 39) := by decide +kernel
theorem d_S_count_40 : decode b_S_count 40 = .ok (.aload_n 0, 1) := by decide +kernel
theorem d_S_count_41 : decode b_S_count 41 = .ok (.getfield 49, 3) := by decide +kernel
theorem d_S_count_44 : decode b_S_count 44 = .ok (.ireturn, 1) := by decide +kernel
theorem d_S_count_45 : decode b_S_count 45 = .ok (.aload_n 0, 1) := by decide +kernel
theorem d_S_count_46 : decode b_S_count 46 = .ok (.getfield 52, 3) := by decide +kernel
theorem d_S_count_49 : decode b_S_count 49 = .ok (.ireturn, 1) := by decide +kernel
theorem d_S_count_50 : decode b_S_count 50 = .ok (.aload_n 0, 1) := by decide +kernel
theorem d_S_count_51 : decode b_S_count 51 = .ok (.getfield 28, 3) := by decide +kernel
theorem d_S_count_54 : decode b_S_count 54 = .ok (.invokevirtual 104, 3) := by decide +kernel
theorem d_S_count_57 : decode b_S_count 57 = .ok (.ireturn, 1) := by decide +kernel
theorem d_S_count_58 : decode b_S_count 58 = .ok (.aload_n 0, 1) := by decide +kernel
theorem d_S_count_59 : decode b_S_count 59 = .ok (.getfield 39, 3) := by decide +kernel
theorem d_S_count_62 : decode b_S_count 62 = .ok (.ireturn, 1) := by decide +kernel
theorem d_S_count_63 : decode b_S_count 63 = .ok (.aload_n 0, 1) := by decide +kernel
theorem d_S_count_64 : decode b_S_count 64 = .ok (.getfield 46, 3) := by decide +kernel
theorem d_S_count_67 : decode b_S_count 67 = .ok (.ireturn, 1) := by decide +kernel
theorem d_S_count_68 : decode b_S_count 68 = .ok (.aload_n 0, 1) := by decide +kernel
theorem d_S_count_69 : decode b_S_count 69 = .ok (.invokevirtual 223, 3) := by decide +kernel
theorem d_S_count_72 : decode b_S_count 72 = .ok (.ireturn, 1) := by decide +kernel
theorem d_S_count_73 : decode b_S_count 73 = .ok (.iconst (-1), 1) := by decide +kernel
theorem d_S_count_74 : decode b_S_count 74 = .ok (.ireturn, 1) := by decide +kernel
theorem d_L_cell_0 : decode b_L_cell 0 = .ok (.iload_n 1, 1) := by decide +kernel
theorem d_L_cell_1 : decode b_L_cell 1 = .ok (.aload_n 0, 1) := by decide +kernel
theorem d_L_cell_2 : decode b_L_cell 2 = .ok (.arraylength, 1) := by decide +kernel
theorem d_L_cell_3 : decode b_L_cell 3 = .ok (.if_icmp .ge 9, 3) := by decide +kernel
theorem d_L_cell_6 : decode b_L_cell 6 = .ok (.aload_n 0, 1) := by decide +kernel
theorem d_L_cell_7 : decode b_L_cell 7 = .ok (.iload_n 1, 1) := by decide +kernel
theorem d_L_cell_8 : decode b_L_cell 8 = .ok (.iaload, 1) := by decide +kernel
theorem d_L_cell_9 : decode b_L_cell 9 = .ok (.goto 4, 3) := by decide +kernel
theorem d_L_cell_12 : decode b_L_cell 12 = .ok (.iconst 0, 1) := by decide +kernel
theorem d_L_cell_13 : decode b_L_cell 13 = .ok (.ireturn, 1) := by decide +kernel
theorem d_M_init_0 : decode b_M_init 0 = .ok (.aload_n 0, 1) := by decide +kernel
theorem d_M_init_1 : decode b_M_init 1 = .ok (.invokespecial 1, 3) := by decide +kernel
theorem d_M_init_4 : decode b_M_init 4 = .ok (.aload_n 0, 1) := by decide +kernel
theorem d_M_init_5 : decode b_M_init 5 = .ok (.bipush 40, 2) := by decide +kernel
theorem d_M_init_7 : decode b_M_init 7 = .ok (.newarray .boolean, 2) := by decide +kernel
theorem d_M_init_9 : decode b_M_init 9 = .ok (.putfield 7, 3) := by decide +kernel
theorem d_M_init_12 : decode b_M_init 12 = .ok (.aload_n 0, 1) := by decide +kernel
theorem d_M_init_13 : decode b_M_init 13 = .ok (.bipush 40, 2) := by decide +kernel
theorem d_M_init_15 : decode b_M_init 15 = .ok (.newarray .int, 2) := by decide +kernel
theorem d_M_init_17 : decode b_M_init 17 = .ok (.putfield 13, 3) := by decide +kernel
theorem d_M_init_20 : decode b_M_init 20 = .ok (.aload_n 0, 1) := by decide +kernel
theorem d_M_init_21 : decode b_M_init 21 = .ok (.bipush 40, 2) := by decide +kernel
theorem d_M_init_23 : decode b_M_init 23 = .ok (.newarray .boolean, 2) := by decide +kernel
theorem d_M_init_25 : decode b_M_init 25 = .ok (.putfield 17, 3) := by decide +kernel
theorem d_M_init_28 : decode b_M_init 28 = .ok (.aload_n 0, 1) := by decide +kernel
theorem d_M_init_29 : decode b_M_init 29 = .ok (.bipush 40, 2) := by decide +kernel
theorem d_M_init_31 : decode b_M_init 31 = .ok (.newarray .int, 2) := by decide +kernel
theorem d_M_init_33 : decode b_M_init 33 = .ok (.putfield 20, 3) := by decide +kernel
theorem d_M_init_36 : decode b_M_init 36 = .ok (.aload_n 0, 1) := by decide +kernel
theorem d_M_init_37 : decode b_M_init 37 = .ok (.bipush 40, 2) := by decide +kernel
theorem d_M_init_39 : decode b_M_init 39 = .ok (.newarray .boolean, 2) := by decide +kernel
theorem d_M_init_41 : decode b_M_init 41 = .ok (.putfield 23, 3) := by decide +kernel
theorem d_M_init_44 : decode b_M_init 44 = .ok (.aload_n 0, 1) := by decide +kernel
theorem d_M_init_45 : decode b_M_init 45 = .ok (.bipush 40, 2) := by decide +kernel
theorem d_M_init_47 : decode b_M_init 47 = .ok (.newarray .int, 2) := by decide +kernel
theorem d_M_init_49 : decode b_M_init 49 = .ok (.putfield 26, 3) := by decide +kernel
theorem d_M_init_52 : decode b_M_init 52 = .ok (.aload_n 0, 1) := by decide +kernel
theorem d_M_init_53 : decode b_M_init 53 = .ok (.bipush 6, 2) := by decide +kernel
theorem d_M_init_55 : decode b_M_init 55 = .ok (.newarray .boolean, 2) := by decide +kernel
theorem d_M_init_57 : decode b_M_init 57 = .ok (.putfield 29, 3) := by decide +kernel
theorem d_M_init_60 : decode b_M_init 60 = .ok (.aload_n 0, 1) := by decide +kernel
theorem d_M_init_61 : decode b_M_init 61 = .ok (.bipush 7, 2) := by decide +kernel
theorem d_M_init_63 : decode b_M_init 63 = .ok (.newarray .boolean, 2) := by decide +kernel
theorem d_M_init_65 : decode b_M_init 65 = .ok (.putfield 32, 3) := by decide +kernel
theorem d_M_init_68 : decode b_M_init 68 = .ok (.aload_n 0, 1) := by decide +kernel
theorem d_M_init_69 : decode b_M_init 69 = .ok (.bipush 7, 2) := by decide +kernel
theorem d_M_init_71 : decode b_M_init 71 = .ok (.newarray .int, 2) := by decide +kernel
theorem d_M_init_73 : decode b_M_init 73 = .ok (.putfield 35, 3) := by decide +kernel
theorem d_M_init_76 : decode b_M_init 76 = .ok (.aload_n 0, 1) := by decide +kernel
theorem d_M_init_77 : decode b_M_init 77 = .ok (.bipush 56, 2) := by decide +kernel
theorem d_M_init_79 : decode b_M_init 79 = .ok (.newarray .int, 2) := by decide +kernel
theorem d_M_init_81 : decode b_M_init 81 = .ok (.putfield 38, 3) := by decide +kernel
theorem d_M_init_84 : decode b_M_init 84 = .ok (.aload_n 0, 1) := by decide +kernel
theorem d_M_init_85 : decode b_M_init 85 = .ok (.bipush 56, 2) := by decide +kernel
theorem d_M_init_87 : decode b_M_init 87 = .ok (.newarray .int, 2) := by decide +kernel
theorem d_M_init_89 : decode b_M_init 89 = .ok (.putfield 41, 3) := by decide +kernel
theorem d_M_init_92 : decode b_M_init 92 = .ok (.aload_n 0, 1) := by decide +kernel
theorem d_M_init_93 : decode b_M_init 93 = .ok (.bipush 56, 2) := by decide +kernel
theorem d_M_init_95 : decode b_M_init 95 = .ok (.newarray .int, 2) := by decide +kernel
theorem d_M_init_97 : decode b_M_init 97 = .ok (.putfield 44, 3) := by decide +kernel
theorem d_M_init_100 : decode b_M_init 100 = .ok (.aload_n 0, 1) := by decide +kernel
theorem d_M_init_101 : decode b_M_init 101 = .ok (.bipush 56, 2) := by decide +kernel
theorem d_M_init_103 : decode b_M_init 103 = .ok (.newarray .int, 2) := by decide +kernel
theorem d_M_init_105 : decode b_M_init 105 = .ok (.putfield 47, 3) := by decide +kernel
theorem d_M_init_108 : decode b_M_init 108 = .ok (.aload_n 0, 1) := by decide +kernel
theorem d_M_init_109 : decode b_M_init 109 = .ok (.iconst (-1), 1) := by decide +kernel
theorem d_M_init_110 : decode b_M_init 110 = .ok (.putfield 50, 3) := by decide +kernel
theorem d_M_init_113 : decode b_M_init 113 = .ok (.aload_n 0, 1) := by decide +kernel
theorem d_M_init_114 : decode b_M_init 114 = .ok (.sipush 514, 3) := by decide +kernel
theorem d_M_init_117 : decode b_M_init 117 = .ok (.newarray .int, 2) := by decide +kernel
theorem d_M_init_119 : decode b_M_init 119 = .ok (.putfield 54, 3) := by decide +kernel
theorem d_M_init_122 : decode b_M_init 122 = .ok (.aload_n 0, 1) := by decide +kernel
theorem d_M_init_123 : decode b_M_init 123 = .ok (.sipush 1542, 3) := by decide +kernel
theorem d_M_init_126 : decode b_M_init 126 = .ok (.newarray .int, 2) := by decide +kernel
theorem d_M_init_128 : decode b_M_init 128 = .ok (.putfield 57, 3) := by decide +kernel
theorem d_M_init_131 : decode b_M_init 131 = .ok (.aload_n 0, 1) := by decide +kernel
theorem d_M_init_132 : decode b_M_init 132 = .ok (.sipush 514, 3) := by decide +kernel
theorem d_M_init_135 : decode b_M_init 135 = .ok (.newarray .boolean, 2) := by decide +kernel
theorem d_M_init_137 : decode b_M_init 137 = .ok (.putfield 60, 3) := by decide +kernel
theorem d_M_init_140 : decode b_M_init 140 = .ok (.aload_n 0, 1) := by decide +kernel
theorem d_M_init_141 : decode b_M_init 141 = .ok (.sipush 514, 3) := by decide +kernel
theorem d_M_init_144 : decode b_M_init 144 = .ok (.newarray .int, 2) := by decide +kernel
theorem d_M_init_146 : decode b_M_init 146 = .ok (.putfield 63, 3) := by decide +kernel
theorem d_M_init_149 : decode b_M_init 149 = .ok (.aload_n 0, 1) := by decide +kernel
theorem d_M_init_150 : decode b_M_init 150 = .ok (.sipush 514, 3) := by decide +kernel
theorem d_M_init_153 : decode b_M_init 153 = .ok (.newarray .int, 2) := by decide +kernel
theorem d_M_init_155 : decode b_M_init 155 = .ok (.putfield 66, 3) := by decide +kernel
theorem d_M_init_158 : decode b_M_init 158 = .ok (.aload_n 0, 1) := by decide +kernel
theorem d_M_init_159 : decode b_M_init 159 = .ok (.sipush 514, 3) := by decide +kernel
theorem d_M_init_162 : decode b_M_init 162 = .ok (.newarray .int, 2) := by decide +kernel
theorem d_M_init_164 : decode b_M_init 164 = .ok (.putfield 69, 3) := by decide +kernel
theorem d_M_init_167 : decode b_M_init 167 = .ok (.aload_n 0, 1) := by decide +kernel
theorem d_M_init_168 : decode b_M_init 168 = .ok (.sipush 2056, 3) := by decide +kernel
theorem d_M_init_171 : decode b_M_init 171 = .ok (.newarray .int, 2) := by decide +kernel
theorem d_M_init_173 : decode b_M_init 173 = .ok (.putfield 72, 3) := by decide +kernel
theorem d_M_init_176 : decode b_M_init 176 = .ok (.aload_n 0, 1) := by decide +kernel
theorem d_M_init_177 : decode b_M_init 177 = .ok (.iconst 4, 1) := by decide +kernel
theorem d_M_init_178 : decode b_M_init 178 = .ok (.newarray .int, 2) := by decide +kernel
theorem d_M_init_180 : decode b_M_init 180 = .ok (.putfield 75, 3) := by decide +kernel
theorem d_M_init_183 : decode b_M_init 183 = .ok (.aload_n 0, 1) := by decide +kernel
theorem d_M_init_184 : decode b_M_init 184 = .ok (.iconst 4, 1) := by decide +kernel
theorem d_M_init_185 : decode b_M_init 185 = .ok (.newarray .int, 2) := by decide +kernel
theorem d_M_init_187 : decode b_M_init 187 = .ok (.putfield 78, 3) := by decide +kernel
theorem d_M_init_190 : decode b_M_init 190 = .ok (.aload_n 0, 1) := by decide +kernel
theorem d_M_init_191 : decode b_M_init 191 = .ok (.iconst 4, 1) := by decide +kernel
theorem d_M_init_192 : decode b_M_init 192 = .ok (.newarray .int, 2) := by decide +kernel
theorem d_M_init_194 : decode b_M_init 194 = .ok (.putfield 81, 3) := by decide +kernel
theorem d_M_init_197 : decode b_M_init 197 = .ok (.aload_n 0, 1) := by decide +kernel
theorem d_M_init_198 : decode b_M_init 198 = .ok (.iconst 4, 1) := by decide +kernel
theorem d_M_init_199 : decode b_M_init 199 = .ok (.newarray .int, 2) := by decide +kernel
theorem d_M_init_201 : decode b_M_init 201 = .ok (.putfield 84, 3) := by decide +kernel
theorem d_M_init_204 : decode b_M_init 204 = .ok (.aload_n 0, 1) := by decide +kernel
theorem d_M_init_205 : decode b_M_init 205 = .ok (.bipush 16, 2) := by decide +kernel
theorem d_M_init_207 : decode b_M_init 207 = .ok (.newarray .int, 2) := by decide +kernel
theorem d_M_init_209 : decode b_M_init 209 = .ok (.putfield 87, 3) := by decide +kernel
theorem d_M_init_212 : decode b_M_init 212 = .ok (.aload_n 0, 1) := by decide +kernel
theorem d_M_init_213 : decode b_M_init 213 = .ok (.iconst 4, 1) := by decide +kernel
theorem d_M_init_214 : decode b_M_init 214 = .ok (.newarray .int, 2) := by decide +kernel
theorem d_M_init_216 : decode b_M_init 216 = .ok (.putfield 90, 3) := by decide +kernel
theorem d_M_init_219 : decode b_M_init 219 = .ok (.aload_n 0, 1) := by decide +kernel
theorem d_M_init_220 : decode b_M_init 220 = .ok (.bipush 6, 2) := by decide +kernel
theorem d_M_init_222 : decode b_M_init 222 = .ok (.newarray .int, 2) := by decide +kernel
theorem d_M_init_224 : decode b_M_init 224 = .ok (.putfield 93, 3) := by decide +kernel
theorem d_M_init_227 : decode b_M_init 227 = .ok (.aload_n 0, 1) := by decide +kernel
theorem d_M_init_228 : decode b_M_init 228 = .ok (.iload_n 1, 1) := by decide +kernel
theorem d_M_init_229 : decode b_M_init 229 = .ok (.iconst 1, 1) := by decide +kernel
theorem d_M_init_230 : decode b_M_init 230 = .ok (.if_icmp .ge 7, 3) := by decide +kernel
theorem d_M_init_233 : decode b_M_init 233 = .ok (.iconst 1, 1) := by decide +kernel
theorem d_M_init_234 : decode b_M_init 234 = .ok (.goto 13, 3) := by decide +kernel
theorem d_M_init_237 : decode b_M_init 237 = .ok (.iload_n 1, 1) := by decide +kernel
theorem d_M_init_238 : decode b_M_init 238 = .ok (.iconst 4, 1) := by decide +kernel
theorem d_M_init_239 : decode b_M_init 239 = .ok (.if_icmp .le 7, 3) := by decide +kernel
theorem d_M_init_242 : decode b_M_init 242 = .ok (.iconst 4, 1) := by decide +kernel
theorem d_M_init_243 : decode b_M_init 243 = .ok (.goto 4, 3) := by decide +kernel
theorem d_M_init_246 : decode b_M_init 246 = .ok (.iload_n 1, 1) := by decide +kernel
theorem d_M_init_247 : decode b_M_init 247 = .ok (.putfield 96, 3) := by decide +kernel
theorem d_M_init_250 : decode b_M_init 250 = .ok (.return_, 1) := by decide +kernel
theorem d_M_outside_0 : decode b_M_outside 0 = .ok (.iload_n 0, 1) := by decide +kernel
theorem d_M_outside_1 : decode b_M_outside 1 = .ok (.ifCond .lt 8, 3) := by decide +kernel
theorem d_M_outside_4 : decode b_M_outside 4 = .ok (.iload_n 0, 1) := by decide +kernel
theorem d_M_outside_5 : decode b_M_outside 5 = .ok (.iload_n 1, 1) := by decide +kernel
theorem d_M_outside_6 : decode b_M_outside 6 = .ok (.if_icmp .lt 7, 3) := by decide +kernel
theorem d_M_outside_9 : decode b_M_outside 9 = .ok (.iconst 1, 1) := by decide +kernel
theorem d_M_outside_10 : decode b_M_outside 10 = .ok (.goto 4, 3) := by decide +kernel
theorem d_M_outside_13 : decode b_M_outside 13 = .ok (.iconst 0, 1) := by decide +kernel
theorem d_M_outside_14 : decode b_M_outside 14 = .ok (.ireturn, 1) := by decide +kernel
theorem d_M_open_0 : decode b_M_open 0 = .ok (.iload_n 1, 1) := by decide +kernel
theorem d_M_open_1 : decode b_M_open 1 = .ok (.bipush 6, 2) := by decide +kernel
theorem d_M_open_3 : decode b_M_open 3 = .ok (.invokestatic 99, 3) := by decide +kernel
theorem d_M_open_6 : decode b_M_open 6 = .ok (.ifCond .ne 12, 3) := by decide +kernel
theorem d_M_open_9 : decode b_M_open 9 = .ok (.aload_n 0, 1) := by decide +kernel
theorem d_M_open_10 : decode b_M_open 10 = .ok (.getfield 29, 3) := by decide +kernel
theorem d_M_open_13 : decode b_M_open 13 = .ok (.iload_n 1, 1) := by decide +kernel
theorem d_M_open_14 : decode b_M_open 14 = .ok (.baload, 1) := by decide +kernel
theorem d_M_open_15 : decode b_M_open 15 = .ok (.ifCond .eq 5, 3) := by decide +kernel
theorem d_M_open_18 : decode b_M_open 18 = .ok (.iconst (-1), 1) := by decide +kernel
theorem d_M_open_19 : decode b_M_open 19 = .ok (.ireturn, 1) := by decide +kernel
theorem d_M_open_20 : decode b_M_open 20 = .ok (.aload_n 0, 1) := by decide +kernel
theorem d_M_open_21 : decode b_M_open 21 = .ok (.iload_n 1, 1) := by decide +kernel
theorem d_M_open_22 : decode b_M_open 22 = .ok (.putfield 50, 3) := by decide +kernel
theorem d_M_open_25 : decode b_M_open 25 = .ok (.aload_n 0, 1) := by decide +kernel
theorem d_M_open_26 : decode b_M_open 26 = .ok (.getfield 32, 3) := by decide +kernel
theorem d_M_open_29 : decode b_M_open 29 = .ok (.bipush 6, 2) := by decide +kernel
theorem d_M_open_31 : decode b_M_open 31 = .ok (.iload_n 2, 1) := by decide +kernel
theorem d_M_open_32 : decode b_M_open 32 = .ok (.bastore, 1) := by decide +kernel
theorem d_M_open_33 : decode b_M_open 33 = .ok (.aload_n 0, 1) := by decide +kernel
theorem d_M_open_34 : decode b_M_open 34 = .ok (.getfield 35, 3) := by decide +kernel
theorem d_M_open_37 : decode b_M_open 37 = .ok (.bipush 6, 2) := by decide +kernel
theorem d_M_open_39 : decode b_M_open 39 = .ok (.iconst 0, 1) := by decide +kernel
theorem d_M_open_40 : decode b_M_open 40 = .ok (.iastore, 1) := by decide +kernel
theorem d_M_open_41 : decode b_M_open 41 = .ok (.iconst 0, 1) := by decide +kernel
theorem d_M_open_42 : decode b_M_open 42 = .ok (.ireturn, 1) := by decide +kernel
