theorem dX0_init_0 : decode cX0_init 0 = .ok (.aload_n 0, 1) := by decide +kernel
theorem dX0_init_1 : decode cX0_init 1 = .ok (.invokespecial 3, 3) := by decide +kernel
theorem dX0_init_4 : decode cX0_init 4 = .ok (.aload_n 0, 1) := by decide +kernel
theorem dX0_init_5 : decode cX0_init 5 = .ok (.aload_n 1, 1) := by decide +kernel
theorem dX0_init_6 : decode cX0_init 6 = .ok (.putfield 9, 3) := by decide +kernel
theorem dX0_init_9 : decode cX0_init 9 = .ok (.return_, 1) := by decide +kernel
theorem dX0_stampSets_0 : decode cX0_stampSets 0 = .ok (.iconst 1, 1) := by decide +kernel
theorem dX0_stampSets_1 : decode cX0_stampSets 1 = .ok (.aload_n 0, 1) := by decide +kernel
theorem dX0_stampSets_2 : decode cX0_stampSets 2 = .ok (.getfield 9, 3) := by decide +kernel
theorem dX0_stampSets_5 : decode cX0_stampSets 5 = .ok (.getfield 15, 3) := by decide +kernel
theorem dX0_stampSets_8 : decode cX0_stampSets 8 = .ok (.getfield 21, 3) := by decide +kernel
theorem dX0_stampSets_11 : decode cX0_stampSets 11 = .ok (.ishl, 1) := by decide +kernel
theorem dX0_stampSets_12 : decode cX0_stampSets 12 = .ok (.ireturn, 1) := by decide +kernel
theorem dX0_behindMonth_0 : decode cX0_behindMonth 0 = .ok (.iconst 0, 1) := by decide +kernel
theorem dX0_behindMonth_1 : decode cX0_behindMonth 1 = .ok (.istore_n 2, 1) := by decide +kernel
theorem dX0_behindMonth_2 : decode cX0_behindMonth 2 = .ok (.iconst 0, 1) := by decide +kernel
theorem dX0_behindMonth_3 : decode cX0_behindMonth 3 = .ok (.istore_n 3, 1) := by decide +kernel
theorem dX0_behindMonth_4 : decode cX0_behindMonth 4 = .ok (.iload_n 3, 1) := by decide +kernel
theorem dX0_behindMonth_5 : decode cX0_behindMonth 5 = .ok (.aload_n 0, 1) := by decide +kernel
theorem dX0_behindMonth_6 : decode cX0_behindMonth 6 = .ok (.getfield 9, 3) := by decide +kernel
theorem dX0_behindMonth_9 : decode cX0_behindMonth 9 = .ok (.getfield 15, 3) := by decide +kernel
theorem dX0_behindMonth_12 : decode cX0_behindMonth 12 = .ok (.getfield 21, 3) := by decide +kernel
theorem dX0_behindMonth_15 : decode cX0_behindMonth 15 = .ok (.if_icmp .ge 41, 3) := by decide +kernel
theorem dX0_behindMonth_18 : decode cX0_behindMonth 18 = .ok (.aload_n 0, 1) := by decide +kernel
theorem dX0_behindMonth_19 : decode cX0_behindMonth 19 = .ok (.iload_n 1, 1) := by decide +kernel
theorem dX0_behindMonth_20 : decode cX0_behindMonth 20 = .ok (.iload_n 3, 1) := by decide +kernel
theorem dX0_behindMonth_21 : decode cX0_behindMonth 21 = .ok (.invokevirtual 27, 3) := by decide +kernel
theorem dX0_behindMonth_24 : decode cX0_behindMonth 24 = .ok (.istore 4, 2) := by decide +kernel
theorem dX0_behindMonth_26 : decode cX0_behindMonth 26 = .ok (.iload 4, 2) := by decide +kernel
theorem dX0_behindMonth_28 : decode cX0_behindMonth 28 = .ok (.ifCond .gt 16, 3) := by decide +kernel
theorem dX0_behindMonth_31 : decode cX0_behindMonth 31 = .ok (.iload 4, 2) := by decide +kernel
theorem dX0_behindMonth_33 : decode cX0_behindMonth 33 = .ok (.ifCond .ne 17, 3) := by decide +kernel
theorem dX0_behindMonth_36 : decode cX0_behindMonth 36 = .ok (.iload_n 1, 1) := by decide +kernel
theorem dX0_behindMonth_37 : decode cX0_behindMonth 37 = .ok (.iload_n 3, 1) := by decide +kernel
theorem dX0_behindMonth_38 : decode cX0_behindMonth 38 = .ok (.invokestatic 31, 3) := by decide +kernel
theorem dX0_behindMonth_41 : decode cX0_behindMonth 41 = .ok (.ifCond .eq 9, 3) := by decide +kernel
theorem dX0_behindMonth_44 : decode cX0_behindMonth 44 = .ok (.iload_n 2, 1) := by decide +kernel
theorem dX0_behindMonth_45 : decode cX0_behindMonth 45 = .ok (.iconst 1, 1) := by decide +kernel
theorem dX0_behindMonth_46 : decode cX0_behindMonth 46 = .ok (.iload_n 3, 1) := by decide +kernel
theorem dX0_behindMonth_47 : decode cX0_behindMonth 47 = .ok (.ishl, 1) := by decide +kernel
theorem dX0_behindMonth_48 : decode cX0_behindMonth 48 = .ok (.ior, 1) := by decide +kernel
theorem dX0_behindMonth_49 : decode cX0_behindMonth 49 = .ok (.istore_n 2, 1) := by decide +kernel
theorem dX0_behindMonth_50 : decode cX0_behindMonth 50 = .ok (.iinc 3 1, 3) := by decide +kernel
theorem dX0_behindMonth_53 : decode cX0_behindMonth 53 = .ok (.goto (-49), 3) := by decide +kernel
theorem dX0_behindMonth_56 : decode cX0_behindMonth 56 = .ok (.iload_n 2, 1) := by decide +kernel
theorem dX0_behindMonth_57 : decode cX0_behindMonth 57 = .ok (.ireturn, 1) := by decide +kernel
theorem dX0_yesOverNo_0 : decode cX0_yesOverNo 0 = .ok (.iconst 0, 1) := by decide +kernel
theorem dX0_yesOverNo_1 : decode cX0_yesOverNo 1 = .ok (.istore_n 3, 1) := by decide +kernel
theorem dX0_yesOverNo_2 : decode cX0_yesOverNo 2 = .ok (.iconst 0, 1) := by decide +kernel
theorem dX0_yesOverNo_3 : decode cX0_yesOverNo 3 = .ok (.istore 4, 2) := by decide +kernel
theorem dX0_yesOverNo_5 : decode cX0_yesOverNo 5 = .ok (.iload 4, 2) := by decide +kernel
theorem dX0_yesOverNo_7 : decode cX0_yesOverNo 7 = .ok (.aload_n 0, 1) := by decide +kernel
theorem dX0_yesOverNo_8 : decode cX0_yesOverNo 8 = .ok (.getfield 9, 3) := by decide +kernel
theorem dX0_yesOverNo_11 : decode cX0_yesOverNo 11 = .ok (.getfield 15, 3) := by decide +kernel
theorem dX0_yesOverNo_14 : decode cX0_yesOverNo 14 = .ok (.getfield 21, 3) := by decide +kernel
theorem dX0_yesOverNo_17 : decode cX0_yesOverNo 17 = .ok (.if_icmp .ge 70, 3) := by decide +kernel
theorem dX0_yesOverNo_20 : decode cX0_yesOverNo 20 = .ok (.iload 4, 2) := by decide +kernel
theorem dX0_yesOverNo_22 : decode cX0_yesOverNo 22 = .ok (.iload_n 2, 1) := by decide +kernel
theorem dX0_yesOverNo_23 : decode cX0_yesOverNo 23 = .ok (.if_icmp .eq 58, 3) := by decide +kernel
theorem dX0_yesOverNo_26 : decode cX0_yesOverNo 26 = .ok (.iload_n 1, 1) := by decide +kernel
theorem dX0_yesOverNo_27 : decode cX0_yesOverNo 27 = .ok (.iload 4, 2) := by decide +kernel
theorem dX0_yesOverNo_29 : decode cX0_yesOverNo 29 = .ok (.invokestatic 31, 3) := by decide +kernel
theorem dX0_yesOverNo_32 : decode cX0_yesOverNo 32 = .ok (.ifCond .eq 49, 3) := by decide +kernel
theorem dX0_yesOverNo_35 : decode cX0_yesOverNo 35 = .ok (.aload_n 0, 1) := by decide +kernel
theorem dX0_yesOverNo_36 : decode cX0_yesOverNo 36 = .ok (.getfield 9, 3) := by decide +kernel
theorem dX0_yesOverNo_39 : decode cX0_yesOverNo 39 = .ok (.iload 4, 2) := by decide +kernel
theorem dX0_yesOverNo_41 : decode cX0_yesOverNo 41 = .ok (.aload_n 0, 1) := by decide +kernel
theorem dX0_yesOverNo_42 : decode cX0_yesOverNo 42 = .ok (.getfield 9, 3) := by decide +kernel
theorem dX0_yesOverNo_45 : decode cX0_yesOverNo 45 = .ok (.getfield 15, 3) := by decide +kernel
theorem dX0_yesOverNo_48 : decode cX0_yesOverNo 48 = .ok (.getfield 35, 3) := by decide +kernel
theorem dX0_yesOverNo_51 : decode cX0_yesOverNo 51 = .ok (.iload_n 2, 1) := by decide +kernel
theorem dX0_yesOverNo_52 : decode cX0_yesOverNo 52 = .ok (.iaload, 1) := by decide +kernel
theorem dX0_yesOverNo_53 : decode cX0_yesOverNo 53 = .ok (.invokevirtual 39, 3) := by decide +kernel
theorem dX0_yesOverNo_56 : decode cX0_yesOverNo 56 = .ok (.istore 5, 2) := by decide +kernel
theorem dX0_yesOverNo_58 : decode cX0_yesOverNo 58 = .ok (.iload_n 3, 1) := by decide +kernel
theorem dX0_yesOverNo_59 : decode cX0_yesOverNo 59 = .ok (.iload 5, 2) := by decide +kernel
theorem dX0_yesOverNo_61 : decode cX0_yesOverNo 61 = .ok (.iconst 1, 1) := by decide +kernel
theorem dX0_yesOverNo_62 : decode cX0_yesOverNo 62 = .ok (.if_icmp .ne 7, 3) := by decide +kernel
theorem dX0_yesOverNo_65 : decode cX0_yesOverNo 65 = .ok (.iconst 1, 1) := by decide +kernel
theorem dX0_yesOverNo_66 : decode cX0_yesOverNo 66 = .ok (.goto 13, 3) := by decide +kernel
theorem dX0_yesOverNo_69 : decode cX0_yesOverNo 69 = .ok (.iload 5, 2) := by decide +kernel
theorem dX0_yesOverNo_71 : decode cX0_yesOverNo 71 = .ok (.ifCond .ne 7, 3) := by decide +kernel
theorem dX0_yesOverNo_74 : decode cX0_yesOverNo 74 = .ok (.iconst (-1), 1) := by decide +kernel
theorem dX0_yesOverNo_75 : decode cX0_yesOverNo 75 = .ok (.goto 4, 3) := by decide +kernel
theorem dX0_yesOverNo_78 : decode cX0_yesOverNo 78 = .ok (.iconst 0, 1) := by decide +kernel
theorem dX0_yesOverNo_79 : decode cX0_yesOverNo 79 = .ok (.iadd, 1) := by decide +kernel
theorem dX0_yesOverNo_80 : decode cX0_yesOverNo 80 = .ok (.istore_n 3, 1) := by decide +kernel
theorem dX0_yesOverNo_81 : decode cX0_yesOverNo 81 = .ok (.iinc 4 1, 3) := by decide +kernel
theorem dX0_yesOverNo_84 : decode cX0_yesOverNo 84 = .ok (.goto (-79), 3) := by decide +kernel
theorem dX0_yesOverNo_87 : decode cX0_yesOverNo 87 = .ok (.iload_n 3, 1) := by decide +kernel
theorem dX0_yesOverNo_88 : decode cX0_yesOverNo 88 = .ok (.ireturn, 1) := by decide +kernel
theorem dX0_goodBehind_0 : decode cX0_goodBehind 0 = .ok (.aload_n 0, 1) := by decide +kernel
theorem dX0_goodBehind_1 : decode cX0_goodBehind 1 = .ok (.invokevirtual 42, 3) := by decide +kernel
theorem dX0_goodBehind_4 : decode cX0_goodBehind 4 = .ok (.iconst 1, 1) := by decide +kernel
theorem dX0_goodBehind_5 : decode cX0_goodBehind 5 = .ok (.isub, 1) := by decide +kernel
theorem dX0_goodBehind_6 : decode cX0_goodBehind 6 = .ok (.istore_n 2, 1) := by decide +kernel
theorem dX0_goodBehind_7 : decode cX0_goodBehind 7 = .ok (.iconst 0, 1) := by decide +kernel
theorem dX0_goodBehind_8 : decode cX0_goodBehind 8 = .ok (.istore_n 3, 1) := by decide +kernel
theorem dX0_goodBehind_9 : decode cX0_goodBehind 9 = .ok (.iload_n 3, 1) := by decide +kernel
theorem dX0_goodBehind_10 : decode cX0_goodBehind 10 = .ok (.iload_n 1, 1) := by decide +kernel
theorem dX0_goodBehind_11 : decode cX0_goodBehind 11 = .ok (.if_icmp .ge 15, 3) := by decide +kernel
theorem dX0_goodBehind_14 : decode cX0_goodBehind 14 = .ok (.aload_n 0, 1) := by decide +kernel
theorem dX0_goodBehind_15 : decode cX0_goodBehind 15 = .ok (.iload_n 2, 1) := by decide +kernel
theorem dX0_goodBehind_16 : decode cX0_goodBehind 16 = .ok (.invokevirtual 46, 3) := by decide +kernel
theorem dX0_goodBehind_19 : decode cX0_goodBehind 19 = .ok (.istore_n 2, 1) := by decide +kernel
theorem dX0_goodBehind_20 : decode cX0_goodBehind 20 = .ok (.iinc 3 1, 3) := by decide +kernel
theorem dX0_goodBehind_23 : decode cX0_goodBehind 23 = .ok (.goto (-14), 3) := by decide +kernel
theorem dX0_goodBehind_26 : decode cX0_goodBehind 26 = .ok (.iload_n 2, 1) := by decide +kernel
theorem dX0_goodBehind_27 : decode cX0_goodBehind 27 = .ok (.ireturn, 1) := by decide +kernel
theorem dX0_monthsToSettle_0 : decode cX0_monthsToSettle 0 = .ok (.aload_n 0, 1) := by decide +kernel
theorem dX0_monthsToSettle_1 : decode cX0_monthsToSettle 1 = .ok (.invokevirtual 42, 3) := by decide +kernel
theorem dX0_monthsToSettle_4 : decode cX0_monthsToSettle 4 = .ok (.iconst 1, 1) := by decide +kernel
theorem dX0_monthsToSettle_5 : decode cX0_monthsToSettle 5 = .ok (.isub, 1) := by decide +kernel
theorem dX0_monthsToSettle_6 : decode cX0_monthsToSettle 6 = .ok (.istore_n 1, 1) := by decide +kernel
theorem dX0_monthsToSettle_7 : decode cX0_monthsToSettle 7 = .ok (.iconst 0, 1) := by decide +kernel
theorem dX0_monthsToSettle_8 : decode cX0_monthsToSettle 8 = .ok (.istore_n 2, 1) := by decide +kernel
theorem dX0_monthsToSettle_9 : decode cX0_monthsToSettle 9 = .ok (.iload_n 2, 1) := by decide +kernel
theorem dX0_monthsToSettle_10 : decode cX0_monthsToSettle 10 = .ok (.bipush 20, 2) := by decide +kernel
theorem dX0_monthsToSettle_12 : decode cX0_monthsToSettle 12 = .ok (.if_icmp .gt 24, 3) := by decide +kernel
theorem dX0_monthsToSettle_15 : decode cX0_monthsToSettle 15 = .ok (.aload_n 0, 1) := by decide +kernel
theorem dX0_monthsToSettle_16 : decode cX0_monthsToSettle 16 = .ok (.iload_n 1, 1) := by decide +kernel
theorem dX0_monthsToSettle_17 : decode cX0_monthsToSettle 17 = .ok (.invokevirtual 46, 3) := by decide +kernel
theorem dX0_monthsToSettle_20 : decode cX0_monthsToSettle 20 = .ok (.istore_n 3, 1) := by decide +kernel
theorem dX0_monthsToSettle_21 : decode cX0_monthsToSettle 21 = .ok (.iload_n 3, 1) := by decide +kernel
theorem dX0_monthsToSettle_22 : decode cX0_monthsToSettle 22 = .ok (.iload_n 1, 1) := by decide +kernel
theorem dX0_monthsToSettle_23 : decode cX0_monthsToSettle 23 = .ok (.if_icmp .ne 5, 3) := by decide +kernel
theorem dX0_monthsToSettle_26 : decode cX0_monthsToSettle 26 = .ok (.iload_n 2, 1) := by decide +kernel
theorem dX0_monthsToSettle_27 : decode cX0_monthsToSettle 27 = .ok (.ireturn, 1) := by decide +kernel
theorem dX0_monthsToSettle_28 : decode cX0_monthsToSettle 28 = .ok (.iload_n 3, 1) := by decide +kernel
theorem dX0_monthsToSettle_29 : decode cX0_monthsToSettle 29 = .ok (.istore_n 1, 1) := by decide +kernel
theorem dX0_monthsToSettle_30 : decode cX0_monthsToSettle 30 = .ok (.iinc 2 1, 3) := by decide +kernel
theorem dX0_monthsToSettle_33 : decode cX0_monthsToSettle 33 = .ok (.goto (-24), 3) := by decide +kernel
theorem dX0_monthsToSettle_36 : decode cX0_monthsToSettle 36 = .ok (.bipush (-2), 2) := by decide +kernel
theorem dX0_monthsToSettle_38 : decode cX0_monthsToSettle 38 = .ok (.ireturn, 1) := by decide +kernel
theorem dX0_unchangedSets_0 : decode cX0_unchangedSets 0 = .ok (.iconst 0, 1) := by decide +kernel
theorem dX0_unchangedSets_1 : decode cX0_unchangedSets 1 = .ok (.istore_n 1, 1) := by decide +kernel
theorem dX0_unchangedSets_2 : decode cX0_unchangedSets 2 = .ok (.iconst 0, 1) := by decide +kernel
theorem dX0_unchangedSets_3 : decode cX0_unchangedSets 3 = .ok (.istore_n 2, 1) := by decide +kernel
theorem dX0_unchangedSets_4 : decode cX0_unchangedSets 4 = .ok (.iload_n 2, 1) := by decide +kernel
theorem dX0_unchangedSets_5 : decode cX0_unchangedSets 5 = .ok (.aload_n 0, 1) := by decide +kernel
theorem dX0_unchangedSets_6 : decode cX0_unchangedSets 6 = .ok (.invokevirtual 42, 3) := by decide +kernel
theorem dX0_unchangedSets_9 : decode cX0_unchangedSets 9 = .ok (.if_icmp .ge 21, 3) := by decide +kernel
theorem dX0_unchangedSets_12 : decode cX0_unchangedSets 12 = .ok (.aload_n 0, 1) := by decide +kernel
theorem dX0_unchangedSets_13 : decode cX0_unchangedSets 13 = .ok (.iload_n 2, 1) := by decide +kernel
theorem dX0_unchangedSets_14 : decode cX0_unchangedSets 14 = .ok (.invokevirtual 46, 3) := by decide +kernel
theorem dX0_unchangedSets_17 : decode cX0_unchangedSets 17 = .ok (.iload_n 2, 1) := by decide +kernel
theorem dX0_unchangedSets_18 : decode cX0_unchangedSets 18 = .ok (.if_icmp .ne 6, 3) := by decide +kernel
theorem dX0_unchangedSets_21 : decode cX0_unchangedSets 21 = .ok (.iinc 1 1, 3) := by decide +kernel
theorem dX0_unchangedSets_24 : decode cX0_unchangedSets 24 = .ok (.iinc 2 1, 3) := by decide +kernel
theorem dX0_unchangedSets_27 : decode cX0_unchangedSets 27 = .ok (.goto (-23), 3) := by decide +kernel
theorem dX0_unchangedSets_30 : decode cX0_unchangedSets 30 = .ok (.iload_n 1, 1) := by decide +kernel
theorem dX0_unchangedSets_31 : decode cX0_unchangedSets 31 = .ok (.ireturn, 1) := by decide +kernel
theorem dX1_init_0 : decode cX1_init 0 = .ok (.aload_n 0, 1) := by decide +kernel
theorem dX1_init_1 : decode cX1_init 1 = .ok (.invokespecial 3, 3) := by decide +kernel
theorem dX1_init_4 : decode cX1_init 4 = .ok (.aload_n 0, 1) := by decide +kernel
theorem dX1_init_5 : decode cX1_init 5 = .ok (.iconst 3, 1) := by decide +kernel
theorem dX1_init_6 : decode cX1_init 6 = .ok (.newarray .int, 2) := by decide +kernel
theorem dX1_init_8 : decode cX1_init 8 = .ok (.putfield 9, 3) := by decide +kernel
theorem dX1_init_11 : decode cX1_init 11 = .ok (.aload_n 0, 1) := by decide +kernel
theorem dX1_init_12 : decode cX1_init 12 = .ok (.iconst 5, 1) := by decide +kernel
theorem dX1_init_13 : decode cX1_init 13 = .ok (.newarray .int, 2) := by decide +kernel
theorem dX1_init_15 : decode cX1_init 15 = .ok (.putfield 15, 3) := by decide +kernel
theorem dX1_init_18 : decode cX1_init 18 = .ok (.aload_n 0, 1) := by decide +kernel
theorem dX1_init_19 : decode cX1_init 19 = .ok (.aload_n 1, 1) := by decide +kernel
theorem dX1_init_20 : decode cX1_init 20 = .ok (.putfield 18, 3) := by decide +kernel
theorem dX1_init_23 : decode cX1_init 23 = .ok (.return_, 1) := by decide +kernel
theorem dX1_run_0 : decode cX1_run 0 = .ok (.aload_n 0, 1) := by decide +kernel
theorem dX1_run_1 : decode cX1_run 1 = .ok (.iload_n 1, 1) := by decide +kernel
theorem dX1_run_2 : decode cX1_run 2 = .ok (.putfield 22, 3) := by decide +kernel
theorem dX1_run_5 : decode cX1_run 5 = .ok (.aload_n 0, 1) := by decide +kernel
theorem dX1_run_6 : decode cX1_run 6 = .ok (.iconst 0, 1) := by decide +kernel
theorem dX1_run_7 : decode cX1_run 7 = .ok (.putfield 26, 3) := by decide +kernel
theorem dX1_run_10 : decode cX1_run 10 = .ok (.iconst 0, 1) := by decide +kernel
theorem dX1_run_11 : decode cX1_run 11 = .ok (.istore_n 3, 1) := by decide +kernel
theorem dX1_run_12 : decode cX1_run 12 = .ok (.iload_n 3, 1) := by decide +kernel
theorem dX1_run_13 : decode cX1_run 13 = .ok (.iconst 3, 1) := by decide +kernel
theorem dX1_run_14 : decode cX1_run 14 = .ok (.if_icmp .ge 16, 3) := by decide +kernel
theorem dX1_run_17 : decode cX1_run 17 = .ok (.aload_n 0, 1) := by decide +kernel
theorem dX1_run_18 : decode cX1_run 18 = .ok (.getfield 9, 3) := by decide +kernel
theorem dX1_run_21 : decode cX1_run 21 = .ok (.iload_n 3, 1) := by decide +kernel
theorem dX1_run_22 : decode cX1_run 22 = .ok (.iconst 0, 1) := by decide +kernel
theorem dX1_run_23 : decode cX1_run 23 = .ok (.iastore, 1) := by decide +kernel
theorem dX1_run_24 : decode cX1_run 24 = .ok (.iinc 3 1, 3) := by decide +kernel
theorem dX1_run_27 : decode cX1_run 27 = .ok (.goto (-15), 3) := by decide +kernel
theorem dX1_run_30 : decode cX1_run 30 = .ok (.iconst 0, 1) := by decide +kernel
theorem dX1_run_31 : decode cX1_run 31 = .ok (.istore_n 3, 1) := by decide +kernel
theorem dX1_run_32 : decode cX1_run 32 = .ok (.iload_n 3, 1) := by decide +kernel
theorem dX1_run_33 : decode cX1_run 33 = .ok (.iconst 5, 1) := by decide +kernel
theorem dX1_run_34 : decode cX1_run 34 = .ok (.if_icmp .ge 17, 3) := by decide +kernel
theorem dX1_run_37 : decode cX1_run 37 = .ok (.aload_n 0, 1) := by decide +kernel
theorem dX1_run_38 : decode cX1_run 38 = .ok (.getfield 15, 3) := by decide +kernel
theorem dX1_run_41 : decode cX1_run 41 = .ok (.iload_n 3, 1) := by decide +kernel
theorem dX1_run_42 : decode cX1_run 42 = .ok (.bipush (-2), 2) := by decide +kernel
theorem dX1_run_44 : decode cX1_run 44 = .ok (.iastore, 1) := by decide +kernel
theorem dX1_run_45 : decode cX1_run 45 = .ok (.iinc 3 1, 3) := by decide +kernel
theorem dX1_run_48 : decode cX1_run 48 = .ok (.goto (-16), 3) := by decide +kernel
theorem dX1_run_51 : decode cX1_run 51 = .ok (.iconst 0, 1) := by decide +kernel
theorem dX1_run_52 : decode cX1_run 52 = .ok (.istore_n 3, 1) := by decide +kernel
theorem dX1_run_53 : decode cX1_run 53 = .ok (.iload_n 3, 1) := by decide +kernel
theorem dX1_run_54 : decode cX1_run 54 = .ok (.iload_n 2, 1) := by decide +kernel
theorem dX1_run_55 : decode cX1_run 55 = .ok (.if_icmp .ge 13, 3) := by decide +kernel
theorem dX1_run_58 : decode cX1_run 58 = .ok (.aload_n 0, 1) := by decide +kernel
theorem dX1_run_59 : decode cX1_run 59 = .ok (.invokevirtual 29, 3) := by decide +kernel
theorem dX1_run_62 : decode cX1_run 62 = .ok (.iinc 3 1, 3) := by decide +kernel
theorem dX1_run_65 : decode cX1_run 65 = .ok (.goto (-12), 3) := by decide +kernel
theorem dX1_run_68 : decode cX1_run 68 = .ok (.return_, 1) := by decide +kernel
theorem dX1_pressByDraws_0 : decode cX1_pressByDraws 0 = .ok (.aload_n 0, 1) := by decide +kernel
theorem dX1_pressByDraws_1 : decode cX1_pressByDraws 1 = .ok (.aload_n 0, 1) := by decide +kernel
theorem dX1_pressByDraws_2 : decode cX1_pressByDraws 2 = .ok (.getfield 18, 3) := by decide +kernel
theorem dX1_pressByDraws_5 : decode cX1_pressByDraws 5 = .ok (.getfield 32, 3) := by decide +kernel
theorem dX1_pressByDraws_8 : decode cX1_pressByDraws 8 = .ok (.getfield 38, 3) := by decide +kernel
theorem dX1_pressByDraws_11 : decode cX1_pressByDraws 11 = .ok (.invokevirtual 43, 3) := by decide +kernel
theorem dX1_pressByDraws_14 : decode cX1_pressByDraws 14 = .ok (.istore_n 1, 1) := by decide +kernel
theorem dX1_pressByDraws_15 : decode cX1_pressByDraws 15 = .ok (.aload_n 0, 1) := by decide +kernel
theorem dX1_pressByDraws_16 : decode cX1_pressByDraws 16 = .ok (.aload_n 0, 1) := by decide +kernel
theorem dX1_pressByDraws_17 : decode cX1_pressByDraws 17 = .ok (.getfield 18, 3) := by decide +kernel
theorem dX1_pressByDraws_20 : decode cX1_pressByDraws 20 = .ok (.getfield 32, 3) := by decide +kernel
theorem dX1_pressByDraws_23 : decode cX1_pressByDraws 23 = .ok (.getfield 47, 3) := by decide +kernel
theorem dX1_pressByDraws_26 : decode cX1_pressByDraws 26 = .ok (.invokevirtual 43, 3) := by decide +kernel
theorem dX1_pressByDraws_29 : decode cX1_pressByDraws 29 = .ok (.istore_n 2, 1) := by decide +kernel
theorem dX1_pressByDraws_30 : decode cX1_pressByDraws 30 = .ok (.aload_n 0, 1) := by decide +kernel
theorem dX1_pressByDraws_31 : decode cX1_pressByDraws 31 = .ok (.aload_n 0, 1) := by decide +kernel
theorem dX1_pressByDraws_32 : decode cX1_pressByDraws 32 = .ok (.getfield 18, 3) := by decide +kernel
theorem dX1_pressByDraws_35 : decode cX1_pressByDraws 35 = .ok (.getfield 32, 3) := by decide +kernel
theorem dX1_pressByDraws_38 : decode cX1_pressByDraws 38 = .ok (.getfield 50, 3) := by decide +kernel
theorem dX1_pressByDraws_41 : decode cX1_pressByDraws 41 = .ok (.invokevirtual 43, 3) := by decide +kernel
theorem dX1_pressByDraws_44 : decode cX1_pressByDraws 44 = .ok (.istore_n 3, 1) := by decide +kernel
theorem dX1_pressByDraws_45 : decode cX1_pressByDraws 45 = .ok (.aload_n 0, 1) := by decide +kernel
theorem dX1_pressByDraws_46 : decode cX1_pressByDraws 46 = .ok (.bipush 100, 2) := by decide +kernel
theorem dX1_pressByDraws_48 : decode cX1_pressByDraws 48 = .ok (.invokevirtual 43, 3) := by decide +kernel
theorem dX1_pressByDraws_51 : decode cX1_pressByDraws 51 = .ok (.aload_n 0, 1) := by decide +kernel
theorem dX1_pressByDraws_52 : decode cX1_pressByDraws 52 = .ok (.getfield 18, 3) := by decide +kernel
theorem dX1_pressByDraws_55 : decode cX1_pressByDraws 55 = .ok (.getfield 32, 3) := by decide +kernel
theorem dX1_pressByDraws_58 : decode cX1_pressByDraws 58 = .ok (.getfield 53, 3) := by decide +kernel
theorem dX1_pressByDraws_61 : decode cX1_pressByDraws 61 = .ok (.iload_n 2, 1) := by decide +kernel
theorem dX1_pressByDraws_62 : decode cX1_pressByDraws 62 = .ok (.iaload, 1) := by decide +kernel
theorem dX1_pressByDraws_63 : decode cX1_pressByDraws 63 = .ok (.if_icmp .ge 7, 3) := by decide +kernel
theorem dX1_pressByDraws_66 : decode cX1_pressByDraws 66 = .ok (.iconst 1, 1) := by decide +kernel
theorem dX1_pressByDraws_67 : decode cX1_pressByDraws 67 = .ok (.goto 4, 3) := by decide +kernel
theorem dX1_pressByDraws_70 : decode cX1_pressByDraws 70 = .ok (.iconst 0, 1) := by decide +kernel
theorem dX1_pressByDraws_71 : decode cX1_pressByDraws 71 = .ok (.istore 4, 2) := by decide +kernel
theorem dX1_pressByDraws_73 : decode cX1_pressByDraws 73 = .ok (.iload 4, 2) := by decide +kernel
theorem dX1_pressByDraws_75 : decode cX1_pressByDraws 75 = .ok (.ifCond .eq 7, 3) := by decide +kernel
theorem dX1_pressByDraws_78 : decode cX1_pressByDraws 78 = .ok (.iconst 2, 1) := by decide +kernel
theorem dX1_pressByDraws_79 : decode cX1_pressByDraws 79 = .ok (.goto 20, 3) := by decide +kernel
theorem dX1_pressByDraws_82 : decode cX1_pressByDraws 82 = .ok (.aload_n 0, 1) := by decide +kernel
theorem dX1_pressByDraws_83 : decode cX1_pressByDraws 83 = .ok (.getfield 18, 3) := by decide +kernel
theorem dX1_pressByDraws_86 : decode cX1_pressByDraws 86 = .ok (.iload_n 2, 1) := by decide +kernel
theorem dX1_pressByDraws_87 : decode cX1_pressByDraws 87 = .ok (.aload_n 0, 1) := by decide +kernel
theorem dX1_pressByDraws_88 : decode cX1_pressByDraws 88 = .ok (.getfield 18, 3) := by decide +kernel
theorem dX1_pressByDraws_91 : decode cX1_pressByDraws 91 = .ok (.iload_n 1, 1) := by decide +kernel
theorem dX1_pressByDraws_92 : decode cX1_pressByDraws 92 = .ok (.iload_n 3, 1) := by decide +kernel
theorem dX1_pressByDraws_93 : decode cX1_pressByDraws 93 = .ok (.invokevirtual 56, 3) := by decide +kernel
theorem dX1_pressByDraws_96 : decode cX1_pressByDraws 96 = .ok (.invokevirtual 60, 3) := by decide +kernel
theorem dX1_pressByDraws_99 : decode cX1_pressByDraws 99 = .ok (.istore 5, 2) := by decide +kernel
theorem dX1_pressByDraws_101 : decode cX1_pressByDraws 101 = .ok (.aload_n 0, 1) := by decide +kernel
theorem dX1_pressByDraws_102 : decode cX1_pressByDraws 102 = .ok (.getfield 9, 3) := by decide +kernel
theorem dX1_pressByDraws_105 : decode cX1_pressByDraws 105 = .ok (.iload 5, 2) := by decide +kernel
theorem dX1_pressByDraws_107 : decode cX1_pressByDraws 107 = .ok (.dup2, 1) := by decide +kernel
theorem dX1_pressByDraws_108 : decode cX1_pressByDraws 108 = .ok (.iaload, 1) := by decide +kernel
theorem dX1_pressByDraws_109 : decode cX1_pressByDraws 109 = .ok (.iconst 1, 1) := by decide +kernel
theorem dX1_pressByDraws_110 : decode cX1_pressByDraws 110 = .ok (.iadd, 1) := by decide +kernel
theorem dX1_pressByDraws_111 : decode cX1_pressByDraws 111 = .ok (.iastore, 1) := by decide +kernel
theorem dX1_pressByDraws_112 : decode cX1_pressByDraws 112 = .ok (.aload_n 0, 1) := by decide +kernel
theorem dX1_pressByDraws_113 : decode cX1_pressByDraws 113 = .ok (.getfield 15, 3) := by decide +kernel
theorem dX1_pressByDraws_116 : decode cX1_pressByDraws 116 = .ok (.iload_n 3, 1) := by decide +kernel
theorem dX1_pressByDraws_117 : decode cX1_pressByDraws 117 = .ok (.iload 5, 2) := by decide +kernel
theorem dX1_pressByDraws_119 : decode cX1_pressByDraws 119 = .ok (.iastore, 1) := by decide +kernel
theorem dX1_pressByDraws_120 : decode cX1_pressByDraws 120 = .ok (.iload 5, 2) := by decide +kernel
theorem dX1_pressByDraws_122 : decode cX1_pressByDraws 122 = .ok (.iconst 2, 1) := by decide +kernel
theorem dX1_pressByDraws_123 : decode cX1_pressByDraws 123 = .ok (.if_icmp .ne 32, 3) := by decide +kernel
theorem dX1_pressByDraws_126 : decode cX1_pressByDraws 126 = .ok (.aload_n 0, 1) := by decide +kernel
theorem dX1_pressByDraws_127 : decode cX1_pressByDraws 127 = .ok (.bipush 100, 2) := by decide +kernel
theorem dX1_pressByDraws_129 : decode cX1_pressByDraws 129 = .ok (.invokevirtual 43, 3) := by decide +kernel
theorem dX1_pressByDraws_132 : decode cX1_pressByDraws 132 = .ok (.aload_n 0, 1) := by decide +kernel
theorem dX1_pressByDraws_133 : decode cX1_pressByDraws 133 = .ok (.getfield 18, 3) := by decide +kernel
theorem dX1_pressByDraws_136 : decode cX1_pressByDraws 136 = .ok (.getfield 32, 3) := by decide +kernel
theorem dX1_pressByDraws_139 : decode cX1_pressByDraws 139 = .ok (.getfield 63, 3) := by decide +kernel
theorem dX1_pressByDraws_142 : decode cX1_pressByDraws 142 = .ok (.if_icmp .ge 13, 3) := by decide +kernel
theorem dX1_pressByDraws_145 : decode cX1_pressByDraws 145 = .ok (.aload_n 0, 1) := by decide +kernel
theorem dX1_pressByDraws_146 : decode cX1_pressByDraws 146 = .ok (.dup, 1) := by decide +kernel
theorem dX1_pressByDraws_147 : decode cX1_pressByDraws 147 = .ok (.getfield 26, 3) := by decide +kernel
theorem dX1_pressByDraws_150 : decode cX1_pressByDraws 150 = .ok (.iconst 1, 1) := by decide +kernel
theorem dX1_pressByDraws_151 : decode cX1_pressByDraws 151 = .ok (.iadd, 1) := by decide +kernel
theorem dX1_pressByDraws_152 : decode cX1_pressByDraws 152 = .ok (.putfield 26, 3) := by decide +kernel
theorem dX1_pressByDraws_155 : decode cX1_pressByDraws 155 = .ok (.return_, 1) := by decide +kernel
theorem dX1_draw_0 : decode cX1_draw 0 = .ok (.aload_n 0, 1) := by decide +kernel
theorem dX1_draw_1 : decode cX1_draw 1 = .ok (.bipush 75, 2) := by decide +kernel
theorem dX1_draw_3 : decode cX1_draw 3 = .ok (.aload_n 0, 1) := by decide +kernel
theorem dX1_draw_4 : decode cX1_draw 4 = .ok (.getfield 22, 3) := by decide +kernel
theorem dX1_draw_7 : decode cX1_draw 7 = .ok (.imul, 1) := by decide +kernel
theorem dX1_draw_8 : decode cX1_draw 8 = .ok (.bipush 74, 2) := by decide +kernel
theorem dX1_draw_10 : decode cX1_draw 10 = .ok (.iadd, 1) := by decide +kernel
theorem dX1_draw_11 : decode cX1_draw 11 = .ok (.ldc 66, 2) := by decide +kernel
theorem dX1_draw_13 : decode cX1_draw 13 = .ok (.irem, 1) := by decide +kernel
theorem dX1_draw_14 : decode cX1_draw 14 = .ok (.putfield 22, 3) := by decide +kernel
theorem dX1_draw_17 : decode cX1_draw 17 = .ok (.iload_n 1, 1) := by decide +kernel
theorem dX1_draw_18 : decode cX1_draw 18 = .ok (.ifCond .le 12, 3) := by decide +kernel
theorem dX1_draw_21 : decode cX1_draw 21 = .ok (.aload_n 0, 1) := by decide +kernel
theorem dX1_draw_22 : decode cX1_draw 22 = .ok (.getfield 22, 3) := by decide +kernel
theorem dX1_draw_25 : decode cX1_draw 25 = .ok (.iload_n 1, 1) := by decide +kernel
theorem dX1_draw_26 : decode cX1_draw 26 = .ok (.irem, 1) := by decide +kernel
theorem dX1_draw_27 : decode cX1_draw 27 = .ok (.goto 4, 3) := by decide +kernel
theorem dX1_draw_30 : decode cX1_draw 30 = .ok (.iconst 0, 1) := by decide +kernel
theorem dX1_draw_31 : decode cX1_draw 31 = .ok (.ireturn, 1) := by decide +kernel
theorem dX2_init_0 : decode cX2_init 0 = .ok (.aload_n 0, 1) := by decide +kernel
theorem dX2_init_1 : decode cX2_init 1 = .ok (.invokespecial 3, 3) := by decide +kernel
theorem dX2_init_4 : decode cX2_init 4 = .ok (.aload_n 0, 1) := by decide +kernel
theorem dX2_init_5 : decode cX2_init 5 = .ok (.aload_n 1, 1) := by decide +kernel
theorem dX2_init_6 : decode cX2_init 6 = .ok (.putfield 9, 3) := by decide +kernel
theorem dX2_init_9 : decode cX2_init 9 = .ok (.return_, 1) := by decide +kernel
theorem dX2_gain_0 : decode cX2_gain 0 = .ok (.aload_n 0, 1) := by decide +kernel
theorem dX2_gain_1 : decode cX2_gain 1 = .ok (.getfield 9, 3) := by decide +kernel
theorem dX2_gain_4 : decode cX2_gain 4 = .ok (.iload_n 1, 1) := by decide +kernel
theorem dX2_gain_5 : decode cX2_gain 5 = .ok (.aload_n 0, 1) := by decide +kernel
theorem dX2_gain_6 : decode cX2_gain 6 = .ok (.getfield 9, 3) := by decide +kernel
theorem dX2_gain_9 : decode cX2_gain 9 = .ok (.getfield 15, 3) := by decide +kernel
theorem dX2_gain_12 : decode cX2_gain 12 = .ok (.iload_n 2, 1) := by decide +kernel
theorem dX2_gain_13 : decode cX2_gain 13 = .ok (.invokevirtual 21, 3) := by decide +kernel
theorem dX2_gain_16 : decode cX2_gain 16 = .ok (.invokevirtual 27, 3) := by decide +kernel
theorem dX2_gain_19 : decode cX2_gain 19 = .ok (.istore_n 3, 1) := by decide +kernel
theorem dX2_gain_20 : decode cX2_gain 20 = .ok (.aload_n 0, 1) := by decide +kernel
theorem dX2_gain_21 : decode cX2_gain 21 = .ok (.getfield 9, 3) := by decide +kernel
theorem dX2_gain_24 : decode cX2_gain 24 = .ok (.getfield 31, 3) := by decide +kernel
theorem dX2_gain_27 : decode cX2_gain 27 = .ok (.getfield 35, 3) := by decide +kernel
theorem dX2_gain_30 : decode cX2_gain 30 = .ok (.iload_n 2, 1) := by decide +kernel
theorem dX2_gain_31 : decode cX2_gain 31 = .ok (.iaload, 1) := by decide +kernel
theorem dX2_gain_32 : decode cX2_gain 32 = .ok (.istore 4, 2) := by decide +kernel
theorem dX2_gain_34 : decode cX2_gain 34 = .ok (.iload_n 3, 1) := by decide +kernel
theorem dX2_gain_35 : decode cX2_gain 35 = .ok (.iconst 1, 1) := by decide +kernel
theorem dX2_gain_36 : decode cX2_gain 36 = .ok (.if_icmp .ne 8, 3) := by decide +kernel
theorem dX2_gain_39 : decode cX2_gain 39 = .ok (.iload 4, 2) := by decide +kernel
theorem dX2_gain_41 : decode cX2_gain 41 = .ok (.goto 16, 3) := by decide +kernel
theorem dX2_gain_44 : decode cX2_gain 44 = .ok (.iload_n 3, 1) := by decide +kernel
theorem dX2_gain_45 : decode cX2_gain 45 = .ok (.iconst 2, 1) := by decide +kernel
theorem dX2_gain_46 : decode cX2_gain 46 = .ok (.if_icmp .ne 10, 3) := by decide +kernel
theorem dX2_gain_49 : decode cX2_gain 49 = .ok (.iload 4, 2) := by decide +kernel
theorem dX2_gain_51 : decode cX2_gain 51 = .ok (.iconst 2, 1) := by decide +kernel
theorem dX2_gain_52 : decode cX2_gain 52 = .ok (.idiv, 1) := by decide +kernel
theorem dX2_gain_53 : decode cX2_gain 53 = .ok (.goto 4, 3) := by decide +kernel
theorem dX2_gain_56 : decode cX2_gain 56 = .ok (.iconst 0, 1) := by decide +kernel
theorem dX2_gain_57 : decode cX2_gain 57 = .ok (.ireturn, 1) := by decide +kernel
theorem dX2_mostBy_0 : decode cX2_mostBy 0 = .ok (.iconst 0, 1) := by decide +kernel
theorem dX2_mostBy_1 : decode cX2_mostBy 1 = .ok (.istore_n 2, 1) := by decide +kernel
theorem dX2_mostBy_2 : decode cX2_mostBy 2 = .ok (.iconst 0, 1) := by decide +kernel
theorem dX2_mostBy_3 : decode cX2_mostBy 3 = .ok (.istore_n 3, 1) := by decide +kernel
theorem dX2_mostBy_4 : decode cX2_mostBy 4 = .ok (.iload_n 3, 1) := by decide +kernel
theorem dX2_mostBy_5 : decode cX2_mostBy 5 = .ok (.aload_n 0, 1) := by decide +kernel
theorem dX2_mostBy_6 : decode cX2_mostBy 6 = .ok (.getfield 9, 3) := by decide +kernel
theorem dX2_mostBy_9 : decode cX2_mostBy 9 = .ok (.getfield 31, 3) := by decide +kernel
theorem dX2_mostBy_12 : decode cX2_mostBy 12 = .ok (.getfield 41, 3) := by decide +kernel
theorem dX2_mostBy_15 : decode cX2_mostBy 15 = .ok (.if_icmp .ge 20, 3) := by decide +kernel
theorem dX2_mostBy_18 : decode cX2_mostBy 18 = .ok (.iload_n 2, 1) := by decide +kernel
theorem dX2_mostBy_19 : decode cX2_mostBy 19 = .ok (.aload_n 0, 1) := by decide +kernel
theorem dX2_mostBy_20 : decode cX2_mostBy 20 = .ok (.iload_n 1, 1) := by decide +kernel
theorem dX2_mostBy_21 : decode cX2_mostBy 21 = .ok (.iload_n 3, 1) := by decide +kernel
theorem dX2_mostBy_22 : decode cX2_mostBy 22 = .ok (.invokevirtual 45, 3) := by decide +kernel
theorem dX2_mostBy_25 : decode cX2_mostBy 25 = .ok (.invokestatic 48, 3) := by decide +kernel
theorem dX2_mostBy_28 : decode cX2_mostBy 28 = .ok (.istore_n 2, 1) := by decide +kernel
theorem dX2_mostBy_29 : decode cX2_mostBy 29 = .ok (.iinc 3 1, 3) := by decide +kernel
theorem dX2_mostBy_32 : decode cX2_mostBy 32 = .ok (.goto (-28), 3) := by decide +kernel
theorem dX2_mostBy_35 : decode cX2_mostBy 35 = .ok (.iload_n 2, 1) := by decide +kernel
theorem dX2_mostBy_36 : decode cX2_mostBy 36 = .ok (.ireturn, 1) := by decide +kernel
theorem dX2_leastFor_0 : decode cX2_leastFor 0 = .ok (.bipush 99, 2) := by decide +kernel
theorem dX2_leastFor_2 : decode cX2_leastFor 2 = .ok (.istore_n 2, 1) := by decide +kernel
theorem dX2_leastFor_3 : decode cX2_leastFor 3 = .ok (.iconst 0, 1) := by decide +kernel
theorem dX2_leastFor_4 : decode cX2_leastFor 4 = .ok (.istore_n 3, 1) := by decide +kernel
theorem dX2_leastFor_5 : decode cX2_leastFor 5 = .ok (.iload_n 3, 1) := by decide +kernel
theorem dX2_leastFor_6 : decode cX2_leastFor 6 = .ok (.aload_n 0, 1) := by decide +kernel
theorem dX2_leastFor_7 : decode cX2_leastFor 7 = .ok (.getfield 9, 3) := by decide +kernel
theorem dX2_leastFor_10 : decode cX2_leastFor 10 = .ok (.getfield 31, 3) := by decide +kernel
theorem dX2_leastFor_13 : decode cX2_leastFor 13 = .ok (.getfield 53, 3) := by decide +kernel
theorem dX2_leastFor_16 : decode cX2_leastFor 16 = .ok (.if_icmp .ge 20, 3) := by decide +kernel
theorem dX2_leastFor_19 : decode cX2_leastFor 19 = .ok (.iload_n 2, 1) := by decide +kernel
theorem dX2_leastFor_20 : decode cX2_leastFor 20 = .ok (.aload_n 0, 1) := by decide +kernel
theorem dX2_leastFor_21 : decode cX2_leastFor 21 = .ok (.iload_n 3, 1) := by decide +kernel
theorem dX2_leastFor_22 : decode cX2_leastFor 22 = .ok (.iload_n 1, 1) := by decide +kernel
theorem dX2_leastFor_23 : decode cX2_leastFor 23 = .ok (.invokevirtual 45, 3) := by decide +kernel
theorem dX2_leastFor_26 : decode cX2_leastFor 26 = .ok (.invokestatic 56, 3) := by decide +kernel
theorem dX2_leastFor_29 : decode cX2_leastFor 29 = .ok (.istore_n 2, 1) := by decide +kernel
theorem dX2_leastFor_30 : decode cX2_leastFor 30 = .ok (.iinc 3 1, 3) := by decide +kernel
theorem dX2_leastFor_33 : decode cX2_leastFor 33 = .ok (.goto (-28), 3) := by decide +kernel
theorem dX2_leastFor_36 : decode cX2_leastFor 36 = .ok (.iload_n 2, 1) := by decide +kernel
theorem dX2_leastFor_37 : decode cX2_leastFor 37 = .ok (.ireturn, 1) := by decide +kernel
theorem dX2_leastOfMost_0 : decode cX2_leastOfMost 0 = .ok (.bipush 99, 2) := by decide +kernel
theorem dX2_leastOfMost_2 : decode cX2_leastOfMost 2 = .ok (.istore_n 1, 1) := by decide +kernel
theorem dX2_leastOfMost_3 : decode cX2_leastOfMost 3 = .ok (.iconst 0, 1) := by decide +kernel
theorem dX2_leastOfMost_4 : decode cX2_leastOfMost 4 = .ok (.istore_n 2, 1) := by decide +kernel
theorem dX2_leastOfMost_5 : decode cX2_leastOfMost 5 = .ok (.iload_n 2, 1) := by decide +kernel
theorem dX2_leastOfMost_6 : decode cX2_leastOfMost 6 = .ok (.aload_n 0, 1) := by decide +kernel
theorem dX2_leastOfMost_7 : decode cX2_leastOfMost 7 = .ok (.getfield 9, 3) := by decide +kernel
theorem dX2_leastOfMost_10 : decode cX2_leastOfMost 10 = .ok (.getfield 31, 3) := by decide +kernel
theorem dX2_leastOfMost_13 : decode cX2_leastOfMost 13 = .ok (.getfield 53, 3) := by decide +kernel
theorem dX2_leastOfMost_16 : decode cX2_leastOfMost 16 = .ok (.if_icmp .ge 19, 3) := by decide +kernel
theorem dX2_leastOfMost_19 : decode cX2_leastOfMost 19 = .ok (.iload_n 1, 1) := by decide +kernel
theorem dX2_leastOfMost_20 : decode cX2_leastOfMost 20 = .ok (.aload_n 0, 1) := by decide +kernel
theorem dX2_leastOfMost_21 : decode cX2_leastOfMost 21 = .ok (.iload_n 2, 1) := by decide +kernel
theorem dX2_leastOfMost_22 : decode cX2_leastOfMost 22 = .ok (.invokevirtual 59, 3) := by decide +kernel
theorem dX2_leastOfMost_25 : decode cX2_leastOfMost 25 = .ok (.invokestatic 56, 3) := by decide +kernel
theorem dX2_leastOfMost_28 : decode cX2_leastOfMost 28 = .ok (.istore_n 1, 1) := by decide +kernel
theorem dX2_leastOfMost_29 : decode cX2_leastOfMost 29 = .ok (.iinc 2 1, 3) := by decide +kernel
theorem dX2_leastOfMost_32 : decode cX2_leastOfMost 32 = .ok (.goto (-27), 3) := by decide +kernel
theorem dX2_leastOfMost_35 : decode cX2_leastOfMost 35 = .ok (.iload_n 1, 1) := by decide +kernel
theorem dX2_leastOfMost_36 : decode cX2_leastOfMost 36 = .ok (.ireturn, 1) := by decide +kernel
theorem dX2_mostOfLeast_0 : decode cX2_mostOfLeast 0 = .ok (.iconst 0, 1) := by decide +kernel
theorem dX2_mostOfLeast_1 : decode cX2_mostOfLeast 1 = .ok (.istore_n 1, 1) := by decide +kernel
theorem dX2_mostOfLeast_2 : decode cX2_mostOfLeast 2 = .ok (.iconst 0, 1) := by decide +kernel
theorem dX2_mostOfLeast_3 : decode cX2_mostOfLeast 3 = .ok (.istore_n 2, 1) := by decide +kernel
theorem dX2_mostOfLeast_4 : decode cX2_mostOfLeast 4 = .ok (.iload_n 2, 1) := by decide +kernel
theorem dX2_mostOfLeast_5 : decode cX2_mostOfLeast 5 = .ok (.aload_n 0, 1) := by decide +kernel
theorem dX2_mostOfLeast_6 : decode cX2_mostOfLeast 6 = .ok (.getfield 9, 3) := by decide +kernel
theorem dX2_mostOfLeast_9 : decode cX2_mostOfLeast 9 = .ok (.getfield 31, 3) := by decide +kernel
theorem dX2_mostOfLeast_12 : decode cX2_mostOfLeast 12 = .ok (.getfield 41, 3) := by decide +kernel
theorem dX2_mostOfLeast_15 : decode cX2_mostOfLeast 15 = .ok (.if_icmp .ge 19, 3) := by decide +kernel
theorem dX2_mostOfLeast_18 : decode cX2_mostOfLeast 18 = .ok (.iload_n 1, 1) := by decide +kernel
theorem dX2_mostOfLeast_19 : decode cX2_mostOfLeast 19 = .ok (.aload_n 0, 1) := by decide +kernel
theorem dX2_mostOfLeast_20 : decode cX2_mostOfLeast 20 = .ok (.iload_n 2, 1) := by decide +kernel
theorem dX2_mostOfLeast_21 : decode cX2_mostOfLeast 21 = .ok (.invokevirtual 62, 3) := by decide +kernel
theorem dX2_mostOfLeast_24 : decode cX2_mostOfLeast 24 = .ok (.invokestatic 48, 3) := by decide +kernel
theorem dX2_mostOfLeast_27 : decode cX2_mostOfLeast 27 = .ok (.istore_n 1, 1) := by decide +kernel
theorem dX2_mostOfLeast_28 : decode cX2_mostOfLeast 28 = .ok (.iinc 2 1, 3) := by decide +kernel
theorem dX2_mostOfLeast_31 : decode cX2_mostOfLeast 31 = .ok (.goto (-27), 3) := by decide +kernel
theorem dX2_mostOfLeast_34 : decode cX2_mostOfLeast 34 = .ok (.iload_n 1, 1) := by decide +kernel
theorem dX2_mostOfLeast_35 : decode cX2_mostOfLeast 35 = .ok (.ireturn, 1) := by decide +kernel
theorem dX2_stampOfClerk_0 : decode cX2_stampOfClerk 0 = .ok (.aload_n 0, 1) := by decide +kernel
theorem dX2_stampOfClerk_1 : decode cX2_stampOfClerk 1 = .ok (.invokevirtual 65, 3) := by decide +kernel
theorem dX2_stampOfClerk_4 : decode cX2_stampOfClerk 4 = .ok (.istore_n 1, 1) := by decide +kernel
theorem dX2_stampOfClerk_5 : decode cX2_stampOfClerk 5 = .ok (.iconst 0, 1) := by decide +kernel
theorem dX2_stampOfClerk_6 : decode cX2_stampOfClerk 6 = .ok (.istore_n 2, 1) := by decide +kernel
theorem dX2_stampOfClerk_7 : decode cX2_stampOfClerk 7 = .ok (.iload_n 2, 1) := by decide +kernel
theorem dX2_stampOfClerk_8 : decode cX2_stampOfClerk 8 = .ok (.aload_n 0, 1) := by decide +kernel
theorem dX2_stampOfClerk_9 : decode cX2_stampOfClerk 9 = .ok (.getfield 9, 3) := by decide +kernel
theorem dX2_stampOfClerk_12 : decode cX2_stampOfClerk 12 = .ok (.getfield 31, 3) := by decide +kernel
theorem dX2_stampOfClerk_15 : decode cX2_stampOfClerk 15 = .ok (.getfield 53, 3) := by decide +kernel
theorem dX2_stampOfClerk_18 : decode cX2_stampOfClerk 18 = .ok (.if_icmp .ge 20, 3) := by decide +kernel
theorem dX2_stampOfClerk_21 : decode cX2_stampOfClerk 21 = .ok (.aload_n 0, 1) := by decide +kernel
theorem dX2_stampOfClerk_22 : decode cX2_stampOfClerk 22 = .ok (.iload_n 2, 1) := by decide +kernel
theorem dX2_stampOfClerk_23 : decode cX2_stampOfClerk 23 = .ok (.invokevirtual 59, 3) := by decide +kernel
theorem dX2_stampOfClerk_26 : decode cX2_stampOfClerk 26 = .ok (.iload_n 1, 1) := by decide +kernel
theorem dX2_stampOfClerk_27 : decode cX2_stampOfClerk 27 = .ok (.if_icmp .ne 5, 3) := by decide +kernel
theorem dX2_stampOfClerk_30 : decode cX2_stampOfClerk 30 = .ok (.iload_n 2, 1) := by decide +kernel
theorem dX2_stampOfClerk_31 : decode cX2_stampOfClerk 31 = .ok (.ireturn, 1) := by decide +kernel
theorem dX2_stampOfClerk_32 : decode cX2_stampOfClerk 32 = .ok (.iinc 2 1, 3) := by decide +kernel
theorem dX2_stampOfClerk_35 : decode cX2_stampOfClerk 35 = .ok (.goto (-28), 3) := by decide +kernel
theorem dX2_stampOfClerk_38 : decode cX2_stampOfClerk 38 = .ok (.iconst (-1), 1) := by decide +kernel
theorem dX2_stampOfClerk_39 : decode cX2_stampOfClerk 39 = .ok (.ireturn, 1) := by decide +kernel
theorem dX2_evenPairs_0 : decode cX2_evenPairs 0 = .ok (.iconst 0, 1) := by decide +kernel
theorem dX2_evenPairs_1 : decode cX2_evenPairs 1 = .ok (.istore_n 1, 1) := by decide +kernel
theorem dX2_evenPairs_2 : decode cX2_evenPairs 2 = .ok (.iconst 0, 1) := by decide +kernel
theorem dX2_evenPairs_3 : decode cX2_evenPairs 3 = .ok (.istore_n 2, 1) := by decide +kernel
theorem dX2_evenPairs_4 : decode cX2_evenPairs 4 = .ok (.iload_n 2, 1) := by decide +kernel
theorem dX2_evenPairs_5 : decode cX2_evenPairs 5 = .ok (.aload_n 0, 1) := by decide +kernel
theorem dX2_evenPairs_6 : decode cX2_evenPairs 6 = .ok (.getfield 9, 3) := by decide +kernel
theorem dX2_evenPairs_9 : decode cX2_evenPairs 9 = .ok (.getfield 31, 3) := by decide +kernel
theorem dX2_evenPairs_12 : decode cX2_evenPairs 12 = .ok (.getfield 53, 3) := by decide +kernel
theorem dX2_evenPairs_15 : decode cX2_evenPairs 15 = .ok (.if_icmp .ge 62, 3) := by decide +kernel
theorem dX2_evenPairs_18 : decode cX2_evenPairs 18 = .ok (.iconst 0, 1) := by decide +kernel
theorem dX2_evenPairs_19 : decode cX2_evenPairs 19 = .ok (.istore_n 3, 1) := by decide +kernel
theorem dX2_evenPairs_20 : decode cX2_evenPairs 20 = .ok (.iload_n 3, 1) := by decide +kernel
theorem dX2_evenPairs_21 : decode cX2_evenPairs 21 = .ok (.aload_n 0, 1) := by decide +kernel
theorem dX2_evenPairs_22 : decode cX2_evenPairs 22 = .ok (.getfield 9, 3) := by decide +kernel
theorem dX2_evenPairs_25 : decode cX2_evenPairs 25 = .ok (.getfield 31, 3) := by decide +kernel
theorem dX2_evenPairs_28 : decode cX2_evenPairs 28 = .ok (.getfield 41, 3) := by decide +kernel
theorem dX2_evenPairs_31 : decode cX2_evenPairs 31 = .ok (.if_icmp .ge 40, 3) := by decide +kernel
theorem dX2_evenPairs_34 : decode cX2_evenPairs 34 = .ok (.aload_n 0, 1) := by decide +kernel
theorem dX2_evenPairs_35 : decode cX2_evenPairs 35 = .ok (.iload_n 2, 1) := by decide +kernel
theorem dX2_evenPairs_36 : decode cX2_evenPairs 36 = .ok (.iload_n 3, 1) := by decide +kernel
theorem dX2_evenPairs_37 : decode cX2_evenPairs 37 = .ok (.invokevirtual 45, 3) := by decide +kernel
theorem dX2_evenPairs_40 : decode cX2_evenPairs 40 = .ok (.istore 4, 2) := by decide +kernel
theorem dX2_evenPairs_42 : decode cX2_evenPairs 42 = .ok (.iload 4, 2) := by decide +kernel
theorem dX2_evenPairs_44 : decode cX2_evenPairs 44 = .ok (.aload_n 0, 1) := by decide +kernel
theorem dX2_evenPairs_45 : decode cX2_evenPairs 45 = .ok (.iload_n 2, 1) := by decide +kernel
theorem dX2_evenPairs_46 : decode cX2_evenPairs 46 = .ok (.invokevirtual 59, 3) := by decide +kernel
theorem dX2_evenPairs_49 : decode cX2_evenPairs 49 = .ok (.if_icmp .ne 16, 3) := by decide +kernel
theorem dX2_evenPairs_52 : decode cX2_evenPairs 52 = .ok (.iload 4, 2) := by decide +kernel
theorem dX2_evenPairs_54 : decode cX2_evenPairs 54 = .ok (.aload_n 0, 1) := by decide +kernel
theorem dX2_evenPairs_55 : decode cX2_evenPairs 55 = .ok (.iload_n 3, 1) := by decide +kernel
theorem dX2_evenPairs_56 : decode cX2_evenPairs 56 = .ok (.invokevirtual 62, 3) := by decide +kernel
theorem dX2_evenPairs_59 : decode cX2_evenPairs 59 = .ok (.if_icmp .ne 6, 3) := by decide +kernel
theorem dX2_evenPairs_62 : decode cX2_evenPairs 62 = .ok (.iinc 1 1, 3) := by decide +kernel
theorem dX2_evenPairs_65 : decode cX2_evenPairs 65 = .ok (.iinc 3 1, 3) := by decide +kernel
theorem dX2_evenPairs_68 : decode cX2_evenPairs 68 = .ok (.goto (-48), 3) := by decide +kernel
theorem dX2_evenPairs_71 : decode cX2_evenPairs 71 = .ok (.iinc 2 1, 3) := by decide +kernel
theorem dX2_evenPairs_74 : decode cX2_evenPairs 74 = .ok (.goto (-70), 3) := by decide +kernel
theorem dX2_evenPairs_77 : decode cX2_evenPairs 77 = .ok (.iload_n 1, 1) := by decide +kernel
theorem dX2_evenPairs_78 : decode cX2_evenPairs 78 = .ok (.ireturn, 1) := by decide +kernel
theorem dX3_init_0 : decode cX3_init 0 = .ok (.aload_n 0, 1) := by decide +kernel
theorem dX3_init_1 : decode cX3_init 1 = .ok (.invokespecial 3, 3) := by decide +kernel
theorem dX3_init_4 : decode cX3_init 4 = .ok (.aload_n 0, 1) := by decide +kernel
theorem dX3_init_5 : decode cX3_init 5 = .ok (.iconst 5, 1) := by decide +kernel
theorem dX3_init_6 : decode cX3_init 6 = .ok (.newarray .int, 2) := by decide +kernel
theorem dX3_init_8 : decode cX3_init 8 = .ok (.putfield 9, 3) := by decide +kernel
theorem dX3_init_11 : decode cX3_init 11 = .ok (.aload_n 0, 1) := by decide +kernel
theorem dX3_init_12 : decode cX3_init 12 = .ok (.bipush 6, 2) := by decide +kernel
theorem dX3_init_14 : decode cX3_init 14 = .ok (.newarray .int, 2) := by decide +kernel
theorem dX3_init_16 : decode cX3_init 16 = .ok (.putfield 15, 3) := by decide +kernel
theorem dX3_init_19 : decode cX3_init 19 = .ok (.aload_n 0, 1) := by decide +kernel
theorem dX3_init_20 : decode cX3_init 20 = .ok (.iconst 4, 1) := by decide +kernel
theorem dX3_init_21 : decode cX3_init 21 = .ok (.newarray .int, 2) := by decide +kernel
theorem dX3_init_23 : decode cX3_init 23 = .ok (.putfield 18, 3) := by decide +kernel
theorem dX3_init_26 : decode cX3_init 26 = .ok (.aload_n 0, 1) := by decide +kernel
theorem dX3_init_27 : decode cX3_init 27 = .ok (.iconst 3, 1) := by decide +kernel
theorem dX3_init_28 : decode cX3_init 28 = .ok (.newarray .int, 2) := by decide +kernel
theorem dX3_init_30 : decode cX3_init 30 = .ok (.putfield 21, 3) := by decide +kernel
theorem dX3_init_33 : decode cX3_init 33 = .ok (.aload_n 0, 1) := by decide +kernel
theorem dX3_init_34 : decode cX3_init 34 = .ok (.iconst 5, 1) := by decide +kernel
theorem dX3_init_35 : decode cX3_init 35 = .ok (.newarray .int, 2) := by decide +kernel
theorem dX3_init_37 : decode cX3_init 37 = .ok (.putfield 24, 3) := by decide +kernel
theorem dX3_init_40 : decode cX3_init 40 = .ok (.aload_n 0, 1) := by decide +kernel
theorem dX3_init_41 : decode cX3_init 41 = .ok (.iconst 5, 1) := by decide +kernel
theorem dX3_init_42 : decode cX3_init 42 = .ok (.newarray .int, 2) := by decide +kernel
theorem dX3_init_44 : decode cX3_init 44 = .ok (.putfield 27, 3) := by decide +kernel
theorem dX3_init_47 : decode cX3_init 47 = .ok (.aload_n 0, 1) := by decide +kernel
theorem dX3_init_48 : decode cX3_init 48 = .ok (.aload_n 1, 1) := by decide +kernel
theorem dX3_init_49 : decode cX3_init 49 = .ok (.putfield 30, 3) := by decide +kernel
theorem dX3_init_52 : decode cX3_init 52 = .ok (.return_, 1) := by decide +kernel
theorem dX3_pairFor_0 : decode cX3_pairFor 0 = .ok (.aload_n 0, 1) := by decide +kernel
theorem dX3_pairFor_1 : decode cX3_pairFor 1 = .ok (.iconst (-1), 1) := by decide +kernel
theorem dX3_pairFor_2 : decode cX3_pairFor 2 = .ok (.iconst (-1), 1) := by decide +kernel
theorem dX3_pairFor_3 : decode cX3_pairFor 3 = .ok (.invokevirtual 34, 3) := by decide +kernel
theorem dX3_pairFor_6 : decode cX3_pairFor 6 = .ok (.pop, 1) := by decide +kernel
theorem dX3_pairFor_7 : decode cX3_pairFor 7 = .ok (.aload_n 0, 1) := by decide +kernel
theorem dX3_pairFor_8 : decode cX3_pairFor 8 = .ok (.getfield 27, 3) := by decide +kernel
theorem dX3_pairFor_11 : decode cX3_pairFor 11 = .ok (.iload_n 1, 1) := by decide +kernel
theorem dX3_pairFor_12 : decode cX3_pairFor 12 = .ok (.iaload, 1) := by decide +kernel
theorem dX3_pairFor_13 : decode cX3_pairFor 13 = .ok (.ireturn, 1) := by decide +kernel
theorem dX3_stampToFill_0 : decode cX3_stampToFill 0 = .ok (.aload_n 0, 1) := by decide +kernel
theorem dX3_stampToFill_1 : decode cX3_stampToFill 1 = .ok (.iconst (-1), 1) := by decide +kernel
theorem dX3_stampToFill_2 : decode cX3_stampToFill 2 = .ok (.iconst (-1), 1) := by decide +kernel
theorem dX3_stampToFill_3 : decode cX3_stampToFill 3 = .ok (.invokevirtual 34, 3) := by decide +kernel
theorem dX3_stampToFill_6 : decode cX3_stampToFill 6 = .ok (.istore_n 1, 1) := by decide +kernel
theorem dX3_stampToFill_7 : decode cX3_stampToFill 7 = .ok (.iconst 0, 1) := by decide +kernel
theorem dX3_stampToFill_8 : decode cX3_stampToFill 8 = .ok (.istore_n 2, 1) := by decide +kernel
theorem dX3_stampToFill_9 : decode cX3_stampToFill 9 = .ok (.iload_n 2, 1) := by decide +kernel
theorem dX3_stampToFill_10 : decode cX3_stampToFill 10 = .ok (.aload_n 0, 1) := by decide +kernel
theorem dX3_stampToFill_11 : decode cX3_stampToFill 11 = .ok (.getfield 30, 3) := by decide +kernel
theorem dX3_stampToFill_14 : decode cX3_stampToFill 14 = .ok (.getfield 38, 3) := by decide +kernel
theorem dX3_stampToFill_17 : decode cX3_stampToFill 17 = .ok (.getfield 44, 3) := by decide +kernel
theorem dX3_stampToFill_20 : decode cX3_stampToFill 20 = .ok (.if_icmp .ge 21, 3) := by decide +kernel
theorem dX3_stampToFill_23 : decode cX3_stampToFill 23 = .ok (.aload_n 0, 1) := by decide +kernel
theorem dX3_stampToFill_24 : decode cX3_stampToFill 24 = .ok (.iload_n 2, 1) := by decide +kernel
theorem dX3_stampToFill_25 : decode cX3_stampToFill 25 = .ok (.iload_n 1, 1) := by decide +kernel
theorem dX3_stampToFill_26 : decode cX3_stampToFill 26 = .ok (.invokevirtual 34, 3) := by decide +kernel
theorem dX3_stampToFill_29 : decode cX3_stampToFill 29 = .ok (.iload_n 1, 1) := by decide +kernel
theorem dX3_stampToFill_30 : decode cX3_stampToFill 30 = .ok (.if_icmp .le 5, 3) := by decide +kernel
theorem dX3_stampToFill_33 : decode cX3_stampToFill 33 = .ok (.iload_n 2, 1) := by decide +kernel
theorem dX3_stampToFill_34 : decode cX3_stampToFill 34 = .ok (.ireturn, 1) := by decide +kernel
theorem dX3_stampToFill_35 : decode cX3_stampToFill 35 = .ok (.iinc 2 1, 3) := by decide +kernel
theorem dX3_stampToFill_38 : decode cX3_stampToFill 38 = .ok (.goto (-29), 3) := by decide +kernel
theorem dX3_stampToFill_41 : decode cX3_stampToFill 41 = .ok (.bipush (-2), 2) := by decide +kernel
theorem dX3_stampToFill_43 : decode cX3_stampToFill 43 = .ok (.ireturn, 1) := by decide +kernel
theorem dX3_mostWants_0 : decode cX3_mostWants 0 = .ok (.aload_n 0, 1) := by decide +kernel
theorem dX3_mostWants_1 : decode cX3_mostWants 1 = .ok (.iload_n 1, 1) := by decide +kernel
theorem dX3_mostWants_2 : decode cX3_mostWants 2 = .ok (.invokevirtual 50, 3) := by decide +kernel
theorem dX3_mostWants_5 : decode cX3_mostWants 5 = .ok (.aload_n 0, 1) := by decide +kernel
theorem dX3_mostWants_6 : decode cX3_mostWants 6 = .ok (.invokevirtual 54, 3) := by decide +kernel
theorem dX3_mostWants_9 : decode cX3_mostWants 9 = .ok (.aload_n 0, 1) := by decide +kernel
theorem dX3_mostWants_10 : decode cX3_mostWants 10 = .ok (.aload_n 0, 1) := by decide +kernel
theorem dX3_mostWants_11 : decode cX3_mostWants 11 = .ok (.invokevirtual 57, 3) := by decide +kernel
theorem dX3_mostWants_14 : decode cX3_mostWants 14 = .ok (.putfield 61, 3) := by decide +kernel
theorem dX3_mostWants_17 : decode cX3_mostWants 17 = .ok (.aload_n 0, 1) := by decide +kernel
theorem dX3_mostWants_18 : decode cX3_mostWants 18 = .ok (.iload_n 2, 1) := by decide +kernel
theorem dX3_mostWants_19 : decode cX3_mostWants 19 = .ok (.putfield 64, 3) := by decide +kernel
theorem dX3_mostWants_22 : decode cX3_mostWants 22 = .ok (.aload_n 0, 1) := by decide +kernel
theorem dX3_mostWants_23 : decode cX3_mostWants 23 = .ok (.iconst 0, 1) := by decide +kernel
theorem dX3_mostWants_24 : decode cX3_mostWants 24 = .ok (.iconst 0, 1) := by decide +kernel
theorem dX3_mostWants_25 : decode cX3_mostWants 25 = .ok (.invokevirtual 67, 3) := by decide +kernel
theorem dX3_mostWants_28 : decode cX3_mostWants 28 = .ok (.aload_n 0, 1) := by decide +kernel
theorem dX3_mostWants_29 : decode cX3_mostWants 29 = .ok (.getfield 64, 3) := by decide +kernel
theorem dX3_mostWants_32 : decode cX3_mostWants 32 = .ok (.ireturn, 1) := by decide +kernel
theorem dX3_setRooms_0 : decode cX3_setRooms 0 = .ok (.iconst 0, 1) := by decide +kernel
theorem dX3_setRooms_1 : decode cX3_setRooms 1 = .ok (.istore_n 2, 1) := by decide +kernel
theorem dX3_setRooms_2 : decode cX3_setRooms 2 = .ok (.iload_n 2, 1) := by decide +kernel
theorem dX3_setRooms_3 : decode cX3_setRooms 3 = .ok (.aload_n 0, 1) := by decide +kernel
theorem dX3_setRooms_4 : decode cX3_setRooms 4 = .ok (.getfield 30, 3) := by decide +kernel
theorem dX3_setRooms_7 : decode cX3_setRooms 7 = .ok (.getfield 38, 3) := by decide +kernel
theorem dX3_setRooms_10 : decode cX3_setRooms 10 = .ok (.getfield 44, 3) := by decide +kernel
theorem dX3_setRooms_13 : decode cX3_setRooms 13 = .ok (.if_icmp .ge 37, 3) := by decide +kernel
theorem dX3_setRooms_16 : decode cX3_setRooms 16 = .ok (.aload_n 0, 1) := by decide +kernel
theorem dX3_setRooms_17 : decode cX3_setRooms 17 = .ok (.getfield 18, 3) := by decide +kernel
theorem dX3_setRooms_20 : decode cX3_setRooms 20 = .ok (.iload_n 2, 1) := by decide +kernel
theorem dX3_setRooms_21 : decode cX3_setRooms 21 = .ok (.aload_n 0, 1) := by decide +kernel
theorem dX3_setRooms_22 : decode cX3_setRooms 22 = .ok (.getfield 30, 3) := by decide +kernel
theorem dX3_setRooms_25 : decode cX3_setRooms 25 = .ok (.getfield 71, 3) := by decide +kernel
theorem dX3_setRooms_28 : decode cX3_setRooms 28 = .ok (.iload_n 2, 1) := by decide +kernel
theorem dX3_setRooms_29 : decode cX3_setRooms 29 = .ok (.invokevirtual 75, 3) := by decide +kernel
theorem dX3_setRooms_32 : decode cX3_setRooms 32 = .ok (.iload_n 2, 1) := by decide +kernel
theorem dX3_setRooms_33 : decode cX3_setRooms 33 = .ok (.iload_n 1, 1) := by decide +kernel
theorem dX3_setRooms_34 : decode cX3_setRooms 34 = .ok (.if_icmp .ne 7, 3) := by decide +kernel
theorem dX3_setRooms_37 : decode cX3_setRooms 37 = .ok (.iconst 1, 1) := by decide +kernel
theorem dX3_setRooms_38 : decode cX3_setRooms 38 = .ok (.goto 4, 3) := by decide +kernel
theorem dX3_setRooms_41 : decode cX3_setRooms 41 = .ok (.iconst 0, 1) := by decide +kernel
theorem dX3_setRooms_42 : decode cX3_setRooms 42 = .ok (.iadd, 1) := by decide +kernel
theorem dX3_setRooms_43 : decode cX3_setRooms 43 = .ok (.iastore, 1) := by decide +kernel
theorem dX3_setRooms_44 : decode cX3_setRooms 44 = .ok (.iinc 2 1, 3) := by decide +kernel
theorem dX3_setRooms_47 : decode cX3_setRooms 47 = .ok (.goto (-45), 3) := by decide +kernel
theorem dX3_setRooms_50 : decode cX3_setRooms 50 = .ok (.iconst 0, 1) := by decide +kernel
theorem dX3_setRooms_51 : decode cX3_setRooms 51 = .ok (.istore_n 2, 1) := by decide +kernel
theorem dX3_setRooms_52 : decode cX3_setRooms 52 = .ok (.iload_n 2, 1) := by decide +kernel
theorem dX3_setRooms_53 : decode cX3_setRooms 53 = .ok (.aload_n 0, 1) := by decide +kernel
theorem dX3_setRooms_54 : decode cX3_setRooms 54 = .ok (.getfield 30, 3) := by decide +kernel
theorem dX3_setRooms_57 : decode cX3_setRooms 57 = .ok (.getfield 38, 3) := by decide +kernel
theorem dX3_setRooms_60 : decode cX3_setRooms 60 = .ok (.getfield 81, 3) := by decide +kernel
theorem dX3_setRooms_63 : decode cX3_setRooms 63 = .ok (.if_icmp .ge 16, 3) := by decide +kernel
theorem dX3_setRooms_66 : decode cX3_setRooms 66 = .ok (.aload_n 0, 1) := by decide +kernel
theorem dX3_setRooms_67 : decode cX3_setRooms 67 = .ok (.getfield 21, 3) := by decide +kernel
theorem dX3_setRooms_70 : decode cX3_setRooms 70 = .ok (.iload_n 2, 1) := by decide +kernel
theorem dX3_setRooms_71 : decode cX3_setRooms 71 = .ok (.iconst 2, 1) := by decide +kernel
theorem dX3_setRooms_72 : decode cX3_setRooms 72 = .ok (.iastore, 1) := by decide +kernel
theorem dX3_setRooms_73 : decode cX3_setRooms 73 = .ok (.iinc 2 1, 3) := by decide +kernel
theorem dX3_setRooms_76 : decode cX3_setRooms 76 = .ok (.goto (-24), 3) := by decide +kernel
theorem dX3_setRooms_79 : decode cX3_setRooms 79 = .ok (.return_, 1) := by decide +kernel
theorem dX3_setFits_0 : decode cX3_setFits 0 = .ok (.aload_n 0, 1) := by decide +kernel
theorem dX3_setFits_1 : decode cX3_setFits 1 = .ok (.getfield 15, 3) := by decide +kernel
theorem dX3_setFits_4 : decode cX3_setFits 4 = .ok (.aload_n 0, 1) := by decide +kernel
theorem dX3_setFits_5 : decode cX3_setFits 5 = .ok (.getfield 30, 3) := by decide +kernel
theorem dX3_setFits_8 : decode cX3_setFits 8 = .ok (.getfield 38, 3) := by decide +kernel
theorem dX3_setFits_11 : decode cX3_setFits 11 = .ok (.getfield 84, 3) := by decide +kernel
theorem dX3_setFits_14 : decode cX3_setFits 14 = .ok (.iconst 0, 1) := by decide +kernel
theorem dX3_setFits_15 : decode cX3_setFits 15 = .ok (.iastore, 1) := by decide +kernel
theorem dX3_setFits_16 : decode cX3_setFits 16 = .ok (.aload_n 0, 1) := by decide +kernel
theorem dX3_setFits_17 : decode cX3_setFits 17 = .ok (.getfield 30, 3) := by decide +kernel
theorem dX3_setFits_20 : decode cX3_setFits 20 = .ok (.getfield 38, 3) := by decide +kernel
theorem dX3_setFits_23 : decode cX3_setFits 23 = .ok (.getfield 84, 3) := by decide +kernel
theorem dX3_setFits_26 : decode cX3_setFits 26 = .ok (.iconst 1, 1) := by decide +kernel
theorem dX3_setFits_27 : decode cX3_setFits 27 = .ok (.isub, 1) := by decide +kernel
theorem dX3_setFits_28 : decode cX3_setFits 28 = .ok (.istore_n 1, 1) := by decide +kernel
theorem dX3_setFits_29 : decode cX3_setFits 29 = .ok (.iload_n 1, 1) := by decide +kernel
theorem dX3_setFits_30 : decode cX3_setFits 30 = .ok (.ifCond .lt 82, 3) := by decide +kernel
theorem dX3_setFits_33 : decode cX3_setFits 33 = .ok (.aload_n 0, 1) := by decide +kernel
theorem dX3_setFits_34 : decode cX3_setFits 34 = .ok (.getfield 9, 3) := by decide +kernel
theorem dX3_setFits_37 : decode cX3_setFits 37 = .ok (.iload_n 1, 1) := by decide +kernel
theorem dX3_setFits_38 : decode cX3_setFits 38 = .ok (.aload_n 0, 1) := by decide +kernel
theorem dX3_setFits_39 : decode cX3_setFits 39 = .ok (.getfield 30, 3) := by decide +kernel
theorem dX3_setFits_42 : decode cX3_setFits 42 = .ok (.getfield 38, 3) := by decide +kernel
theorem dX3_setFits_45 : decode cX3_setFits 45 = .ok (.getfield 87, 3) := by decide +kernel
theorem dX3_setFits_48 : decode cX3_setFits 48 = .ok (.iload_n 1, 1) := by decide +kernel
theorem dX3_setFits_49 : decode cX3_setFits 49 = .ok (.iaload, 1) := by decide +kernel
theorem dX3_setFits_50 : decode cX3_setFits 50 = .ok (.bipush (-2), 2) := by decide +kernel
theorem dX3_setFits_52 : decode cX3_setFits 52 = .ok (.if_icmp .ne 7, 3) := by decide +kernel
theorem dX3_setFits_55 : decode cX3_setFits 55 = .ok (.iconst 0, 1) := by decide +kernel
theorem dX3_setFits_56 : decode cX3_setFits 56 = .ok (.goto 20, 3) := by decide +kernel
theorem dX3_setFits_59 : decode cX3_setFits 59 = .ok (.aload_n 0, 1) := by decide +kernel
theorem dX3_setFits_60 : decode cX3_setFits 60 = .ok (.iload_n 1, 1) := by decide +kernel
theorem dX3_setFits_61 : decode cX3_setFits 61 = .ok (.aload_n 0, 1) := by decide +kernel
theorem dX3_setFits_62 : decode cX3_setFits 62 = .ok (.getfield 30, 3) := by decide +kernel
theorem dX3_setFits_65 : decode cX3_setFits 65 = .ok (.getfield 38, 3) := by decide +kernel
theorem dX3_setFits_68 : decode cX3_setFits 68 = .ok (.getfield 87, 3) := by decide +kernel
theorem dX3_setFits_71 : decode cX3_setFits 71 = .ok (.iload_n 1, 1) := by decide +kernel
theorem dX3_setFits_72 : decode cX3_setFits 72 = .ok (.iaload, 1) := by decide +kernel
theorem dX3_setFits_73 : decode cX3_setFits 73 = .ok (.invokevirtual 90, 3) := by decide +kernel
theorem dX3_setFits_76 : decode cX3_setFits 76 = .ok (.iastore, 1) := by decide +kernel
theorem dX3_setFits_77 : decode cX3_setFits 77 = .ok (.aload_n 0, 1) := by decide +kernel
theorem dX3_setFits_78 : decode cX3_setFits 78 = .ok (.getfield 15, 3) := by decide +kernel
theorem dX3_setFits_81 : decode cX3_setFits 81 = .ok (.iload_n 1, 1) := by decide +kernel
theorem dX3_setFits_82 : decode cX3_setFits 82 = .ok (.aload_n 0, 1) := by decide +kernel
theorem dX3_setFits_83 : decode cX3_setFits 83 = .ok (.getfield 15, 3) := by decide +kernel
theorem dX3_setFits_86 : decode cX3_setFits 86 = .ok (.iload_n 1, 1) := by decide +kernel
theorem dX3_setFits_87 : decode cX3_setFits 87 = .ok (.iconst 1, 1) := by decide +kernel
theorem dX3_setFits_88 : decode cX3_setFits 88 = .ok (.iadd, 1) := by decide +kernel
theorem dX3_setFits_89 : decode cX3_setFits 89 = .ok (.iaload, 1) := by decide +kernel
theorem dX3_setFits_90 : decode cX3_setFits 90 = .ok (.aload_n 0, 1) := by decide +kernel
theorem dX3_setFits_91 : decode cX3_setFits 91 = .ok (.getfield 9, 3) := by decide +kernel
theorem dX3_setFits_94 : decode cX3_setFits 94 = .ok (.iload_n 1, 1) := by decide +kernel
theorem dX3_setFits_95 : decode cX3_setFits 95 = .ok (.iaload, 1) := by decide +kernel
theorem dX3_setFits_96 : decode cX3_setFits 96 = .ok (.ifCond .ne 7, 3) := by decide +kernel
theorem dX3_setFits_99 : decode cX3_setFits 99 = .ok (.iconst 0, 1) := by decide +kernel
theorem dX3_setFits_100 : decode cX3_setFits 100 = .ok (.goto 4, 3) := by decide +kernel
theorem dX3_setFits_103 : decode cX3_setFits 103 = .ok (.iconst 1, 1) := by decide +kernel
theorem dX3_setFits_104 : decode cX3_setFits 104 = .ok (.iadd, 1) := by decide +kernel
theorem dX3_setFits_105 : decode cX3_setFits 105 = .ok (.iastore, 1) := by decide +kernel
theorem dX3_setFits_106 : decode cX3_setFits 106 = .ok (.iinc 1 (-1), 3) := by decide +kernel
theorem dX3_setFits_109 : decode cX3_setFits 109 = .ok (.goto (-80), 3) := by decide +kernel
theorem dX3_setFits_112 : decode cX3_setFits 112 = .ok (.return_, 1) := by decide +kernel
theorem dX3_pairsThatPrint_0 : decode cX3_pairsThatPrint 0 = .ok (.iconst 0, 1) := by decide +kernel
theorem dX3_pairsThatPrint_1 : decode cX3_pairsThatPrint 1 = .ok (.istore_n 3, 1) := by decide +kernel
theorem dX3_pairsThatPrint_2 : decode cX3_pairsThatPrint 2 = .ok (.aload_n 0, 1) := by decide +kernel
theorem dX3_pairsThatPrint_3 : decode cX3_pairsThatPrint 3 = .ok (.getfield 30, 3) := by decide +kernel
theorem dX3_pairsThatPrint_6 : decode cX3_pairsThatPrint 6 = .ok (.getfield 71, 3) := by decide +kernel
theorem dX3_pairsThatPrint_9 : decode cX3_pairsThatPrint 9 = .ok (.iload_n 1, 1) := by decide +kernel
theorem dX3_pairsThatPrint_10 : decode cX3_pairsThatPrint 10 = .ok (.invokevirtual 93, 3) := by decide +kernel
theorem dX3_pairsThatPrint_13 : decode cX3_pairsThatPrint 13 = .ok (.istore 4, 2) := by decide +kernel
theorem dX3_pairsThatPrint_15 : decode cX3_pairsThatPrint 15 = .ok (.iconst 0, 1) := by decide +kernel
theorem dX3_pairsThatPrint_16 : decode cX3_pairsThatPrint 16 = .ok (.istore 5, 2) := by decide +kernel
theorem dX3_pairsThatPrint_18 : decode cX3_pairsThatPrint 18 = .ok (.iload 5, 2) := by decide +kernel
theorem dX3_pairsThatPrint_20 : decode cX3_pairsThatPrint 20 = .ok (.aload_n 0, 1) := by decide +kernel
theorem dX3_pairsThatPrint_21 : decode cX3_pairsThatPrint 21 = .ok (.getfield 30, 3) := by decide +kernel
theorem dX3_pairsThatPrint_24 : decode cX3_pairsThatPrint 24 = .ok (.getfield 38, 3) := by decide +kernel
theorem dX3_pairsThatPrint_27 : decode cX3_pairsThatPrint 27 = .ok (.getfield 44, 3) := by decide +kernel
theorem dX3_pairsThatPrint_30 : decode cX3_pairsThatPrint 30 = .ok (.if_icmp .ge 83, 3) := by decide +kernel
theorem dX3_pairsThatPrint_33 : decode cX3_pairsThatPrint 33 = .ok (.aload_n 0, 1) := by decide +kernel
theorem dX3_pairsThatPrint_34 : decode cX3_pairsThatPrint 34 = .ok (.getfield 30, 3) := by decide +kernel
theorem dX3_pairsThatPrint_37 : decode cX3_pairsThatPrint 37 = .ok (.iload 5, 2) := by decide +kernel
theorem dX3_pairsThatPrint_39 : decode cX3_pairsThatPrint 39 = .ok (.iload 4, 2) := by decide +kernel
theorem dX3_pairsThatPrint_41 : decode cX3_pairsThatPrint 41 = .ok (.invokevirtual 96, 3) := by decide +kernel
theorem dX3_pairsThatPrint_44 : decode cX3_pairsThatPrint 44 = .ok (.istore 6, 2) := by decide +kernel
theorem dX3_pairsThatPrint_46 : decode cX3_pairsThatPrint 46 = .ok (.iconst 0, 1) := by decide +kernel
theorem dX3_pairsThatPrint_47 : decode cX3_pairsThatPrint 47 = .ok (.istore 7, 2) := by decide +kernel
theorem dX3_pairsThatPrint_49 : decode cX3_pairsThatPrint 49 = .ok (.iload 7, 2) := by decide +kernel
theorem dX3_pairsThatPrint_51 : decode cX3_pairsThatPrint 51 = .ok (.aload_n 0, 1) := by decide +kernel
theorem dX3_pairsThatPrint_52 : decode cX3_pairsThatPrint 52 = .ok (.getfield 30, 3) := by decide +kernel
theorem dX3_pairsThatPrint_55 : decode cX3_pairsThatPrint 55 = .ok (.getfield 38, 3) := by decide +kernel
theorem dX3_pairsThatPrint_58 : decode cX3_pairsThatPrint 58 = .ok (.getfield 81, 3) := by decide +kernel
theorem dX3_pairsThatPrint_61 : decode cX3_pairsThatPrint 61 = .ok (.if_icmp .ge 46, 3) := by decide +kernel
theorem dX3_pairsThatPrint_64 : decode cX3_pairsThatPrint 64 = .ok (.aload_n 0, 1) := by decide +kernel
theorem dX3_pairsThatPrint_65 : decode cX3_pairsThatPrint 65 = .ok (.getfield 18, 3) := by decide +kernel
theorem dX3_pairsThatPrint_68 : decode cX3_pairsThatPrint 68 = .ok (.iload 5, 2) := by decide +kernel
theorem dX3_pairsThatPrint_70 : decode cX3_pairsThatPrint 70 = .ok (.iaload, 1) := by decide +kernel
theorem dX3_pairsThatPrint_71 : decode cX3_pairsThatPrint 71 = .ok (.ifCond .le 36, 3) := by decide +kernel
theorem dX3_pairsThatPrint_74 : decode cX3_pairsThatPrint 74 = .ok (.aload_n 0, 1) := by decide +kernel
theorem dX3_pairsThatPrint_75 : decode cX3_pairsThatPrint 75 = .ok (.getfield 30, 3) := by decide +kernel
theorem dX3_pairsThatPrint_78 : decode cX3_pairsThatPrint 78 = .ok (.iload 7, 2) := by decide +kernel
theorem dX3_pairsThatPrint_80 : decode cX3_pairsThatPrint 80 = .ok (.iload 6, 2) := by decide +kernel
theorem dX3_pairsThatPrint_82 : decode cX3_pairsThatPrint 82 = .ok (.invokevirtual 99, 3) := by decide +kernel
theorem dX3_pairsThatPrint_85 : decode cX3_pairsThatPrint 85 = .ok (.iload_n 2, 1) := by decide +kernel
theorem dX3_pairsThatPrint_86 : decode cX3_pairsThatPrint 86 = .ok (.if_icmp .ne 15, 3) := by decide +kernel
theorem dX3_pairsThatPrint_89 : decode cX3_pairsThatPrint 89 = .ok (.iload_n 3, 1) := by decide +kernel
theorem dX3_pairsThatPrint_90 : decode cX3_pairsThatPrint 90 = .ok (.iconst 1, 1) := by decide +kernel
theorem dX3_pairsThatPrint_91 : decode cX3_pairsThatPrint 91 = .ok (.iload 5, 2) := by decide +kernel
theorem dX3_pairsThatPrint_93 : decode cX3_pairsThatPrint 93 = .ok (.iconst 3, 1) := by decide +kernel
theorem dX3_pairsThatPrint_94 : decode cX3_pairsThatPrint 94 = .ok (.imul, 1) := by decide +kernel
theorem dX3_pairsThatPrint_95 : decode cX3_pairsThatPrint 95 = .ok (.iload 7, 2) := by decide +kernel
theorem dX3_pairsThatPrint_97 : decode cX3_pairsThatPrint 97 = .ok (.iadd, 1) := by decide +kernel
theorem dX3_pairsThatPrint_98 : decode cX3_pairsThatPrint 98 = .ok (.ishl, 1) := by decide +kernel
theorem dX3_pairsThatPrint_99 : decode cX3_pairsThatPrint 99 = .ok (.ior, 1) := by decide +kernel
theorem dX3_pairsThatPrint_100 : decode cX3_pairsThatPrint 100 = .ok (.istore_n 3, 1) := by decide +kernel
theorem dX3_pairsThatPrint_101 : decode cX3_pairsThatPrint 101 = .ok (.iinc 7 1, 3) := by decide +kernel
theorem dX3_pairsThatPrint_104 : decode cX3_pairsThatPrint 104 = .ok (.goto (-55), 3) := by decide +kernel
theorem dX3_pairsThatPrint_107 : decode cX3_pairsThatPrint 107 = .ok (.iinc 5 1, 3) := by decide +kernel
theorem dX3_pairsThatPrint_110 : decode cX3_pairsThatPrint 110 = .ok (.goto (-92), 3) := by decide +kernel
theorem dX3_pairsThatPrint_113 : decode cX3_pairsThatPrint 113 = .ok (.iload_n 3, 1) := by decide +kernel
theorem dX3_pairsThatPrint_114 : decode cX3_pairsThatPrint 114 = .ok (.ireturn, 1) := by decide +kernel
theorem dX3_mostThatCanBe_0 : decode cX3_mostThatCanBe 0 = .ok (.iconst 0, 1) := by decide +kernel
theorem dX3_mostThatCanBe_1 : decode cX3_mostThatCanBe 1 = .ok (.istore_n 1, 1) := by decide +kernel
theorem dX3_mostThatCanBe_2 : decode cX3_mostThatCanBe 2 = .ok (.iconst 0, 1) := by decide +kernel
theorem dX3_mostThatCanBe_3 : decode cX3_mostThatCanBe 3 = .ok (.istore_n 2, 1) := by decide +kernel
theorem dX3_mostThatCanBe_4 : decode cX3_mostThatCanBe 4 = .ok (.iload_n 2, 1) := by decide +kernel
theorem dX3_mostThatCanBe_5 : decode cX3_mostThatCanBe 5 = .ok (.aload_n 0, 1) := by decide +kernel
theorem dX3_mostThatCanBe_6 : decode cX3_mostThatCanBe 6 = .ok (.getfield 30, 3) := by decide +kernel
theorem dX3_mostThatCanBe_9 : decode cX3_mostThatCanBe 9 = .ok (.getfield 38, 3) := by decide +kernel
theorem dX3_mostThatCanBe_12 : decode cX3_mostThatCanBe 12 = .ok (.getfield 44, 3) := by decide +kernel
theorem dX3_mostThatCanBe_15 : decode cX3_mostThatCanBe 15 = .ok (.if_icmp .ge 18, 3) := by decide +kernel
theorem dX3_mostThatCanBe_18 : decode cX3_mostThatCanBe 18 = .ok (.iload_n 1, 1) := by decide +kernel
theorem dX3_mostThatCanBe_19 : decode cX3_mostThatCanBe 19 = .ok (.aload_n 0, 1) := by decide +kernel
theorem dX3_mostThatCanBe_20 : decode cX3_mostThatCanBe 20 = .ok (.getfield 18, 3) := by decide +kernel
theorem dX3_mostThatCanBe_23 : decode cX3_mostThatCanBe 23 = .ok (.iload_n 2, 1) := by decide +kernel
theorem dX3_mostThatCanBe_24 : decode cX3_mostThatCanBe 24 = .ok (.iaload, 1) := by decide +kernel
theorem dX3_mostThatCanBe_25 : decode cX3_mostThatCanBe 25 = .ok (.iadd, 1) := by decide +kernel
theorem dX3_mostThatCanBe_26 : decode cX3_mostThatCanBe 26 = .ok (.istore_n 1, 1) := by decide +kernel
theorem dX3_mostThatCanBe_27 : decode cX3_mostThatCanBe 27 = .ok (.iinc 2 1, 3) := by decide +kernel
theorem dX3_mostThatCanBe_30 : decode cX3_mostThatCanBe 30 = .ok (.goto (-26), 3) := by decide +kernel
theorem dX3_mostThatCanBe_33 : decode cX3_mostThatCanBe 33 = .ok (.iconst 2, 1) := by decide +kernel
theorem dX3_mostThatCanBe_34 : decode cX3_mostThatCanBe 34 = .ok (.aload_n 0, 1) := by decide +kernel
theorem dX3_mostThatCanBe_35 : decode cX3_mostThatCanBe 35 = .ok (.getfield 30, 3) := by decide +kernel
theorem dX3_mostThatCanBe_38 : decode cX3_mostThatCanBe 38 = .ok (.getfield 38, 3) := by decide +kernel
theorem dX3_mostThatCanBe_41 : decode cX3_mostThatCanBe 41 = .ok (.getfield 81, 3) := by decide +kernel
theorem dX3_mostThatCanBe_44 : decode cX3_mostThatCanBe 44 = .ok (.imul, 1) := by decide +kernel
theorem dX3_mostThatCanBe_45 : decode cX3_mostThatCanBe 45 = .ok (.istore_n 2, 1) := by decide +kernel
theorem dX3_mostThatCanBe_46 : decode cX3_mostThatCanBe 46 = .ok (.aload_n 0, 1) := by decide +kernel
theorem dX3_mostThatCanBe_47 : decode cX3_mostThatCanBe 47 = .ok (.getfield 15, 3) := by decide +kernel
theorem dX3_mostThatCanBe_50 : decode cX3_mostThatCanBe 50 = .ok (.iconst 0, 1) := by decide +kernel
theorem dX3_mostThatCanBe_51 : decode cX3_mostThatCanBe 51 = .ok (.iaload, 1) := by decide +kernel
theorem dX3_mostThatCanBe_52 : decode cX3_mostThatCanBe 52 = .ok (.iload_n 1, 1) := by decide +kernel
theorem dX3_mostThatCanBe_53 : decode cX3_mostThatCanBe 53 = .ok (.iload_n 2, 1) := by decide +kernel
theorem dX3_mostThatCanBe_54 : decode cX3_mostThatCanBe 54 = .ok (.invokestatic 102, 3) := by decide +kernel
theorem dX3_mostThatCanBe_57 : decode cX3_mostThatCanBe 57 = .ok (.invokestatic 102, 3) := by decide +kernel
theorem dX3_mostThatCanBe_60 : decode cX3_mostThatCanBe 60 = .ok (.ireturn, 1) := by decide +kernel
theorem dX3_tryPaper_0 : decode cX3_tryPaper 0 = .ok (.aload_n 0, 1) := by decide +kernel
theorem dX3_tryPaper_1 : decode cX3_tryPaper 1 = .ok (.getfield 64, 3) := by decide +kernel
theorem dX3_tryPaper_4 : decode cX3_tryPaper 4 = .ok (.aload_n 0, 1) := by decide +kernel
theorem dX3_tryPaper_5 : decode cX3_tryPaper 5 = .ok (.getfield 61, 3) := by decide +kernel
theorem dX3_tryPaper_8 : decode cX3_tryPaper 8 = .ok (.if_icmp .ge 32, 3) := by decide +kernel
theorem dX3_tryPaper_11 : decode cX3_tryPaper 11 = .ok (.iload_n 1, 1) := by decide +kernel
theorem dX3_tryPaper_12 : decode cX3_tryPaper 12 = .ok (.aload_n 0, 1) := by decide +kernel
theorem dX3_tryPaper_13 : decode cX3_tryPaper 13 = .ok (.getfield 30, 3) := by decide +kernel
theorem dX3_tryPaper_16 : decode cX3_tryPaper 16 = .ok (.getfield 38, 3) := by decide +kernel
theorem dX3_tryPaper_19 : decode cX3_tryPaper 19 = .ok (.getfield 84, 3) := by decide +kernel
theorem dX3_tryPaper_22 : decode cX3_tryPaper 22 = .ok (.if_icmp .gt 18, 3) := by decide +kernel
theorem dX3_tryPaper_25 : decode cX3_tryPaper 25 = .ok (.iload_n 2, 1) := by decide +kernel
theorem dX3_tryPaper_26 : decode cX3_tryPaper 26 = .ok (.aload_n 0, 1) := by decide +kernel
theorem dX3_tryPaper_27 : decode cX3_tryPaper 27 = .ok (.getfield 15, 3) := by decide +kernel
theorem dX3_tryPaper_30 : decode cX3_tryPaper 30 = .ok (.iload_n 1, 1) := by decide +kernel
theorem dX3_tryPaper_31 : decode cX3_tryPaper 31 = .ok (.iaload, 1) := by decide +kernel
theorem dX3_tryPaper_32 : decode cX3_tryPaper 32 = .ok (.iadd, 1) := by decide +kernel
theorem dX3_tryPaper_33 : decode cX3_tryPaper 33 = .ok (.aload_n 0, 1) := by decide +kernel
theorem dX3_tryPaper_34 : decode cX3_tryPaper 34 = .ok (.getfield 64, 3) := by decide +kernel
theorem dX3_tryPaper_37 : decode cX3_tryPaper 37 = .ok (.if_icmp .gt 4, 3) := by decide +kernel
theorem dX3_tryPaper_40 : decode cX3_tryPaper 40 = .ok (.return_, 1) := by decide +kernel
theorem dX3_tryPaper_41 : decode cX3_tryPaper 41 = .ok (.iload_n 1, 1) := by decide +kernel
theorem dX3_tryPaper_42 : decode cX3_tryPaper 42 = .ok (.aload_n 0, 1) := by decide +kernel
theorem dX3_tryPaper_43 : decode cX3_tryPaper 43 = .ok (.getfield 30, 3) := by decide +kernel
theorem dX3_tryPaper_46 : decode cX3_tryPaper 46 = .ok (.getfield 38, 3) := by decide +kernel
theorem dX3_tryPaper_49 : decode cX3_tryPaper 49 = .ok (.getfield 84, 3) := by decide +kernel
theorem dX3_tryPaper_52 : decode cX3_tryPaper 52 = .ok (.if_icmp .ne 9, 3) := by decide +kernel
theorem dX3_tryPaper_55 : decode cX3_tryPaper 55 = .ok (.aload_n 0, 1) := by decide +kernel
theorem dX3_tryPaper_56 : decode cX3_tryPaper 56 = .ok (.iload_n 2, 1) := by decide +kernel
theorem dX3_tryPaper_57 : decode cX3_tryPaper 57 = .ok (.invokevirtual 107, 3) := by decide +kernel
theorem dX3_tryPaper_60 : decode cX3_tryPaper 60 = .ok (.return_, 1) := by decide +kernel
theorem dX3_tryPaper_61 : decode cX3_tryPaper 61 = .ok (.iconst 0, 1) := by decide +kernel
theorem dX3_tryPaper_62 : decode cX3_tryPaper 62 = .ok (.istore_n 3, 1) := by decide +kernel
theorem dX3_tryPaper_63 : decode cX3_tryPaper 63 = .ok (.iload_n 3, 1) := by decide +kernel
theorem dX3_tryPaper_64 : decode cX3_tryPaper 64 = .ok (.aload_n 0, 1) := by decide +kernel
theorem dX3_tryPaper_65 : decode cX3_tryPaper 65 = .ok (.getfield 30, 3) := by decide +kernel
theorem dX3_tryPaper_68 : decode cX3_tryPaper 68 = .ok (.getfield 38, 3) := by decide +kernel
theorem dX3_tryPaper_71 : decode cX3_tryPaper 71 = .ok (.getfield 44, 3) := by decide +kernel
theorem dX3_tryPaper_74 : decode cX3_tryPaper 74 = .ok (.if_icmp .ge 53, 3) := by decide +kernel
theorem dX3_tryPaper_77 : decode cX3_tryPaper 77 = .ok (.iconst 0, 1) := by decide +kernel
theorem dX3_tryPaper_78 : decode cX3_tryPaper 78 = .ok (.istore 4, 2) := by decide +kernel
theorem dX3_tryPaper_80 : decode cX3_tryPaper 80 = .ok (.iload 4, 2) := by decide +kernel
theorem dX3_tryPaper_82 : decode cX3_tryPaper 82 = .ok (.aload_n 0, 1) := by decide +kernel
theorem dX3_tryPaper_83 : decode cX3_tryPaper 83 = .ok (.getfield 30, 3) := by decide +kernel
theorem dX3_tryPaper_86 : decode cX3_tryPaper 86 = .ok (.getfield 38, 3) := by decide +kernel
theorem dX3_tryPaper_89 : decode cX3_tryPaper 89 = .ok (.getfield 81, 3) := by decide +kernel
theorem dX3_tryPaper_92 : decode cX3_tryPaper 92 = .ok (.if_icmp .ge 29, 3) := by decide +kernel
theorem dX3_tryPaper_95 : decode cX3_tryPaper 95 = .ok (.aload_n 0, 1) := by decide +kernel
theorem dX3_tryPaper_96 : decode cX3_tryPaper 96 = .ok (.iload_n 3, 1) := by decide +kernel
theorem dX3_tryPaper_97 : decode cX3_tryPaper 97 = .ok (.iload 4, 2) := by decide +kernel
theorem dX3_tryPaper_99 : decode cX3_tryPaper 99 = .ok (.iload_n 1, 1) := by decide +kernel
theorem dX3_tryPaper_100 : decode cX3_tryPaper 100 = .ok (.invokevirtual 110, 3) := by decide +kernel
theorem dX3_tryPaper_103 : decode cX3_tryPaper 103 = .ok (.ifCond .eq 12, 3) := by decide +kernel
theorem dX3_tryPaper_106 : decode cX3_tryPaper 106 = .ok (.aload_n 0, 1) := by decide +kernel
theorem dX3_tryPaper_107 : decode cX3_tryPaper 107 = .ok (.iload_n 3, 1) := by decide +kernel
theorem dX3_tryPaper_108 : decode cX3_tryPaper 108 = .ok (.iload 4, 2) := by decide +kernel
theorem dX3_tryPaper_110 : decode cX3_tryPaper 110 = .ok (.iload_n 1, 1) := by decide +kernel
theorem dX3_tryPaper_111 : decode cX3_tryPaper 111 = .ok (.iload_n 2, 1) := by decide +kernel
theorem dX3_tryPaper_112 : decode cX3_tryPaper 112 = .ok (.invokevirtual 114, 3) := by decide +kernel
theorem dX3_tryPaper_115 : decode cX3_tryPaper 115 = .ok (.iinc 4 1, 3) := by decide +kernel
theorem dX3_tryPaper_118 : decode cX3_tryPaper 118 = .ok (.goto (-38), 3) := by decide +kernel
theorem dX3_tryPaper_121 : decode cX3_tryPaper 121 = .ok (.iinc 3 1, 3) := by decide +kernel
theorem dX3_tryPaper_124 : decode cX3_tryPaper 124 = .ok (.goto (-61), 3) := by decide +kernel
theorem dX3_tryPaper_127 : decode cX3_tryPaper 127 = .ok (.aload_n 0, 1) := by decide +kernel
theorem dX3_tryPaper_128 : decode cX3_tryPaper 128 = .ok (.getfield 24, 3) := by decide +kernel
theorem dX3_tryPaper_131 : decode cX3_tryPaper 131 = .ok (.iload_n 1, 1) := by decide +kernel
theorem dX3_tryPaper_132 : decode cX3_tryPaper 132 = .ok (.bipush (-2), 2) := by decide +kernel
theorem dX3_tryPaper_134 : decode cX3_tryPaper 134 = .ok (.iastore, 1) := by decide +kernel
theorem dX3_tryPaper_135 : decode cX3_tryPaper 135 = .ok (.aload_n 0, 1) := by decide +kernel
theorem dX3_tryPaper_136 : decode cX3_tryPaper 136 = .ok (.iload_n 1, 1) := by decide +kernel
theorem dX3_tryPaper_137 : decode cX3_tryPaper 137 = .ok (.iconst 1, 1) := by decide +kernel
theorem dX3_tryPaper_138 : decode cX3_tryPaper 138 = .ok (.iadd, 1) := by decide +kernel
theorem dX3_tryPaper_139 : decode cX3_tryPaper 139 = .ok (.iload_n 2, 1) := by decide +kernel
theorem dX3_tryPaper_140 : decode cX3_tryPaper 140 = .ok (.invokevirtual 67, 3) := by decide +kernel
theorem dX3_tryPaper_143 : decode cX3_tryPaper 143 = .ok (.return_, 1) := by decide +kernel
theorem dX3_canPress_0 : decode cX3_canPress 0 = .ok (.aload_n 0, 1) := by decide +kernel
theorem dX3_canPress_1 : decode cX3_canPress 1 = .ok (.getfield 9, 3) := by decide +kernel
theorem dX3_canPress_4 : decode cX3_canPress 4 = .ok (.iload_n 3, 1) := by decide +kernel
theorem dX3_canPress_5 : decode cX3_canPress 5 = .ok (.iaload, 1) := by decide +kernel
theorem dX3_canPress_6 : decode cX3_canPress 6 = .ok (.iload_n 1, 1) := by decide +kernel
theorem dX3_canPress_7 : decode cX3_canPress 7 = .ok (.iconst 3, 1) := by decide +kernel
theorem dX3_canPress_8 : decode cX3_canPress 8 = .ok (.imul, 1) := by decide +kernel
theorem dX3_canPress_9 : decode cX3_canPress 9 = .ok (.iload_n 2, 1) := by decide +kernel
theorem dX3_canPress_10 : decode cX3_canPress 10 = .ok (.iadd, 1) := by decide +kernel
theorem dX3_canPress_11 : decode cX3_canPress 11 = .ok (.invokestatic 118, 3) := by decide +kernel
theorem dX3_canPress_14 : decode cX3_canPress 14 = .ok (.ifCond .eq 25, 3) := by decide +kernel
theorem dX3_canPress_17 : decode cX3_canPress 17 = .ok (.aload_n 0, 1) := by decide +kernel
theorem dX3_canPress_18 : decode cX3_canPress 18 = .ok (.getfield 18, 3) := by decide +kernel
theorem dX3_canPress_21 : decode cX3_canPress 21 = .ok (.iload_n 1, 1) := by decide +kernel
theorem dX3_canPress_22 : decode cX3_canPress 22 = .ok (.iaload, 1) := by decide +kernel
theorem dX3_canPress_23 : decode cX3_canPress 23 = .ok (.ifCond .le 16, 3) := by decide +kernel
theorem dX3_canPress_26 : decode cX3_canPress 26 = .ok (.aload_n 0, 1) := by decide +kernel
theorem dX3_canPress_27 : decode cX3_canPress 27 = .ok (.getfield 21, 3) := by decide +kernel
theorem dX3_canPress_30 : decode cX3_canPress 30 = .ok (.iload_n 2, 1) := by decide +kernel
theorem dX3_canPress_31 : decode cX3_canPress 31 = .ok (.iaload, 1) := by decide +kernel
theorem dX3_canPress_32 : decode cX3_canPress 32 = .ok (.ifCond .le 7, 3) := by decide +kernel
theorem dX3_canPress_35 : decode cX3_canPress 35 = .ok (.iconst 1, 1) := by decide +kernel
theorem dX3_canPress_36 : decode cX3_canPress 36 = .ok (.goto 4, 3) := by decide +kernel
theorem dX3_canPress_39 : decode cX3_canPress 39 = .ok (.iconst 0, 1) := by decide +kernel
theorem dX3_canPress_40 : decode cX3_canPress 40 = .ok (.ireturn, 1) := by decide +kernel
theorem dX3_tryPair_0 : decode cX3_tryPair 0 = .ok (.aload_n 0, 1) := by decide +kernel
theorem dX3_tryPair_1 : decode cX3_tryPair 1 = .ok (.getfield 24, 3) := by decide +kernel
theorem dX3_tryPair_4 : decode cX3_tryPair 4 = .ok (.iload_n 3, 1) := by decide +kernel
theorem dX3_tryPair_5 : decode cX3_tryPair 5 = .ok (.bipush 10, 2) := by decide +kernel
theorem dX3_tryPair_7 : decode cX3_tryPair 7 = .ok (.iload_n 1, 1) := by decide +kernel
theorem dX3_tryPair_8 : decode cX3_tryPair 8 = .ok (.imul, 1) := by decide +kernel
theorem dX3_tryPair_9 : decode cX3_tryPair 9 = .ok (.iload_n 2, 1) := by decide +kernel
theorem dX3_tryPair_10 : decode cX3_tryPair 10 = .ok (.iadd, 1) := by decide +kernel
theorem dX3_tryPair_11 : decode cX3_tryPair 11 = .ok (.iastore, 1) := by decide +kernel
theorem dX3_tryPair_12 : decode cX3_tryPair 12 = .ok (.aload_n 0, 1) := by decide +kernel
theorem dX3_tryPair_13 : decode cX3_tryPair 13 = .ok (.getfield 18, 3) := by decide +kernel
theorem dX3_tryPair_16 : decode cX3_tryPair 16 = .ok (.iload_n 1, 1) := by decide +kernel
theorem dX3_tryPair_17 : decode cX3_tryPair 17 = .ok (.dup2, 1) := by decide +kernel
theorem dX3_tryPair_18 : decode cX3_tryPair 18 = .ok (.iaload, 1) := by decide +kernel
theorem dX3_tryPair_19 : decode cX3_tryPair 19 = .ok (.iconst 1, 1) := by decide +kernel
theorem dX3_tryPair_20 : decode cX3_tryPair 20 = .ok (.isub, 1) := by decide +kernel
theorem dX3_tryPair_21 : decode cX3_tryPair 21 = .ok (.iastore, 1) := by decide +kernel
theorem dX3_tryPair_22 : decode cX3_tryPair 22 = .ok (.aload_n 0, 1) := by decide +kernel
theorem dX3_tryPair_23 : decode cX3_tryPair 23 = .ok (.getfield 21, 3) := by decide +kernel
theorem dX3_tryPair_26 : decode cX3_tryPair 26 = .ok (.iload_n 2, 1) := by decide +kernel
theorem dX3_tryPair_27 : decode cX3_tryPair 27 = .ok (.dup2, 1) := by decide +kernel
theorem dX3_tryPair_28 : decode cX3_tryPair 28 = .ok (.iaload, 1) := by decide +kernel
theorem dX3_tryPair_29 : decode cX3_tryPair 29 = .ok (.iconst 1, 1) := by decide +kernel
theorem dX3_tryPair_30 : decode cX3_tryPair 30 = .ok (.isub, 1) := by decide +kernel
theorem dX3_tryPair_31 : decode cX3_tryPair 31 = .ok (.iastore, 1) := by decide +kernel
theorem dX3_tryPair_32 : decode cX3_tryPair 32 = .ok (.aload_n 0, 1) := by decide +kernel
theorem dX3_tryPair_33 : decode cX3_tryPair 33 = .ok (.iload_n 3, 1) := by decide +kernel
theorem dX3_tryPair_34 : decode cX3_tryPair 34 = .ok (.iconst 1, 1) := by decide +kernel
theorem dX3_tryPair_35 : decode cX3_tryPair 35 = .ok (.iadd, 1) := by decide +kernel
theorem dX3_tryPair_36 : decode cX3_tryPair 36 = .ok (.iload 4, 2) := by decide +kernel
theorem dX3_tryPair_38 : decode cX3_tryPair 38 = .ok (.iconst 1, 1) := by decide +kernel
theorem dX3_tryPair_39 : decode cX3_tryPair 39 = .ok (.iadd, 1) := by decide +kernel
theorem dX3_tryPair_40 : decode cX3_tryPair 40 = .ok (.invokevirtual 67, 3) := by decide +kernel
theorem dX3_tryPair_43 : decode cX3_tryPair 43 = .ok (.aload_n 0, 1) := by decide +kernel
theorem dX3_tryPair_44 : decode cX3_tryPair 44 = .ok (.getfield 18, 3) := by decide +kernel
theorem dX3_tryPair_47 : decode cX3_tryPair 47 = .ok (.iload_n 1, 1) := by decide +kernel
theorem dX3_tryPair_48 : decode cX3_tryPair 48 = .ok (.dup2, 1) := by decide +kernel
theorem dX3_tryPair_49 : decode cX3_tryPair 49 = .ok (.iaload, 1) := by decide +kernel
theorem dX3_tryPair_50 : decode cX3_tryPair 50 = .ok (.iconst 1, 1) := by decide +kernel
theorem dX3_tryPair_51 : decode cX3_tryPair 51 = .ok (.iadd, 1) := by decide +kernel
theorem dX3_tryPair_52 : decode cX3_tryPair 52 = .ok (.iastore, 1) := by decide +kernel
theorem dX3_tryPair_53 : decode cX3_tryPair 53 = .ok (.aload_n 0, 1) := by decide +kernel
theorem dX3_tryPair_54 : decode cX3_tryPair 54 = .ok (.getfield 21, 3) := by decide +kernel
theorem dX3_tryPair_57 : decode cX3_tryPair 57 = .ok (.iload_n 2, 1) := by decide +kernel
theorem dX3_tryPair_58 : decode cX3_tryPair 58 = .ok (.dup2, 1) := by decide +kernel
theorem dX3_tryPair_59 : decode cX3_tryPair 59 = .ok (.iaload, 1) := by decide +kernel
theorem dX3_tryPair_60 : decode cX3_tryPair 60 = .ok (.iconst 1, 1) := by decide +kernel
theorem dX3_tryPair_61 : decode cX3_tryPair 61 = .ok (.iadd, 1) := by decide +kernel
theorem dX3_tryPair_62 : decode cX3_tryPair 62 = .ok (.iastore, 1) := by decide +kernel
theorem dX3_tryPair_63 : decode cX3_tryPair 63 = .ok (.return_, 1) := by decide +kernel
theorem dX3_keepTried_0 : decode cX3_keepTried 0 = .ok (.aload_n 0, 1) := by decide +kernel
theorem dX3_keepTried_1 : decode cX3_keepTried 1 = .ok (.iload_n 1, 1) := by decide +kernel
theorem dX3_keepTried_2 : decode cX3_keepTried 2 = .ok (.putfield 64, 3) := by decide +kernel
theorem dX3_keepTried_5 : decode cX3_keepTried 5 = .ok (.iconst 0, 1) := by decide +kernel
theorem dX3_keepTried_6 : decode cX3_keepTried 6 = .ok (.istore_n 2, 1) := by decide +kernel
theorem dX3_keepTried_7 : decode cX3_keepTried 7 = .ok (.iload_n 2, 1) := by decide +kernel
theorem dX3_keepTried_8 : decode cX3_keepTried 8 = .ok (.aload_n 0, 1) := by decide +kernel
theorem dX3_keepTried_9 : decode cX3_keepTried 9 = .ok (.getfield 30, 3) := by decide +kernel
theorem dX3_keepTried_12 : decode cX3_keepTried 12 = .ok (.getfield 38, 3) := by decide +kernel
theorem dX3_keepTried_15 : decode cX3_keepTried 15 = .ok (.getfield 84, 3) := by decide +kernel
theorem dX3_keepTried_18 : decode cX3_keepTried 18 = .ok (.if_icmp .ge 21, 3) := by decide +kernel
theorem dX3_keepTried_21 : decode cX3_keepTried 21 = .ok (.aload_n 0, 1) := by decide +kernel
theorem dX3_keepTried_22 : decode cX3_keepTried 22 = .ok (.getfield 27, 3) := by decide +kernel
theorem dX3_keepTried_25 : decode cX3_keepTried 25 = .ok (.iload_n 2, 1) := by decide +kernel
theorem dX3_keepTried_26 : decode cX3_keepTried 26 = .ok (.aload_n 0, 1) := by decide +kernel
theorem dX3_keepTried_27 : decode cX3_keepTried 27 = .ok (.getfield 24, 3) := by decide +kernel
theorem dX3_keepTried_30 : decode cX3_keepTried 30 = .ok (.iload_n 2, 1) := by decide +kernel
theorem dX3_keepTried_31 : decode cX3_keepTried 31 = .ok (.iaload, 1) := by decide +kernel
theorem dX3_keepTried_32 : decode cX3_keepTried 32 = .ok (.iastore, 1) := by decide +kernel
theorem dX3_keepTried_33 : decode cX3_keepTried 33 = .ok (.iinc 2 1, 3) := by decide +kernel
theorem dX3_keepTried_36 : decode cX3_keepTried 36 = .ok (.goto (-29), 3) := by decide +kernel
theorem dX3_keepTried_39 : decode cX3_keepTried 39 = .ok (.return_, 1) := by decide +kernel
theorem dX4_init_0 : decode cX4_init 0 = .ok (.aload_n 0, 1) := by decide +kernel
theorem dX4_init_1 : decode cX4_init 1 = .ok (.invokespecial 5, 3) := by decide +kernel
theorem dX4_init_4 : decode cX4_init 4 = .ok (.aload_n 0, 1) := by decide +kernel
theorem dX4_init_5 : decode cX4_init 5 = .ok (.bipush 31, 2) := by decide +kernel
theorem dX4_init_7 : decode cX4_init 7 = .ok (.newarray .int, 2) := by decide +kernel
theorem dX4_init_9 : decode cX4_init 9 = .ok (.putfield 11, 3) := by decide +kernel
theorem dX4_init_12 : decode cX4_init 12 = .ok (.return_, 1) := by decide +kernel
theorem dX4_empty_0 : decode cX4_empty 0 = .ok (.iconst 0, 1) := by decide +kernel
theorem dX4_empty_1 : decode cX4_empty 1 = .ok (.istore_n 1, 1) := by decide +kernel
theorem dX4_empty_2 : decode cX4_empty 2 = .ok (.iload_n 1, 1) := by decide +kernel
theorem dX4_empty_3 : decode cX4_empty 3 = .ok (.bipush 31, 2) := by decide +kernel
theorem dX4_empty_5 : decode cX4_empty 5 = .ok (.if_icmp .ge 16, 3) := by decide +kernel
theorem dX4_empty_8 : decode cX4_empty 8 = .ok (.aload_n 0, 1) := by decide +kernel
theorem dX4_empty_9 : decode cX4_empty 9 = .ok (.getfield 11, 3) := by decide +kernel
theorem dX4_empty_12 : decode cX4_empty 12 = .ok (.iload_n 1, 1) := by decide +kernel
theorem dX4_empty_13 : decode cX4_empty 13 = .ok (.iconst 0, 1) := by decide +kernel
theorem dX4_empty_14 : decode cX4_empty 14 = .ok (.iastore, 1) := by decide +kernel
theorem dX4_empty_15 : decode cX4_empty 15 = .ok (.iinc 1 1, 3) := by decide +kernel
theorem dX4_empty_18 : decode cX4_empty 18 = .ok (.goto (-16), 3) := by decide +kernel
theorem dX4_empty_21 : decode cX4_empty 21 = .ok (.iconst 0, 1) := by decide +kernel
theorem dX4_empty_22 : decode cX4_empty 22 = .ok (.istore_n 1, 1) := by decide +kernel
theorem dX4_empty_23 : decode cX4_empty 23 = .ok (.iload_n 1, 1) := by decide +kernel
theorem dX4_empty_24 : decode cX4_empty 24 = .ok (.iconst 5, 1) := by decide +kernel
theorem dX4_empty_25 : decode cX4_empty 25 = .ok (.if_icmp .ge 19, 3) := by decide +kernel
theorem dX4_empty_28 : decode cX4_empty 28 = .ok (.aload_n 0, 1) := by decide +kernel
theorem dX4_empty_29 : decode cX4_empty 29 = .ok (.getfield 11, 3) := by decide +kernel
theorem dX4_empty_32 : decode cX4_empty 32 = .ok (.iconst 5, 1) := by decide +kernel
theorem dX4_empty_33 : decode cX4_empty 33 = .ok (.iload_n 1, 1) := by decide +kernel
theorem dX4_empty_34 : decode cX4_empty 34 = .ok (.iadd, 1) := by decide +kernel
theorem dX4_empty_35 : decode cX4_empty 35 = .ok (.bipush (-2), 2) := by decide +kernel
theorem dX4_empty_37 : decode cX4_empty 37 = .ok (.iastore, 1) := by decide +kernel
theorem dX4_empty_38 : decode cX4_empty 38 = .ok (.iinc 1 1, 3) := by decide +kernel
theorem dX4_empty_41 : decode cX4_empty 41 = .ok (.goto (-18), 3) := by decide +kernel
theorem dX4_empty_44 : decode cX4_empty 44 = .ok (.return_, 1) := by decide +kernel
theorem dX4_copyFrom_0 : decode cX4_copyFrom 0 = .ok (.iconst 0, 1) := by decide +kernel
theorem dX4_copyFrom_1 : decode cX4_copyFrom 1 = .ok (.istore_n 2, 1) := by decide +kernel
theorem dX4_copyFrom_2 : decode cX4_copyFrom 2 = .ok (.iload_n 2, 1) := by decide +kernel
theorem dX4_copyFrom_3 : decode cX4_copyFrom 3 = .ok (.bipush 31, 2) := by decide +kernel
theorem dX4_copyFrom_5 : decode cX4_copyFrom 5 = .ok (.if_icmp .ge 18, 3) := by decide +kernel
theorem dX4_copyFrom_8 : decode cX4_copyFrom 8 = .ok (.aload_n 0, 1) := by decide +kernel
theorem dX4_copyFrom_9 : decode cX4_copyFrom 9 = .ok (.getfield 11, 3) := by decide +kernel
theorem dX4_copyFrom_12 : decode cX4_copyFrom 12 = .ok (.iload_n 2, 1) := by decide +kernel
theorem dX4_copyFrom_13 : decode cX4_copyFrom 13 = .ok (.aload_n 1, 1) := by decide +kernel
theorem dX4_copyFrom_14 : decode cX4_copyFrom 14 = .ok (.iload_n 2, 1) := by decide +kernel
theorem dX4_copyFrom_15 : decode cX4_copyFrom 15 = .ok (.iaload, 1) := by decide +kernel
theorem dX4_copyFrom_16 : decode cX4_copyFrom 16 = .ok (.iastore, 1) := by decide +kernel
theorem dX4_copyFrom_17 : decode cX4_copyFrom 17 = .ok (.iinc 2 1, 3) := by decide +kernel
theorem dX4_copyFrom_20 : decode cX4_copyFrom 20 = .ok (.goto (-18), 3) := by decide +kernel
theorem dX4_copyFrom_23 : decode cX4_copyFrom 23 = .ok (.return_, 1) := by decide +kernel
theorem dX4_copyTo_0 : decode cX4_copyTo 0 = .ok (.iconst 0, 1) := by decide +kernel
theorem dX4_copyTo_1 : decode cX4_copyTo 1 = .ok (.istore_n 2, 1) := by decide +kernel
theorem dX4_copyTo_2 : decode cX4_copyTo 2 = .ok (.iload_n 2, 1) := by decide +kernel
theorem dX4_copyTo_3 : decode cX4_copyTo 3 = .ok (.bipush 31, 2) := by decide +kernel
theorem dX4_copyTo_5 : decode cX4_copyTo 5 = .ok (.if_icmp .ge 18, 3) := by decide +kernel
theorem dX4_copyTo_8 : decode cX4_copyTo 8 = .ok (.aload_n 1, 1) := by decide +kernel
theorem dX4_copyTo_9 : decode cX4_copyTo 9 = .ok (.iload_n 2, 1) := by decide +kernel
theorem dX4_copyTo_10 : decode cX4_copyTo 10 = .ok (.aload_n 0, 1) := by decide +kernel
theorem dX4_copyTo_11 : decode cX4_copyTo 11 = .ok (.getfield 11, 3) := by decide +kernel
theorem dX4_copyTo_14 : decode cX4_copyTo 14 = .ok (.iload_n 2, 1) := by decide +kernel
theorem dX4_copyTo_15 : decode cX4_copyTo 15 = .ok (.iaload, 1) := by decide +kernel
theorem dX4_copyTo_16 : decode cX4_copyTo 16 = .ok (.iastore, 1) := by decide +kernel
theorem dX4_copyTo_17 : decode cX4_copyTo 17 = .ok (.iinc 2 1, 3) := by decide +kernel
theorem dX4_copyTo_20 : decode cX4_copyTo 20 = .ok (.goto (-18), 3) := by decide +kernel
theorem dX4_copyTo_23 : decode cX4_copyTo 23 = .ok (.return_, 1) := by decide +kernel
theorem dX4_marksOf_0 : decode cX4_marksOf 0 = .ok (.aload_n 0, 1) := by decide +kernel
theorem dX4_marksOf_1 : decode cX4_marksOf 1 = .ok (.getfield 11, 3) := by decide +kernel
theorem dX4_marksOf_4 : decode cX4_marksOf 4 = .ok (.iconst 0, 1) := by decide +kernel
theorem dX4_marksOf_5 : decode cX4_marksOf 5 = .ok (.iload_n 1, 1) := by decide +kernel
theorem dX4_marksOf_6 : decode cX4_marksOf 6 = .ok (.iadd, 1) := by decide +kernel
theorem dX4_marksOf_7 : decode cX4_marksOf 7 = .ok (.iaload, 1) := by decide +kernel
theorem dX4_marksOf_8 : decode cX4_marksOf 8 = .ok (.ireturn, 1) := by decide +kernel
theorem dX4_setMarks_0 : decode cX4_setMarks 0 = .ok (.aload_n 0, 1) := by decide +kernel
theorem dX4_setMarks_1 : decode cX4_setMarks 1 = .ok (.getfield 11, 3) := by decide +kernel
theorem dX4_setMarks_4 : decode cX4_setMarks 4 = .ok (.iconst 0, 1) := by decide +kernel
theorem dX4_setMarks_5 : decode cX4_setMarks 5 = .ok (.iload_n 1, 1) := by decide +kernel
theorem dX4_setMarks_6 : decode cX4_setMarks 6 = .ok (.iadd, 1) := by decide +kernel
theorem dX4_setMarks_7 : decode cX4_setMarks 7 = .ok (.iload_n 2, 1) := by decide +kernel
theorem dX4_setMarks_8 : decode cX4_setMarks 8 = .ok (.iastore, 1) := by decide +kernel
theorem dX4_setMarks_9 : decode cX4_setMarks 9 = .ok (.return_, 1) := by decide +kernel
theorem dX4_latestOn_0 : decode cX4_latestOn 0 = .ok (.aload_n 0, 1) := by decide +kernel
theorem dX4_latestOn_1 : decode cX4_latestOn 1 = .ok (.getfield 11, 3) := by decide +kernel
theorem dX4_latestOn_4 : decode cX4_latestOn 4 = .ok (.iconst 5, 1) := by decide +kernel
theorem dX4_latestOn_5 : decode cX4_latestOn 5 = .ok (.iload_n 1, 1) := by decide +kernel
theorem dX4_latestOn_6 : decode cX4_latestOn 6 = .ok (.iadd, 1) := by decide +kernel
theorem dX4_latestOn_7 : decode cX4_latestOn 7 = .ok (.iaload, 1) := by decide +kernel
theorem dX4_latestOn_8 : decode cX4_latestOn 8 = .ok (.ireturn, 1) := by decide +kernel
theorem dX4_inkOf_0 : decode cX4_inkOf 0 = .ok (.aload_n 0, 1) := by decide +kernel
theorem dX4_inkOf_1 : decode cX4_inkOf 1 = .ok (.getfield 11, 3) := by decide +kernel
theorem dX4_inkOf_4 : decode cX4_inkOf 4 = .ok (.bipush 10, 2) := by decide +kernel
theorem dX4_inkOf_6 : decode cX4_inkOf 6 = .ok (.iload_n 1, 1) := by decide +kernel
theorem dX4_inkOf_7 : decode cX4_inkOf 7 = .ok (.iadd, 1) := by decide +kernel
theorem dX4_inkOf_8 : decode cX4_inkOf 8 = .ok (.iaload, 1) := by decide +kernel
theorem dX4_inkOf_9 : decode cX4_inkOf 9 = .ok (.ireturn, 1) := by decide +kernel
theorem dX4_setInk_0 : decode cX4_setInk 0 = .ok (.aload_n 0, 1) := by decide +kernel
theorem dX4_setInk_1 : decode cX4_setInk 1 = .ok (.getfield 11, 3) := by decide +kernel
theorem dX4_setInk_4 : decode cX4_setInk 4 = .ok (.bipush 10, 2) := by decide +kernel
theorem dX4_setInk_6 : decode cX4_setInk 6 = .ok (.iload_n 1, 1) := by decide +kernel
theorem dX4_setInk_7 : decode cX4_setInk 7 = .ok (.iadd, 1) := by decide +kernel
theorem dX4_setInk_8 : decode cX4_setInk 8 = .ok (.iload_n 2, 1) := by decide +kernel
theorem dX4_setInk_9 : decode cX4_setInk 9 = .ok (.iastore, 1) := by decide +kernel
theorem dX4_setInk_10 : decode cX4_setInk 10 = .ok (.return_, 1) := by decide +kernel
theorem dX4_verdictOf_0 : decode cX4_verdictOf 0 = .ok (.aload_n 0, 1) := by decide +kernel
theorem dX4_verdictOf_1 : decode cX4_verdictOf 1 = .ok (.getfield 11, 3) := by decide +kernel
theorem dX4_verdictOf_4 : decode cX4_verdictOf 4 = .ok (.bipush 18, 2) := by decide +kernel
theorem dX4_verdictOf_6 : decode cX4_verdictOf 6 = .ok (.iload_n 1, 1) := by decide +kernel
theorem dX4_verdictOf_7 : decode cX4_verdictOf 7 = .ok (.iadd, 1) := by decide +kernel
theorem dX4_verdictOf_8 : decode cX4_verdictOf 8 = .ok (.iaload, 1) := by decide +kernel
theorem dX4_verdictOf_9 : decode cX4_verdictOf 9 = .ok (.ireturn, 1) := by decide +kernel
theorem dX4_setVerdict_0 : decode cX4_setVerdict 0 = .ok (.aload_n 0, 1) := by decide +kernel
theorem dX4_setVerdict_1 : decode cX4_setVerdict 1 = .ok (.getfield 11, 3) := by decide +kernel
theorem dX4_setVerdict_4 : decode cX4_setVerdict 4 = .ok (.bipush 18, 2) := by decide +kernel
theorem dX4_setVerdict_6 : decode cX4_setVerdict 6 = .ok (.iload_n 1, 1) := by decide +kernel
theorem dX4_setVerdict_7 : decode cX4_setVerdict 7 = .ok (.iadd, 1) := by decide +kernel
theorem dX4_setVerdict_8 : decode cX4_setVerdict 8 = .ok (.iload_n 2, 1) := by decide +kernel
theorem dX4_setVerdict_9 : decode cX4_setVerdict 9 = .ok (.iastore, 1) := by decide +kernel
theorem dX4_setVerdict_10 : decode cX4_setVerdict 10 = .ok (.return_, 1) := by decide +kernel
theorem dX4_pressesOfStamp_0 : decode cX4_pressesOfStamp 0 = .ok (.aload_n 0, 1) := by decide +kernel
theorem dX4_pressesOfStamp_1 : decode cX4_pressesOfStamp 1 = .ok (.getfield 11, 3) := by decide +kernel
theorem dX4_pressesOfStamp_4 : decode cX4_pressesOfStamp 4 = .ok (.bipush 14, 2) := by decide +kernel
theorem dX4_pressesOfStamp_6 : decode cX4_pressesOfStamp 6 = .ok (.iload_n 1, 1) := by decide +kernel
theorem dX4_pressesOfStamp_7 : decode cX4_pressesOfStamp 7 = .ok (.iadd, 1) := by decide +kernel
theorem dX4_pressesOfStamp_8 : decode cX4_pressesOfStamp 8 = .ok (.iaload, 1) := by decide +kernel
theorem dX4_pressesOfStamp_9 : decode cX4_pressesOfStamp 9 = .ok (.ireturn, 1) := by decide +kernel
theorem dX4_pressesOfHand_0 : decode cX4_pressesOfHand 0 = .ok (.aload_n 0, 1) := by decide +kernel
theorem dX4_pressesOfHand_1 : decode cX4_pressesOfHand 1 = .ok (.getfield 11, 3) := by decide +kernel
theorem dX4_pressesOfHand_4 : decode cX4_pressesOfHand 4 = .ok (.bipush 28, 2) := by decide +kernel
theorem dX4_pressesOfHand_6 : decode cX4_pressesOfHand 6 = .ok (.iload_n 1, 1) := by decide +kernel
theorem dX4_pressesOfHand_7 : decode cX4_pressesOfHand 7 = .ok (.iadd, 1) := by decide +kernel
theorem dX4_pressesOfHand_8 : decode cX4_pressesOfHand 8 = .ok (.iaload, 1) := by decide +kernel
theorem dX4_pressesOfHand_9 : decode cX4_pressesOfHand 9 = .ok (.ireturn, 1) := by decide +kernel
theorem dX4_pressOnce_0 : decode cX4_pressOnce 0 = .ok (.aload_n 0, 1) := by decide +kernel
theorem dX4_pressOnce_1 : decode cX4_pressOnce 1 = .ok (.getfield 11, 3) := by decide +kernel
theorem dX4_pressOnce_4 : decode cX4_pressOnce 4 = .ok (.iconst 5, 1) := by decide +kernel
theorem dX4_pressOnce_5 : decode cX4_pressOnce 5 = .ok (.iload_n 3, 1) := by decide +kernel
theorem dX4_pressOnce_6 : decode cX4_pressOnce 6 = .ok (.iadd, 1) := by decide +kernel
theorem dX4_pressOnce_7 : decode cX4_pressOnce 7 = .ok (.iload 4, 2) := by decide +kernel
theorem dX4_pressOnce_9 : decode cX4_pressOnce 9 = .ok (.iastore, 1) := by decide +kernel
theorem dX4_pressOnce_10 : decode cX4_pressOnce 10 = .ok (.aload_n 0, 1) := by decide +kernel
theorem dX4_pressOnce_11 : decode cX4_pressOnce 11 = .ok (.getfield 11, 3) := by decide +kernel
theorem dX4_pressOnce_14 : decode cX4_pressOnce 14 = .ok (.bipush 10, 2) := by decide +kernel
theorem dX4_pressOnce_16 : decode cX4_pressOnce 16 = .ok (.iload_n 1, 1) := by decide +kernel
theorem dX4_pressOnce_17 : decode cX4_pressOnce 17 = .ok (.iadd, 1) := by decide +kernel
theorem dX4_pressOnce_18 : decode cX4_pressOnce 18 = .ok (.dup2, 1) := by decide +kernel
theorem dX4_pressOnce_19 : decode cX4_pressOnce 19 = .ok (.iaload, 1) := by decide +kernel
theorem dX4_pressOnce_20 : decode cX4_pressOnce 20 = .ok (.iconst 1, 1) := by decide +kernel
theorem dX4_pressOnce_21 : decode cX4_pressOnce 21 = .ok (.isub, 1) := by decide +kernel
theorem dX4_pressOnce_22 : decode cX4_pressOnce 22 = .ok (.iastore, 1) := by decide +kernel
theorem dX4_pressOnce_23 : decode cX4_pressOnce 23 = .ok (.aload_n 0, 1) := by decide +kernel
theorem dX4_pressOnce_24 : decode cX4_pressOnce 24 = .ok (.getfield 11, 3) := by decide +kernel
theorem dX4_pressOnce_27 : decode cX4_pressOnce 27 = .ok (.bipush 14, 2) := by decide +kernel
theorem dX4_pressOnce_29 : decode cX4_pressOnce 29 = .ok (.iload_n 1, 1) := by decide +kernel
theorem dX4_pressOnce_30 : decode cX4_pressOnce 30 = .ok (.iadd, 1) := by decide +kernel
theorem dX4_pressOnce_31 : decode cX4_pressOnce 31 = .ok (.dup2, 1) := by decide +kernel
theorem dX4_pressOnce_32 : decode cX4_pressOnce 32 = .ok (.iaload, 1) := by decide +kernel
theorem dX4_pressOnce_33 : decode cX4_pressOnce 33 = .ok (.iconst 1, 1) := by decide +kernel
theorem dX4_pressOnce_34 : decode cX4_pressOnce 34 = .ok (.iadd, 1) := by decide +kernel
theorem dX4_pressOnce_35 : decode cX4_pressOnce 35 = .ok (.iastore, 1) := by decide +kernel
theorem dX4_pressOnce_36 : decode cX4_pressOnce 36 = .ok (.aload_n 0, 1) := by decide +kernel
theorem dX4_pressOnce_37 : decode cX4_pressOnce 37 = .ok (.getfield 11, 3) := by decide +kernel
theorem dX4_pressOnce_40 : decode cX4_pressOnce 40 = .ok (.bipush 28, 2) := by decide +kernel
theorem dX4_pressOnce_42 : decode cX4_pressOnce 42 = .ok (.iload_n 2, 1) := by decide +kernel
theorem dX4_pressOnce_43 : decode cX4_pressOnce 43 = .ok (.iadd, 1) := by decide +kernel
theorem dX4_pressOnce_44 : decode cX4_pressOnce 44 = .ok (.dup2, 1) := by decide +kernel
theorem dX4_pressOnce_45 : decode cX4_pressOnce 45 = .ok (.iaload, 1) := by decide +kernel
theorem dX4_pressOnce_46 : decode cX4_pressOnce 46 = .ok (.iconst 1, 1) := by decide +kernel
theorem dX4_pressOnce_47 : decode cX4_pressOnce 47 = .ok (.iadd, 1) := by decide +kernel
theorem dX4_pressOnce_48 : decode cX4_pressOnce 48 = .ok (.iastore, 1) := by decide +kernel
theorem dX4_pressOnce_49 : decode cX4_pressOnce 49 = .ok (.return_, 1) := by decide +kernel
theorem dX4_pressesSoFar_0 : decode cX4_pressesSoFar 0 = .ok (.iconst 0, 1) := by decide +kernel
theorem dX4_pressesSoFar_1 : decode cX4_pressesSoFar 1 = .ok (.istore_n 1, 1) := by decide +kernel
theorem dX4_pressesSoFar_2 : decode cX4_pressesSoFar 2 = .ok (.iconst 0, 1) := by decide +kernel
theorem dX4_pressesSoFar_3 : decode cX4_pressesSoFar 3 = .ok (.istore_n 2, 1) := by decide +kernel
theorem dX4_pressesSoFar_4 : decode cX4_pressesSoFar 4 = .ok (.iload_n 2, 1) := by decide +kernel
theorem dX4_pressesSoFar_5 : decode cX4_pressesSoFar 5 = .ok (.iconst 3, 1) := by decide +kernel
theorem dX4_pressesSoFar_6 : decode cX4_pressesSoFar 6 = .ok (.if_icmp .ge 17, 3) := by decide +kernel
theorem dX4_pressesSoFar_9 : decode cX4_pressesSoFar 9 = .ok (.iload_n 1, 1) := by decide +kernel
theorem dX4_pressesSoFar_10 : decode cX4_pressesSoFar 10 = .ok (.aload_n 0, 1) := by decide +kernel
theorem dX4_pressesSoFar_11 : decode cX4_pressesSoFar 11 = .ok (.iload_n 2, 1) := by decide +kernel
theorem dX4_pressesSoFar_12 : decode cX4_pressesSoFar 12 = .ok (.invokevirtual 15, 3) := by decide +kernel
theorem dX4_pressesSoFar_15 : decode cX4_pressesSoFar 15 = .ok (.iadd, 1) := by decide +kernel
theorem dX4_pressesSoFar_16 : decode cX4_pressesSoFar 16 = .ok (.istore_n 1, 1) := by decide +kernel
theorem dX4_pressesSoFar_17 : decode cX4_pressesSoFar 17 = .ok (.iinc 2 1, 3) := by decide +kernel
theorem dX4_pressesSoFar_20 : decode cX4_pressesSoFar 20 = .ok (.goto (-16), 3) := by decide +kernel
theorem dX4_pressesSoFar_23 : decode cX4_pressesSoFar 23 = .ok (.iload_n 1, 1) := by decide +kernel
theorem dX4_pressesSoFar_24 : decode cX4_pressesSoFar 24 = .ok (.ireturn, 1) := by decide +kernel
theorem dX5_init_0 : decode cX5_init 0 = .ok (.aload_n 0, 1) := by decide +kernel
theorem dX5_init_1 : decode cX5_init 1 = .ok (.invokespecial 3, 3) := by decide +kernel
theorem dX5_init_4 : decode cX5_init 4 = .ok (.aload_n 0, 1) := by decide +kernel
theorem dX5_init_5 : decode cX5_init 5 = .ok (.new 9, 3) := by decide +kernel
theorem dX5_init_8 : decode cX5_init 8 = .ok (.dup, 1) := by decide +kernel
theorem dX5_init_9 : decode cX5_init 9 = .ok (.invokespecial 11, 3) := by decide +kernel
theorem dX5_init_12 : decode cX5_init 12 = .ok (.putfield 12, 3) := by decide +kernel
theorem dX5_init_15 : decode cX5_init 15 = .ok (.aload_n 0, 1) := by decide +kernel
theorem dX5_init_16 : decode cX5_init 16 = .ok (.new 18, 3) := by decide +kernel
theorem dX5_init_19 : decode cX5_init 19 = .ok (.dup, 1) := by decide +kernel
theorem dX5_init_20 : decode cX5_init 20 = .ok (.invokespecial 20, 3) := by decide +kernel
theorem dX5_init_23 : decode cX5_init 23 = .ok (.putfield 21, 3) := by decide +kernel
theorem dX5_init_26 : decode cX5_init 26 = .ok (.return_, 1) := by decide +kernel
theorem dX5_hasMark_0 : decode cX5_hasMark 0 = .ok (.iload_n 1, 1) := by decide +kernel
theorem dX5_hasMark_1 : decode cX5_hasMark 1 = .ok (.ifCond .lt 18, 3) := by decide +kernel
theorem dX5_hasMark_4 : decode cX5_hasMark 4 = .ok (.iload_n 1, 1) := by decide +kernel
theorem dX5_hasMark_5 : decode cX5_hasMark 5 = .ok (.aload_n 0, 1) := by decide +kernel
theorem dX5_hasMark_6 : decode cX5_hasMark 6 = .ok (.getfield 21, 3) := by decide +kernel
theorem dX5_hasMark_9 : decode cX5_hasMark 9 = .ok (.getfield 25, 3) := by decide +kernel
theorem dX5_hasMark_12 : decode cX5_hasMark 12 = .ok (.if_icmp .ge 7, 3) := by decide +kernel
theorem dX5_hasMark_15 : decode cX5_hasMark 15 = .ok (.iconst 1, 1) := by decide +kernel
theorem dX5_hasMark_16 : decode cX5_hasMark 16 = .ok (.goto 4, 3) := by decide +kernel
theorem dX5_hasMark_19 : decode cX5_hasMark 19 = .ok (.iconst 0, 1) := by decide +kernel
theorem dX5_hasMark_20 : decode cX5_hasMark 20 = .ok (.ireturn, 1) := by decide +kernel
theorem dX5_hasPaper_0 : decode cX5_hasPaper 0 = .ok (.iload_n 1, 1) := by decide +kernel
theorem dX5_hasPaper_1 : decode cX5_hasPaper 1 = .ok (.ifCond .lt 18, 3) := by decide +kernel
theorem dX5_hasPaper_4 : decode cX5_hasPaper 4 = .ok (.iload_n 1, 1) := by decide +kernel
theorem dX5_hasPaper_5 : decode cX5_hasPaper 5 = .ok (.aload_n 0, 1) := by decide +kernel
theorem dX5_hasPaper_6 : decode cX5_hasPaper 6 = .ok (.getfield 21, 3) := by decide +kernel
theorem dX5_hasPaper_9 : decode cX5_hasPaper 9 = .ok (.getfield 29, 3) := by decide +kernel
theorem dX5_hasPaper_12 : decode cX5_hasPaper 12 = .ok (.if_icmp .ge 7, 3) := by decide +kernel
theorem dX5_hasPaper_15 : decode cX5_hasPaper 15 = .ok (.iconst 1, 1) := by decide +kernel
theorem dX5_hasPaper_16 : decode cX5_hasPaper 16 = .ok (.goto 4, 3) := by decide +kernel
theorem dX5_hasPaper_19 : decode cX5_hasPaper 19 = .ok (.iconst 0, 1) := by decide +kernel
theorem dX5_hasPaper_20 : decode cX5_hasPaper 20 = .ok (.ireturn, 1) := by decide +kernel
theorem dX5_hasStamp_0 : decode cX5_hasStamp 0 = .ok (.iload_n 1, 1) := by decide +kernel
theorem dX5_hasStamp_1 : decode cX5_hasStamp 1 = .ok (.ifCond .lt 18, 3) := by decide +kernel
theorem dX5_hasStamp_4 : decode cX5_hasStamp 4 = .ok (.iload_n 1, 1) := by decide +kernel
theorem dX5_hasStamp_5 : decode cX5_hasStamp 5 = .ok (.aload_n 0, 1) := by decide +kernel
theorem dX5_hasStamp_6 : decode cX5_hasStamp 6 = .ok (.getfield 21, 3) := by decide +kernel
theorem dX5_hasStamp_9 : decode cX5_hasStamp 9 = .ok (.getfield 32, 3) := by decide +kernel
theorem dX5_hasStamp_12 : decode cX5_hasStamp 12 = .ok (.if_icmp .ge 7, 3) := by decide +kernel
theorem dX5_hasStamp_15 : decode cX5_hasStamp 15 = .ok (.iconst 1, 1) := by decide +kernel
theorem dX5_hasStamp_16 : decode cX5_hasStamp 16 = .ok (.goto 4, 3) := by decide +kernel
theorem dX5_hasStamp_19 : decode cX5_hasStamp 19 = .ok (.iconst 0, 1) := by decide +kernel
theorem dX5_hasStamp_20 : decode cX5_hasStamp 20 = .ok (.ireturn, 1) := by decide +kernel
theorem dX5_hasHand_0 : decode cX5_hasHand 0 = .ok (.iload_n 1, 1) := by decide +kernel
theorem dX5_hasHand_1 : decode cX5_hasHand 1 = .ok (.ifCond .lt 18, 3) := by decide +kernel
theorem dX5_hasHand_4 : decode cX5_hasHand 4 = .ok (.iload_n 1, 1) := by decide +kernel
theorem dX5_hasHand_5 : decode cX5_hasHand 5 = .ok (.aload_n 0, 1) := by decide +kernel
theorem dX5_hasHand_6 : decode cX5_hasHand 6 = .ok (.getfield 21, 3) := by decide +kernel
theorem dX5_hasHand_9 : decode cX5_hasHand 9 = .ok (.getfield 35, 3) := by decide +kernel
theorem dX5_hasHand_12 : decode cX5_hasHand 12 = .ok (.if_icmp .ge 7, 3) := by decide +kernel
theorem dX5_hasHand_15 : decode cX5_hasHand 15 = .ok (.iconst 1, 1) := by decide +kernel
theorem dX5_hasHand_16 : decode cX5_hasHand 16 = .ok (.goto 4, 3) := by decide +kernel
theorem dX5_hasHand_19 : decode cX5_hasHand 19 = .ok (.iconst 0, 1) := by decide +kernel
theorem dX5_hasHand_20 : decode cX5_hasHand 20 = .ok (.ireturn, 1) := by decide +kernel
theorem dX5_hasRule_0 : decode cX5_hasRule 0 = .ok (.iload_n 1, 1) := by decide +kernel
theorem dX5_hasRule_1 : decode cX5_hasRule 1 = .ok (.ifCond .lt 18, 3) := by decide +kernel
theorem dX5_hasRule_4 : decode cX5_hasRule 4 = .ok (.iload_n 1, 1) := by decide +kernel
theorem dX5_hasRule_5 : decode cX5_hasRule 5 = .ok (.aload_n 0, 1) := by decide +kernel
theorem dX5_hasRule_6 : decode cX5_hasRule 6 = .ok (.getfield 21, 3) := by decide +kernel
theorem dX5_hasRule_9 : decode cX5_hasRule 9 = .ok (.getfield 38, 3) := by decide +kernel
theorem dX5_hasRule_12 : decode cX5_hasRule 12 = .ok (.if_icmp .ge 7, 3) := by decide +kernel
theorem dX5_hasRule_15 : decode cX5_hasRule 15 = .ok (.iconst 1, 1) := by decide +kernel
theorem dX5_hasRule_16 : decode cX5_hasRule 16 = .ok (.goto 4, 3) := by decide +kernel
theorem dX5_hasRule_19 : decode cX5_hasRule 19 = .ok (.iconst 0, 1) := by decide +kernel
theorem dX5_hasRule_20 : decode cX5_hasRule 20 = .ok (.ireturn, 1) := by decide +kernel
theorem dX5_hasAll_0 : decode cX5_hasAll 0 = .ok (.aload_n 0, 1) := by decide +kernel
theorem dX5_hasAll_1 : decode cX5_hasAll 1 = .ok (.iload_n 1, 1) := by decide +kernel
theorem dX5_hasAll_2 : decode cX5_hasAll 2 = .ok (.invokevirtual 41, 3) := by decide +kernel
theorem dX5_hasAll_5 : decode cX5_hasAll 5 = .ok (.ifCond .eq 23, 3) := by decide +kernel
theorem dX5_hasAll_8 : decode cX5_hasAll 8 = .ok (.aload_n 0, 1) := by decide +kernel
theorem dX5_hasAll_9 : decode cX5_hasAll 9 = .ok (.iload_n 2, 1) := by decide +kernel
theorem dX5_hasAll_10 : decode cX5_hasAll 10 = .ok (.invokevirtual 45, 3) := by decide +kernel
theorem dX5_hasAll_13 : decode cX5_hasAll 13 = .ok (.ifCond .eq 15, 3) := by decide +kernel
theorem dX5_hasAll_16 : decode cX5_hasAll 16 = .ok (.aload_n 0, 1) := by decide +kernel
theorem dX5_hasAll_17 : decode cX5_hasAll 17 = .ok (.iload_n 3, 1) := by decide +kernel
theorem dX5_hasAll_18 : decode cX5_hasAll 18 = .ok (.invokevirtual 48, 3) := by decide +kernel
theorem dX5_hasAll_21 : decode cX5_hasAll 21 = .ok (.ifCond .eq 7, 3) := by decide +kernel
theorem dX5_hasAll_24 : decode cX5_hasAll 24 = .ok (.iconst 1, 1) := by decide +kernel
theorem dX5_hasAll_25 : decode cX5_hasAll 25 = .ok (.goto 4, 3) := by decide +kernel
theorem dX5_hasAll_28 : decode cX5_hasAll 28 = .ok (.iconst 0, 1) := by decide +kernel
theorem dX5_hasAll_29 : decode cX5_hasAll 29 = .ok (.ireturn, 1) := by decide +kernel
theorem dX5_firstRule_0 : decode cX5_firstRule 0 = .ok (.iconst 0, 1) := by decide +kernel
theorem dX5_firstRule_1 : decode cX5_firstRule 1 = .ok (.istore_n 3, 1) := by decide +kernel
theorem dX5_firstRule_2 : decode cX5_firstRule 2 = .ok (.iload_n 3, 1) := by decide +kernel
theorem dX5_firstRule_3 : decode cX5_firstRule 3 = .ok (.aload_n 0, 1) := by decide +kernel
theorem dX5_firstRule_4 : decode cX5_firstRule 4 = .ok (.getfield 21, 3) := by decide +kernel
theorem dX5_firstRule_7 : decode cX5_firstRule 7 = .ok (.getfield 38, 3) := by decide +kernel
theorem dX5_firstRule_10 : decode cX5_firstRule 10 = .ok (.if_icmp .ge 49, 3) := by decide +kernel
theorem dX5_firstRule_13 : decode cX5_firstRule 13 = .ok (.aload_n 0, 1) := by decide +kernel
theorem dX5_firstRule_14 : decode cX5_firstRule 14 = .ok (.getfield 21, 3) := by decide +kernel
theorem dX5_firstRule_17 : decode cX5_firstRule 17 = .ok (.getfield 51, 3) := by decide +kernel
theorem dX5_firstRule_20 : decode cX5_firstRule 20 = .ok (.iload_n 3, 1) := by decide +kernel
theorem dX5_firstRule_21 : decode cX5_firstRule 21 = .ok (.iaload, 1) := by decide +kernel
theorem dX5_firstRule_22 : decode cX5_firstRule 22 = .ok (.iload_n 1, 1) := by decide +kernel
theorem dX5_firstRule_23 : decode cX5_firstRule 23 = .ok (.if_icmp .ne 30, 3) := by decide +kernel
theorem dX5_firstRule_26 : decode cX5_firstRule 26 = .ok (.iload_n 2, 1) := by decide +kernel
theorem dX5_firstRule_27 : decode cX5_firstRule 27 = .ok (.aload_n 0, 1) := by decide +kernel
theorem dX5_firstRule_28 : decode cX5_firstRule 28 = .ok (.getfield 21, 3) := by decide +kernel
theorem dX5_firstRule_31 : decode cX5_firstRule 31 = .ok (.getfield 55, 3) := by decide +kernel
theorem dX5_firstRule_34 : decode cX5_firstRule 34 = .ok (.iload_n 3, 1) := by decide +kernel
theorem dX5_firstRule_35 : decode cX5_firstRule 35 = .ok (.iaload, 1) := by decide +kernel
theorem dX5_firstRule_36 : decode cX5_firstRule 36 = .ok (.ishr, 1) := by decide +kernel
theorem dX5_firstRule_37 : decode cX5_firstRule 37 = .ok (.iconst 1, 1) := by decide +kernel
theorem dX5_firstRule_38 : decode cX5_firstRule 38 = .ok (.iand, 1) := by decide +kernel
theorem dX5_firstRule_39 : decode cX5_firstRule 39 = .ok (.aload_n 0, 1) := by decide +kernel
theorem dX5_firstRule_40 : decode cX5_firstRule 40 = .ok (.getfield 21, 3) := by decide +kernel
theorem dX5_firstRule_43 : decode cX5_firstRule 43 = .ok (.getfield 58, 3) := by decide +kernel
theorem dX5_firstRule_46 : decode cX5_firstRule 46 = .ok (.iload_n 3, 1) := by decide +kernel
theorem dX5_firstRule_47 : decode cX5_firstRule 47 = .ok (.iaload, 1) := by decide +kernel
theorem dX5_firstRule_48 : decode cX5_firstRule 48 = .ok (.if_icmp .eq 5, 3) := by decide +kernel
theorem dX5_firstRule_51 : decode cX5_firstRule 51 = .ok (.iload_n 3, 1) := by decide +kernel
theorem dX5_firstRule_52 : decode cX5_firstRule 52 = .ok (.ireturn, 1) := by decide +kernel
theorem dX5_firstRule_53 : decode cX5_firstRule 53 = .ok (.iinc 3 1, 3) := by decide +kernel
theorem dX5_firstRule_56 : decode cX5_firstRule 56 = .ok (.goto (-54), 3) := by decide +kernel
theorem dX5_firstRule_59 : decode cX5_firstRule 59 = .ok (.bipush (-2), 2) := by decide +kernel
theorem dX5_firstRule_61 : decode cX5_firstRule 61 = .ok (.ireturn, 1) := by decide +kernel
theorem dX5_sayOf_0 : decode cX5_sayOf 0 = .ok (.aload_n 0, 1) := by decide +kernel
theorem dX5_sayOf_1 : decode cX5_sayOf 1 = .ok (.iload_n 1, 1) := by decide +kernel
theorem dX5_sayOf_2 : decode cX5_sayOf 2 = .ok (.iload_n 2, 1) := by decide +kernel
theorem dX5_sayOf_3 : decode cX5_sayOf 3 = .ok (.invokevirtual 61, 3) := by decide +kernel
theorem dX5_sayOf_6 : decode cX5_sayOf 6 = .ok (.istore_n 3, 1) := by decide +kernel
theorem dX5_sayOf_7 : decode cX5_sayOf 7 = .ok (.iload_n 3, 1) := by decide +kernel
theorem dX5_sayOf_8 : decode cX5_sayOf 8 = .ok (.ifCond .lt 14, 3) := by decide +kernel
theorem dX5_sayOf_11 : decode cX5_sayOf 11 = .ok (.aload_n 0, 1) := by decide +kernel
theorem dX5_sayOf_12 : decode cX5_sayOf 12 = .ok (.getfield 12, 3) := by decide +kernel
theorem dX5_sayOf_15 : decode cX5_sayOf 15 = .ok (.iload_n 3, 1) := by decide +kernel
theorem dX5_sayOf_16 : decode cX5_sayOf 16 = .ok (.invokevirtual 65, 3) := by decide +kernel
theorem dX5_sayOf_19 : decode cX5_sayOf 19 = .ok (.goto 12, 3) := by decide +kernel
theorem dX5_sayOf_22 : decode cX5_sayOf 22 = .ok (.aload_n 0, 1) := by decide +kernel
theorem dX5_sayOf_23 : decode cX5_sayOf 23 = .ok (.getfield 21, 3) := by decide +kernel
theorem dX5_sayOf_26 : decode cX5_sayOf 26 = .ok (.getfield 69, 3) := by decide +kernel
theorem dX5_sayOf_29 : decode cX5_sayOf 29 = .ok (.iload_n 1, 1) := by decide +kernel
theorem dX5_sayOf_30 : decode cX5_sayOf 30 = .ok (.iaload, 1) := by decide +kernel
theorem dX5_sayOf_31 : decode cX5_sayOf 31 = .ok (.ireturn, 1) := by decide +kernel
theorem dX5_sayOn_0 : decode cX5_sayOn 0 = .ok (.aload_n 0, 1) := by decide +kernel
theorem dX5_sayOn_1 : decode cX5_sayOn 1 = .ok (.iload_n 1, 1) := by decide +kernel
theorem dX5_sayOn_2 : decode cX5_sayOn 2 = .ok (.aload_n 0, 1) := by decide +kernel
theorem dX5_sayOn_3 : decode cX5_sayOn 3 = .ok (.getfield 12, 3) := by decide +kernel
theorem dX5_sayOn_6 : decode cX5_sayOn 6 = .ok (.iload_n 2, 1) := by decide +kernel
theorem dX5_sayOn_7 : decode cX5_sayOn 7 = .ok (.invokevirtual 72, 3) := by decide +kernel
theorem dX5_sayOn_10 : decode cX5_sayOn 10 = .ok (.invokevirtual 75, 3) := by decide +kernel
theorem dX5_sayOn_13 : decode cX5_sayOn 13 = .ok (.ireturn, 1) := by decide +kernel
theorem dX5_printBy_0 : decode cX5_printBy 0 = .ok (.aload_n 0, 1) := by decide +kernel
theorem dX5_printBy_1 : decode cX5_printBy 1 = .ok (.getfield 21, 3) := by decide +kernel
theorem dX5_printBy_4 : decode cX5_printBy 4 = .ok (.getfield 78, 3) := by decide +kernel
theorem dX5_printBy_7 : decode cX5_printBy 7 = .ok (.iload_n 1, 1) := by decide +kernel
theorem dX5_printBy_8 : decode cX5_printBy 8 = .ok (.iaload, 1) := by decide +kernel
theorem dX5_printBy_9 : decode cX5_printBy 9 = .ok (.tableswitch 69 1 3 #[27, 38, 49], 27) := by decide +kernel
theorem dX5_printBy_36 : decode cX5_printBy 36 = .ok (.iload_n 2, 1) := by decide +kernel
theorem dX5_printBy_37 : decode cX5_printBy 37 = .ok (.iconst 2, 1) := by decide +kernel
theorem dX5_printBy_38 : decode cX5_printBy 38 = .ok (.if_icmp .ne 7, 3) := by decide +kernel
theorem dX5_printBy_41 : decode cX5_printBy 41 = .ok (.iconst 1, 1) := by decide +kernel
theorem dX5_printBy_42 : decode cX5_printBy 42 = .ok (.goto 4, 3) := by decide +kernel
theorem dX5_printBy_45 : decode cX5_printBy 45 = .ok (.iload_n 2, 1) := by decide +kernel
theorem dX5_printBy_46 : decode cX5_printBy 46 = .ok (.ireturn, 1) := by decide +kernel
theorem dX5_printBy_47 : decode cX5_printBy 47 = .ok (.iload_n 2, 1) := by decide +kernel
theorem dX5_printBy_48 : decode cX5_printBy 48 = .ok (.iconst 2, 1) := by decide +kernel
theorem dX5_printBy_49 : decode cX5_printBy 49 = .ok (.if_icmp .ne 7, 3) := by decide +kernel
theorem dX5_printBy_52 : decode cX5_printBy 52 = .ok (.iconst 0, 1) := by decide +kernel
theorem dX5_printBy_53 : decode cX5_printBy 53 = .ok (.goto 4, 3) := by decide +kernel
theorem dX5_printBy_56 : decode cX5_printBy 56 = .ok (.iload_n 2, 1) := by decide +kernel
theorem dX5_printBy_57 : decode cX5_printBy 57 = .ok (.ireturn, 1) := by decide +kernel
theorem dX5_printBy_58 : decode cX5_printBy 58 = .ok (.iload_n 2, 1) := by decide +kernel
theorem dX5_printBy_59 : decode cX5_printBy 59 = .ok (.iconst 2, 1) := by decide +kernel
theorem dX5_printBy_60 : decode cX5_printBy 60 = .ok (.if_icmp .ne 7, 3) := by decide +kernel
theorem dX5_printBy_63 : decode cX5_printBy 63 = .ok (.iconst 2, 1) := by decide +kernel
theorem dX5_printBy_64 : decode cX5_printBy 64 = .ok (.goto 13, 3) := by decide +kernel
theorem dX5_printBy_67 : decode cX5_printBy 67 = .ok (.iload_n 2, 1) := by decide +kernel
theorem dX5_printBy_68 : decode cX5_printBy 68 = .ok (.iconst 1, 1) := by decide +kernel
theorem dX5_printBy_69 : decode cX5_printBy 69 = .ok (.if_icmp .ne 7, 3) := by decide +kernel
theorem dX5_printBy_72 : decode cX5_printBy 72 = .ok (.iconst 0, 1) := by decide +kernel
theorem dX5_printBy_73 : decode cX5_printBy 73 = .ok (.goto 4, 3) := by decide +kernel
theorem dX5_printBy_76 : decode cX5_printBy 76 = .ok (.iconst 1, 1) := by decide +kernel
theorem dX5_printBy_77 : decode cX5_printBy 77 = .ok (.ireturn, 1) := by decide +kernel
theorem dX5_printBy_78 : decode cX5_printBy 78 = .ok (.iload_n 2, 1) := by decide +kernel
theorem dX5_printBy_79 : decode cX5_printBy 79 = .ok (.ireturn, 1) := by decide +kernel
theorem dX5_hundredths_0 : decode cX5_hundredths 0 = .ok (.aload_n 0, 1) := by decide +kernel
theorem dX5_hundredths_1 : decode cX5_hundredths 1 = .ok (.getfield 21, 3) := by decide +kernel
theorem dX5_hundredths_4 : decode cX5_hundredths 4 = .ok (.getfield 81, 3) := by decide +kernel
theorem dX5_hundredths_7 : decode cX5_hundredths 7 = .ok (.iload_n 1, 1) := by decide +kernel
theorem dX5_hundredths_8 : decode cX5_hundredths 8 = .ok (.iaload, 1) := by decide +kernel
theorem dX5_hundredths_9 : decode cX5_hundredths 9 = .ok (.istore 4, 2) := by decide +kernel
theorem dX5_hundredths_11 : decode cX5_hundredths 11 = .ok (.iload_n 3, 1) := by decide +kernel
theorem dX5_hundredths_12 : decode cX5_hundredths 12 = .ok (.iconst 2, 1) := by decide +kernel
theorem dX5_hundredths_13 : decode cX5_hundredths 13 = .ok (.if_icmp .ne 8, 3) := by decide +kernel
theorem dX5_hundredths_16 : decode cX5_hundredths 16 = .ok (.iload 4, 2) := by decide +kernel
theorem dX5_hundredths_18 : decode cX5_hundredths 18 = .ok (.goto 4, 3) := by decide +kernel
theorem dX5_hundredths_21 : decode cX5_hundredths 21 = .ok (.iconst 0, 1) := by decide +kernel
theorem dX5_hundredths_22 : decode cX5_hundredths 22 = .ok (.istore 5, 2) := by decide +kernel
theorem dX5_hundredths_24 : decode cX5_hundredths 24 = .ok (.iload 5, 2) := by decide +kernel
theorem dX5_hundredths_26 : decode cX5_hundredths 26 = .ok (.aload_n 0, 1) := by decide +kernel
theorem dX5_hundredths_27 : decode cX5_hundredths 27 = .ok (.iload_n 1, 1) := by decide +kernel
theorem dX5_hundredths_28 : decode cX5_hundredths 28 = .ok (.iload_n 2, 1) := by decide +kernel
theorem dX5_hundredths_29 : decode cX5_hundredths 29 = .ok (.invokevirtual 84, 3) := by decide +kernel
theorem dX5_hundredths_32 : decode cX5_hundredths 32 = .ok (.iload_n 3, 1) := by decide +kernel
theorem dX5_hundredths_33 : decode cX5_hundredths 33 = .ok (.if_icmp .ne 11, 3) := by decide +kernel
theorem dX5_hundredths_36 : decode cX5_hundredths 36 = .ok (.bipush 100, 2) := by decide +kernel
theorem dX5_hundredths_38 : decode cX5_hundredths 38 = .ok (.iload 4, 2) := by decide +kernel
theorem dX5_hundredths_40 : decode cX5_hundredths 40 = .ok (.isub, 1) := by decide +kernel
theorem dX5_hundredths_41 : decode cX5_hundredths 41 = .ok (.goto 4, 3) := by decide +kernel
theorem dX5_hundredths_44 : decode cX5_hundredths 44 = .ok (.iconst 0, 1) := by decide +kernel
theorem dX5_hundredths_45 : decode cX5_hundredths 45 = .ok (.iadd, 1) := by decide +kernel
theorem dX5_hundredths_46 : decode cX5_hundredths 46 = .ok (.ireturn, 1) := by decide +kernel
theorem dX5_worthOfYes_0 : decode cX5_worthOfYes 0 = .ok (.lconst 0, 1) := by decide +kernel
theorem dX5_worthOfYes_1 : decode cX5_worthOfYes 1 = .ok (.lstore_n 3, 1) := by decide +kernel
theorem dX5_worthOfYes_2 : decode cX5_worthOfYes 2 = .ok (.iconst 0, 1) := by decide +kernel
theorem dX5_worthOfYes_3 : decode cX5_worthOfYes 3 = .ok (.istore 5, 2) := by decide +kernel
theorem dX5_worthOfYes_5 : decode cX5_worthOfYes 5 = .ok (.iload 5, 2) := by decide +kernel
theorem dX5_worthOfYes_7 : decode cX5_worthOfYes 7 = .ok (.aload_n 0, 1) := by decide +kernel
theorem dX5_worthOfYes_8 : decode cX5_worthOfYes 8 = .ok (.getfield 21, 3) := by decide +kernel
theorem dX5_worthOfYes_11 : decode cX5_worthOfYes 11 = .ok (.getfield 29, 3) := by decide +kernel
theorem dX5_worthOfYes_14 : decode cX5_worthOfYes 14 = .ok (.if_icmp .ge 37, 3) := by decide +kernel
theorem dX5_worthOfYes_17 : decode cX5_worthOfYes 17 = .ok (.lload_n 3, 1) := by decide +kernel
theorem dX5_worthOfYes_18 : decode cX5_worthOfYes 18 = .ok (.aload_n 0, 1) := by decide +kernel
theorem dX5_worthOfYes_19 : decode cX5_worthOfYes 19 = .ok (.getfield 21, 3) := by decide +kernel
theorem dX5_worthOfYes_22 : decode cX5_worthOfYes 22 = .ok (.getfield 87, 3) := by decide +kernel
theorem dX5_worthOfYes_25 : decode cX5_worthOfYes 25 = .ok (.iload 5, 2) := by decide +kernel
theorem dX5_worthOfYes_27 : decode cX5_worthOfYes 27 = .ok (.iaload, 1) := by decide +kernel
theorem dX5_worthOfYes_28 : decode cX5_worthOfYes 28 = .ok (.aload_n 0, 1) := by decide +kernel
theorem dX5_worthOfYes_29 : decode cX5_worthOfYes 29 = .ok (.iload_n 2, 1) := by decide +kernel
theorem dX5_worthOfYes_30 : decode cX5_worthOfYes 30 = .ok (.aload_n 0, 1) := by decide +kernel
theorem dX5_worthOfYes_31 : decode cX5_worthOfYes 31 = .ok (.iload_n 1, 1) := by decide +kernel
theorem dX5_worthOfYes_32 : decode cX5_worthOfYes 32 = .ok (.iload 5, 2) := by decide +kernel
theorem dX5_worthOfYes_34 : decode cX5_worthOfYes 34 = .ok (.invokevirtual 90, 3) := by decide +kernel
theorem dX5_worthOfYes_37 : decode cX5_worthOfYes 37 = .ok (.iconst 1, 1) := by decide +kernel
theorem dX5_worthOfYes_38 : decode cX5_worthOfYes 38 = .ok (.invokevirtual 93, 3) := by decide +kernel
theorem dX5_worthOfYes_41 : decode cX5_worthOfYes 41 = .ok (.imul, 1) := by decide +kernel
theorem dX5_worthOfYes_42 : decode cX5_worthOfYes 42 = .ok (.i2l, 1) := by decide +kernel
theorem dX5_worthOfYes_43 : decode cX5_worthOfYes 43 = .ok (.ladd, 1) := by decide +kernel
theorem dX5_worthOfYes_44 : decode cX5_worthOfYes 44 = .ok (.lstore_n 3, 1) := by decide +kernel
theorem dX5_worthOfYes_45 : decode cX5_worthOfYes 45 = .ok (.iinc 5 1, 3) := by decide +kernel
theorem dX5_worthOfYes_48 : decode cX5_worthOfYes 48 = .ok (.goto (-43), 3) := by decide +kernel
theorem dX5_worthOfYes_51 : decode cX5_worthOfYes 51 = .ok (.lload_n 3, 1) := by decide +kernel
theorem dX5_worthOfYes_52 : decode cX5_worthOfYes 52 = .ok (.lreturn, 1) := by decide +kernel
theorem dX5_stampsThatSay_0 : decode cX5_stampsThatSay 0 = .ok (.iconst 0, 1) := by decide +kernel
theorem dX5_stampsThatSay_1 : decode cX5_stampsThatSay 1 = .ok (.istore_n 3, 1) := by decide +kernel
theorem dX5_stampsThatSay_2 : decode cX5_stampsThatSay 2 = .ok (.iconst 0, 1) := by decide +kernel
theorem dX5_stampsThatSay_3 : decode cX5_stampsThatSay 3 = .ok (.istore 4, 2) := by decide +kernel
theorem dX5_stampsThatSay_5 : decode cX5_stampsThatSay 5 = .ok (.iload 4, 2) := by decide +kernel
theorem dX5_stampsThatSay_7 : decode cX5_stampsThatSay 7 = .ok (.aload_n 0, 1) := by decide +kernel
theorem dX5_stampsThatSay_8 : decode cX5_stampsThatSay 8 = .ok (.getfield 21, 3) := by decide +kernel
theorem dX5_stampsThatSay_11 : decode cX5_stampsThatSay 11 = .ok (.getfield 32, 3) := by decide +kernel
theorem dX5_stampsThatSay_14 : decode cX5_stampsThatSay 14 = .ok (.if_icmp .ge 27, 3) := by decide +kernel
theorem dX5_stampsThatSay_17 : decode cX5_stampsThatSay 17 = .ok (.aload_n 0, 1) := by decide +kernel
theorem dX5_stampsThatSay_18 : decode cX5_stampsThatSay 18 = .ok (.iload 4, 2) := by decide +kernel
theorem dX5_stampsThatSay_20 : decode cX5_stampsThatSay 20 = .ok (.iload_n 1, 1) := by decide +kernel
theorem dX5_stampsThatSay_21 : decode cX5_stampsThatSay 21 = .ok (.invokevirtual 75, 3) := by decide +kernel
theorem dX5_stampsThatSay_24 : decode cX5_stampsThatSay 24 = .ok (.iload_n 2, 1) := by decide +kernel
theorem dX5_stampsThatSay_25 : decode cX5_stampsThatSay 25 = .ok (.if_icmp .ne 10, 3) := by decide +kernel
theorem dX5_stampsThatSay_28 : decode cX5_stampsThatSay 28 = .ok (.iload_n 3, 1) := by decide +kernel
theorem dX5_stampsThatSay_29 : decode cX5_stampsThatSay 29 = .ok (.iconst 1, 1) := by decide +kernel
theorem dX5_stampsThatSay_30 : decode cX5_stampsThatSay 30 = .ok (.iload 4, 2) := by decide +kernel
theorem dX5_stampsThatSay_32 : decode cX5_stampsThatSay 32 = .ok (.ishl, 1) := by decide +kernel
theorem dX5_stampsThatSay_33 : decode cX5_stampsThatSay 33 = .ok (.ior, 1) := by decide +kernel
theorem dX5_stampsThatSay_34 : decode cX5_stampsThatSay 34 = .ok (.istore_n 3, 1) := by decide +kernel
theorem dX5_stampsThatSay_35 : decode cX5_stampsThatSay 35 = .ok (.iinc 4 1, 3) := by decide +kernel
theorem dX5_stampsThatSay_38 : decode cX5_stampsThatSay 38 = .ok (.goto (-33), 3) := by decide +kernel
theorem dX5_stampsThatSay_41 : decode cX5_stampsThatSay 41 = .ok (.iload_n 3, 1) := by decide +kernel
theorem dX5_stampsThatSay_42 : decode cX5_stampsThatSay 42 = .ok (.ireturn, 1) := by decide +kernel
theorem dX5_rulesNeverFirst_0 : decode cX5_rulesNeverFirst 0 = .ok (.iconst 0, 1) := by decide +kernel
theorem dX5_rulesNeverFirst_1 : decode cX5_rulesNeverFirst 1 = .ok (.istore_n 2, 1) := by decide +kernel
theorem dX5_rulesNeverFirst_2 : decode cX5_rulesNeverFirst 2 = .ok (.iconst 0, 1) := by decide +kernel
theorem dX5_rulesNeverFirst_3 : decode cX5_rulesNeverFirst 3 = .ok (.istore_n 3, 1) := by decide +kernel
theorem dX5_rulesNeverFirst_4 : decode cX5_rulesNeverFirst 4 = .ok (.iload_n 3, 1) := by decide +kernel
theorem dX5_rulesNeverFirst_5 : decode cX5_rulesNeverFirst 5 = .ok (.aload_n 0, 1) := by decide +kernel
theorem dX5_rulesNeverFirst_6 : decode cX5_rulesNeverFirst 6 = .ok (.getfield 21, 3) := by decide +kernel
theorem dX5_rulesNeverFirst_9 : decode cX5_rulesNeverFirst 9 = .ok (.getfield 38, 3) := by decide +kernel
theorem dX5_rulesNeverFirst_12 : decode cX5_rulesNeverFirst 12 = .ok (.if_icmp .ge 28, 3) := by decide +kernel
theorem dX5_rulesNeverFirst_15 : decode cX5_rulesNeverFirst 15 = .ok (.aload_n 0, 1) := by decide +kernel
theorem dX5_rulesNeverFirst_16 : decode cX5_rulesNeverFirst 16 = .ok (.getfield 21, 3) := by decide +kernel
theorem dX5_rulesNeverFirst_19 : decode cX5_rulesNeverFirst 19 = .ok (.getfield 51, 3) := by decide +kernel
theorem dX5_rulesNeverFirst_22 : decode cX5_rulesNeverFirst 22 = .ok (.iload_n 3, 1) := by decide +kernel
theorem dX5_rulesNeverFirst_23 : decode cX5_rulesNeverFirst 23 = .ok (.iaload, 1) := by decide +kernel
theorem dX5_rulesNeverFirst_24 : decode cX5_rulesNeverFirst 24 = .ok (.iload_n 1, 1) := by decide +kernel
theorem dX5_rulesNeverFirst_25 : decode cX5_rulesNeverFirst 25 = .ok (.if_icmp .ne 9, 3) := by decide +kernel
theorem dX5_rulesNeverFirst_28 : decode cX5_rulesNeverFirst 28 = .ok (.iload_n 2, 1) := by decide +kernel
theorem dX5_rulesNeverFirst_29 : decode cX5_rulesNeverFirst 29 = .ok (.iconst 1, 1) := by decide +kernel
theorem dX5_rulesNeverFirst_30 : decode cX5_rulesNeverFirst 30 = .ok (.iload_n 3, 1) := by decide +kernel
theorem dX5_rulesNeverFirst_31 : decode cX5_rulesNeverFirst 31 = .ok (.ishl, 1) := by decide +kernel
theorem dX5_rulesNeverFirst_32 : decode cX5_rulesNeverFirst 32 = .ok (.ior, 1) := by decide +kernel
theorem dX5_rulesNeverFirst_33 : decode cX5_rulesNeverFirst 33 = .ok (.istore_n 2, 1) := by decide +kernel
theorem dX5_rulesNeverFirst_34 : decode cX5_rulesNeverFirst 34 = .ok (.iinc 3 1, 3) := by decide +kernel
theorem dX5_rulesNeverFirst_37 : decode cX5_rulesNeverFirst 37 = .ok (.goto (-33), 3) := by decide +kernel
theorem dX5_rulesNeverFirst_40 : decode cX5_rulesNeverFirst 40 = .ok (.iconst 0, 1) := by decide +kernel
theorem dX5_rulesNeverFirst_41 : decode cX5_rulesNeverFirst 41 = .ok (.istore_n 3, 1) := by decide +kernel
theorem dX5_rulesNeverFirst_42 : decode cX5_rulesNeverFirst 42 = .ok (.iload_n 3, 1) := by decide +kernel
theorem dX5_rulesNeverFirst_43 : decode cX5_rulesNeverFirst 43 = .ok (.aload_n 0, 1) := by decide +kernel
theorem dX5_rulesNeverFirst_44 : decode cX5_rulesNeverFirst 44 = .ok (.getfield 21, 3) := by decide +kernel
theorem dX5_rulesNeverFirst_47 : decode cX5_rulesNeverFirst 47 = .ok (.invokevirtual 97, 3) := by decide +kernel
theorem dX5_rulesNeverFirst_50 : decode cX5_rulesNeverFirst 50 = .ok (.if_icmp .ge 31, 3) := by decide +kernel
theorem dX5_rulesNeverFirst_53 : decode cX5_rulesNeverFirst 53 = .ok (.aload_n 0, 1) := by decide +kernel
theorem dX5_rulesNeverFirst_54 : decode cX5_rulesNeverFirst 54 = .ok (.iload_n 1, 1) := by decide +kernel
theorem dX5_rulesNeverFirst_55 : decode cX5_rulesNeverFirst 55 = .ok (.iload_n 3, 1) := by decide +kernel
theorem dX5_rulesNeverFirst_56 : decode cX5_rulesNeverFirst 56 = .ok (.invokevirtual 61, 3) := by decide +kernel
theorem dX5_rulesNeverFirst_59 : decode cX5_rulesNeverFirst 59 = .ok (.istore 4, 2) := by decide +kernel
theorem dX5_rulesNeverFirst_61 : decode cX5_rulesNeverFirst 61 = .ok (.iload 4, 2) := by decide +kernel
theorem dX5_rulesNeverFirst_63 : decode cX5_rulesNeverFirst 63 = .ok (.ifCond .lt 12, 3) := by decide +kernel
theorem dX5_rulesNeverFirst_66 : decode cX5_rulesNeverFirst 66 = .ok (.iload_n 2, 1) := by decide +kernel
theorem dX5_rulesNeverFirst_67 : decode cX5_rulesNeverFirst 67 = .ok (.iconst 1, 1) := by decide +kernel
theorem dX5_rulesNeverFirst_68 : decode cX5_rulesNeverFirst 68 = .ok (.iload 4, 2) := by decide +kernel
theorem dX5_rulesNeverFirst_70 : decode cX5_rulesNeverFirst 70 = .ok (.ishl, 1) := by decide +kernel
theorem dX5_rulesNeverFirst_71 : decode cX5_rulesNeverFirst 71 = .ok (.iconst (-1), 1) := by decide +kernel
theorem dX5_rulesNeverFirst_72 : decode cX5_rulesNeverFirst 72 = .ok (.ixor, 1) := by decide +kernel
theorem dX5_rulesNeverFirst_73 : decode cX5_rulesNeverFirst 73 = .ok (.iand, 1) := by decide +kernel
theorem dX5_rulesNeverFirst_74 : decode cX5_rulesNeverFirst 74 = .ok (.istore_n 2, 1) := by decide +kernel
theorem dX5_rulesNeverFirst_75 : decode cX5_rulesNeverFirst 75 = .ok (.iinc 3 1, 3) := by decide +kernel
theorem dX5_rulesNeverFirst_78 : decode cX5_rulesNeverFirst 78 = .ok (.goto (-36), 3) := by decide +kernel
theorem dX5_rulesNeverFirst_81 : decode cX5_rulesNeverFirst 81 = .ok (.iload_n 2, 1) := by decide +kernel
theorem dX5_rulesNeverFirst_82 : decode cX5_rulesNeverFirst 82 = .ok (.ireturn, 1) := by decide +kernel
theorem dX5_setsSaidUnlike_0 : decode cX5_setsSaidUnlike 0 = .ok (.iconst 0, 1) := by decide +kernel
theorem dX5_setsSaidUnlike_1 : decode cX5_setsSaidUnlike 1 = .ok (.istore_n 3, 1) := by decide +kernel
theorem dX5_setsSaidUnlike_2 : decode cX5_setsSaidUnlike 2 = .ok (.iconst 0, 1) := by decide +kernel
theorem dX5_setsSaidUnlike_3 : decode cX5_setsSaidUnlike 3 = .ok (.istore 4, 2) := by decide +kernel
theorem dX5_setsSaidUnlike_5 : decode cX5_setsSaidUnlike 5 = .ok (.iload 4, 2) := by decide +kernel
theorem dX5_setsSaidUnlike_7 : decode cX5_setsSaidUnlike 7 = .ok (.aload_n 0, 1) := by decide +kernel
theorem dX5_setsSaidUnlike_8 : decode cX5_setsSaidUnlike 8 = .ok (.getfield 21, 3) := by decide +kernel
theorem dX5_setsSaidUnlike_11 : decode cX5_setsSaidUnlike 11 = .ok (.invokevirtual 97, 3) := by decide +kernel
theorem dX5_setsSaidUnlike_14 : decode cX5_setsSaidUnlike 14 = .ok (.if_icmp .ge 29, 3) := by decide +kernel
theorem dX5_setsSaidUnlike_17 : decode cX5_setsSaidUnlike 17 = .ok (.aload_n 0, 1) := by decide +kernel
theorem dX5_setsSaidUnlike_18 : decode cX5_setsSaidUnlike 18 = .ok (.iload_n 1, 1) := by decide +kernel
theorem dX5_setsSaidUnlike_19 : decode cX5_setsSaidUnlike 19 = .ok (.iload 4, 2) := by decide +kernel
theorem dX5_setsSaidUnlike_21 : decode cX5_setsSaidUnlike 21 = .ok (.invokevirtual 75, 3) := by decide +kernel
theorem dX5_setsSaidUnlike_24 : decode cX5_setsSaidUnlike 24 = .ok (.aload_n 0, 1) := by decide +kernel
theorem dX5_setsSaidUnlike_25 : decode cX5_setsSaidUnlike 25 = .ok (.iload_n 2, 1) := by decide +kernel
theorem dX5_setsSaidUnlike_26 : decode cX5_setsSaidUnlike 26 = .ok (.iload 4, 2) := by decide +kernel
theorem dX5_setsSaidUnlike_28 : decode cX5_setsSaidUnlike 28 = .ok (.invokevirtual 75, 3) := by decide +kernel
theorem dX5_setsSaidUnlike_31 : decode cX5_setsSaidUnlike 31 = .ok (.if_icmp .eq 6, 3) := by decide +kernel
theorem dX5_setsSaidUnlike_34 : decode cX5_setsSaidUnlike 34 = .ok (.iinc 3 1, 3) := by decide +kernel
theorem dX5_setsSaidUnlike_37 : decode cX5_setsSaidUnlike 37 = .ok (.iinc 4 1, 3) := by decide +kernel
theorem dX5_setsSaidUnlike_40 : decode cX5_setsSaidUnlike 40 = .ok (.goto (-35), 3) := by decide +kernel
theorem dX5_setsSaidUnlike_43 : decode cX5_setsSaidUnlike 43 = .ok (.iload_n 3, 1) := by decide +kernel
theorem dX5_setsSaidUnlike_44 : decode cX5_setsSaidUnlike 44 = .ok (.ireturn, 1) := by decide +kernel
theorem dX5_fewestMarksForYes_0 : decode cX5_fewestMarksForYes 0 = .ok (.iconst 1, 1) := by decide +kernel
theorem dX5_fewestMarksForYes_1 : decode cX5_fewestMarksForYes 1 = .ok (.aload_n 0, 1) := by decide +kernel
theorem dX5_fewestMarksForYes_2 : decode cX5_fewestMarksForYes 2 = .ok (.getfield 21, 3) := by decide +kernel
theorem dX5_fewestMarksForYes_5 : decode cX5_fewestMarksForYes 5 = .ok (.getfield 32, 3) := by decide +kernel
theorem dX5_fewestMarksForYes_8 : decode cX5_fewestMarksForYes 8 = .ok (.ishl, 1) := by decide +kernel
theorem dX5_fewestMarksForYes_9 : decode cX5_fewestMarksForYes 9 = .ok (.iconst 1, 1) := by decide +kernel
theorem dX5_fewestMarksForYes_10 : decode cX5_fewestMarksForYes 10 = .ok (.isub, 1) := by decide +kernel
theorem dX5_fewestMarksForYes_11 : decode cX5_fewestMarksForYes 11 = .ok (.istore_n 1, 1) := by decide +kernel
theorem dX5_fewestMarksForYes_12 : decode cX5_fewestMarksForYes 12 = .ok (.bipush (-2), 2) := by decide +kernel
theorem dX5_fewestMarksForYes_14 : decode cX5_fewestMarksForYes 14 = .ok (.istore_n 2, 1) := by decide +kernel
theorem dX5_fewestMarksForYes_15 : decode cX5_fewestMarksForYes 15 = .ok (.iconst 0, 1) := by decide +kernel
theorem dX5_fewestMarksForYes_16 : decode cX5_fewestMarksForYes 16 = .ok (.istore_n 3, 1) := by decide +kernel
theorem dX5_fewestMarksForYes_17 : decode cX5_fewestMarksForYes 17 = .ok (.iload_n 3, 1) := by decide +kernel
theorem dX5_fewestMarksForYes_18 : decode cX5_fewestMarksForYes 18 = .ok (.aload_n 0, 1) := by decide +kernel
theorem dX5_fewestMarksForYes_19 : decode cX5_fewestMarksForYes 19 = .ok (.getfield 21, 3) := by decide +kernel
theorem dX5_fewestMarksForYes_22 : decode cX5_fewestMarksForYes 22 = .ok (.invokevirtual 97, 3) := by decide +kernel
theorem dX5_fewestMarksForYes_25 : decode cX5_fewestMarksForYes 25 = .ok (.if_icmp .ge 29, 3) := by decide +kernel
theorem dX5_fewestMarksForYes_28 : decode cX5_fewestMarksForYes 28 = .ok (.iload_n 3, 1) := by decide +kernel
theorem dX5_fewestMarksForYes_29 : decode cX5_fewestMarksForYes 29 = .ok (.iload_n 2, 1) := by decide +kernel
theorem dX5_fewestMarksForYes_30 : decode cX5_fewestMarksForYes 30 = .ok (.invokestatic 101, 3) := by decide +kernel
theorem dX5_fewestMarksForYes_33 : decode cX5_fewestMarksForYes 33 = .ok (.ifCond .eq 15, 3) := by decide +kernel
theorem dX5_fewestMarksForYes_36 : decode cX5_fewestMarksForYes 36 = .ok (.aload_n 0, 1) := by decide +kernel
theorem dX5_fewestMarksForYes_37 : decode cX5_fewestMarksForYes 37 = .ok (.iload_n 3, 1) := by decide +kernel
theorem dX5_fewestMarksForYes_38 : decode cX5_fewestMarksForYes 38 = .ok (.iconst 1, 1) := by decide +kernel
theorem dX5_fewestMarksForYes_39 : decode cX5_fewestMarksForYes 39 = .ok (.invokevirtual 105, 3) := by decide +kernel
theorem dX5_fewestMarksForYes_42 : decode cX5_fewestMarksForYes 42 = .ok (.iload_n 1, 1) := by decide +kernel
theorem dX5_fewestMarksForYes_43 : decode cX5_fewestMarksForYes 43 = .ok (.if_icmp .ne 5, 3) := by decide +kernel
theorem dX5_fewestMarksForYes_46 : decode cX5_fewestMarksForYes 46 = .ok (.iload_n 3, 1) := by decide +kernel
theorem dX5_fewestMarksForYes_47 : decode cX5_fewestMarksForYes 47 = .ok (.istore_n 2, 1) := by decide +kernel
theorem dX5_fewestMarksForYes_48 : decode cX5_fewestMarksForYes 48 = .ok (.iinc 3 1, 3) := by decide +kernel
theorem dX5_fewestMarksForYes_51 : decode cX5_fewestMarksForYes 51 = .ok (.goto (-34), 3) := by decide +kernel
theorem dX5_fewestMarksForYes_54 : decode cX5_fewestMarksForYes 54 = .ok (.iload_n 2, 1) := by decide +kernel
theorem dX5_fewestMarksForYes_55 : decode cX5_fewestMarksForYes 55 = .ok (.ireturn, 1) := by decide +kernel
theorem dX5_fewestChanges_0 : decode cX5_fewestChanges 0 = .ok (.bipush (-2), 2) := by decide +kernel
theorem dX5_fewestChanges_2 : decode cX5_fewestChanges 2 = .ok (.istore 4, 2) := by decide +kernel
theorem dX5_fewestChanges_4 : decode cX5_fewestChanges 4 = .ok (.iconst 0, 1) := by decide +kernel
theorem dX5_fewestChanges_5 : decode cX5_fewestChanges 5 = .ok (.istore 5, 2) := by decide +kernel
theorem dX5_fewestChanges_7 : decode cX5_fewestChanges 7 = .ok (.iload 5, 2) := by decide +kernel
theorem dX5_fewestChanges_9 : decode cX5_fewestChanges 9 = .ok (.aload_n 0, 1) := by decide +kernel
theorem dX5_fewestChanges_10 : decode cX5_fewestChanges 10 = .ok (.getfield 21, 3) := by decide +kernel
theorem dX5_fewestChanges_13 : decode cX5_fewestChanges 13 = .ok (.invokevirtual 97, 3) := by decide +kernel
theorem dX5_fewestChanges_16 : decode cX5_fewestChanges 16 = .ok (.if_icmp .ge 43, 3) := by decide +kernel
theorem dX5_fewestChanges_19 : decode cX5_fewestChanges 19 = .ok (.iload 5, 2) := by decide +kernel
theorem dX5_fewestChanges_21 : decode cX5_fewestChanges 21 = .ok (.iload 4, 2) := by decide +kernel
theorem dX5_fewestChanges_23 : decode cX5_fewestChanges 23 = .ok (.invokestatic 101, 3) := by decide +kernel
theorem dX5_fewestChanges_26 : decode cX5_fewestChanges 26 = .ok (.ifCond .eq 27, 3) := by decide +kernel
theorem dX5_fewestChanges_29 : decode cX5_fewestChanges 29 = .ok (.aload_n 0, 1) := by decide +kernel
theorem dX5_fewestChanges_30 : decode cX5_fewestChanges 30 = .ok (.iload_n 2, 1) := by decide +kernel
theorem dX5_fewestChanges_31 : decode cX5_fewestChanges 31 = .ok (.aload_n 0, 1) := by decide +kernel
theorem dX5_fewestChanges_32 : decode cX5_fewestChanges 32 = .ok (.getfield 12, 3) := by decide +kernel
theorem dX5_fewestChanges_35 : decode cX5_fewestChanges 35 = .ok (.iload_n 1, 1) := by decide +kernel
theorem dX5_fewestChanges_36 : decode cX5_fewestChanges 36 = .ok (.invokevirtual 72, 3) := by decide +kernel
theorem dX5_fewestChanges_39 : decode cX5_fewestChanges 39 = .ok (.iload 5, 2) := by decide +kernel
theorem dX5_fewestChanges_41 : decode cX5_fewestChanges 41 = .ok (.ixor, 1) := by decide +kernel
theorem dX5_fewestChanges_42 : decode cX5_fewestChanges 42 = .ok (.invokevirtual 75, 3) := by decide +kernel
theorem dX5_fewestChanges_45 : decode cX5_fewestChanges 45 = .ok (.iload_n 3, 1) := by decide +kernel
theorem dX5_fewestChanges_46 : decode cX5_fewestChanges 46 = .ok (.if_icmp .ne 7, 3) := by decide +kernel
theorem dX5_fewestChanges_49 : decode cX5_fewestChanges 49 = .ok (.iload 5, 2) := by decide +kernel
theorem dX5_fewestChanges_51 : decode cX5_fewestChanges 51 = .ok (.istore 4, 2) := by decide +kernel
theorem dX5_fewestChanges_53 : decode cX5_fewestChanges 53 = .ok (.iinc 5 1, 3) := by decide +kernel
theorem dX5_fewestChanges_56 : decode cX5_fewestChanges 56 = .ok (.goto (-49), 3) := by decide +kernel
theorem dX5_fewestChanges_59 : decode cX5_fewestChanges 59 = .ok (.iload 4, 2) := by decide +kernel
theorem dX5_fewestChanges_61 : decode cX5_fewestChanges 61 = .ok (.ireturn, 1) := by decide +kernel
theorem dX5_isFewer_0 : decode cX5_isFewer 0 = .ok (.iload_n 1, 1) := by decide +kernel
theorem dX5_isFewer_1 : decode cX5_isFewer 1 = .ok (.ifCond .lt 14, 3) := by decide +kernel
theorem dX5_isFewer_4 : decode cX5_isFewer 4 = .ok (.iload_n 0, 1) := by decide +kernel
theorem dX5_isFewer_5 : decode cX5_isFewer 5 = .ok (.invokestatic 108, 3) := by decide +kernel
theorem dX5_isFewer_8 : decode cX5_isFewer 8 = .ok (.iload_n 1, 1) := by decide +kernel
theorem dX5_isFewer_9 : decode cX5_isFewer 9 = .ok (.invokestatic 108, 3) := by decide +kernel
theorem dX5_isFewer_12 : decode cX5_isFewer 12 = .ok (.if_icmp .ge 7, 3) := by decide +kernel
theorem dX5_isFewer_15 : decode cX5_isFewer 15 = .ok (.iconst 1, 1) := by decide +kernel
theorem dX5_isFewer_16 : decode cX5_isFewer 16 = .ok (.goto 4, 3) := by decide +kernel
theorem dX5_isFewer_19 : decode cX5_isFewer 19 = .ok (.iconst 0, 1) := by decide +kernel
theorem dX5_isFewer_20 : decode cX5_isFewer 20 = .ok (.ireturn, 1) := by decide +kernel
theorem dX5_markForMostYes_0 : decode cX5_markForMostYes 0 = .ok (.bipush (-2), 2) := by decide +kernel
theorem dX5_markForMostYes_2 : decode cX5_markForMostYes 2 = .ok (.istore_n 2, 1) := by decide +kernel
theorem dX5_markForMostYes_3 : decode cX5_markForMostYes 3 = .ok (.aload_n 0, 1) := by decide +kernel
theorem dX5_markForMostYes_4 : decode cX5_markForMostYes 4 = .ok (.aload_n 0, 1) := by decide +kernel
theorem dX5_markForMostYes_5 : decode cX5_markForMostYes 5 = .ok (.getfield 12, 3) := by decide +kernel
theorem dX5_markForMostYes_8 : decode cX5_markForMostYes 8 = .ok (.iload_n 1, 1) := by decide +kernel
theorem dX5_markForMostYes_9 : decode cX5_markForMostYes 9 = .ok (.invokevirtual 72, 3) := by decide +kernel
theorem dX5_markForMostYes_12 : decode cX5_markForMostYes 12 = .ok (.iconst 1, 1) := by decide +kernel
theorem dX5_markForMostYes_13 : decode cX5_markForMostYes 13 = .ok (.invokevirtual 105, 3) := by decide +kernel
theorem dX5_markForMostYes_16 : decode cX5_markForMostYes 16 = .ok (.invokestatic 108, 3) := by decide +kernel
theorem dX5_markForMostYes_19 : decode cX5_markForMostYes 19 = .ok (.istore_n 3, 1) := by decide +kernel
theorem dX5_markForMostYes_20 : decode cX5_markForMostYes 20 = .ok (.iconst 0, 1) := by decide +kernel
theorem dX5_markForMostYes_21 : decode cX5_markForMostYes 21 = .ok (.istore 4, 2) := by decide +kernel
theorem dX5_markForMostYes_23 : decode cX5_markForMostYes 23 = .ok (.iload 4, 2) := by decide +kernel
theorem dX5_markForMostYes_25 : decode cX5_markForMostYes 25 = .ok (.aload_n 0, 1) := by decide +kernel
theorem dX5_markForMostYes_26 : decode cX5_markForMostYes 26 = .ok (.getfield 21, 3) := by decide +kernel
theorem dX5_markForMostYes_29 : decode cX5_markForMostYes 29 = .ok (.getfield 25, 3) := by decide +kernel
theorem dX5_markForMostYes_32 : decode cX5_markForMostYes 32 = .ok (.if_icmp .ge 44, 3) := by decide +kernel
theorem dX5_markForMostYes_35 : decode cX5_markForMostYes 35 = .ok (.aload_n 0, 1) := by decide +kernel
theorem dX5_markForMostYes_36 : decode cX5_markForMostYes 36 = .ok (.aload_n 0, 1) := by decide +kernel
theorem dX5_markForMostYes_37 : decode cX5_markForMostYes 37 = .ok (.getfield 12, 3) := by decide +kernel
theorem dX5_markForMostYes_40 : decode cX5_markForMostYes 40 = .ok (.iload_n 1, 1) := by decide +kernel
theorem dX5_markForMostYes_41 : decode cX5_markForMostYes 41 = .ok (.invokevirtual 72, 3) := by decide +kernel
theorem dX5_markForMostYes_44 : decode cX5_markForMostYes 44 = .ok (.iconst 1, 1) := by decide +kernel
theorem dX5_markForMostYes_45 : decode cX5_markForMostYes 45 = .ok (.iload 4, 2) := by decide +kernel
theorem dX5_markForMostYes_47 : decode cX5_markForMostYes 47 = .ok (.ishl, 1) := by decide +kernel
theorem dX5_markForMostYes_48 : decode cX5_markForMostYes 48 = .ok (.ixor, 1) := by decide +kernel
theorem dX5_markForMostYes_49 : decode cX5_markForMostYes 49 = .ok (.iconst 1, 1) := by decide +kernel
theorem dX5_markForMostYes_50 : decode cX5_markForMostYes 50 = .ok (.invokevirtual 105, 3) := by decide +kernel
theorem dX5_markForMostYes_53 : decode cX5_markForMostYes 53 = .ok (.invokestatic 108, 3) := by decide +kernel
theorem dX5_markForMostYes_56 : decode cX5_markForMostYes 56 = .ok (.istore 5, 2) := by decide +kernel
theorem dX5_markForMostYes_58 : decode cX5_markForMostYes 58 = .ok (.iload 5, 2) := by decide +kernel
theorem dX5_markForMostYes_60 : decode cX5_markForMostYes 60 = .ok (.iload_n 3, 1) := by decide +kernel
theorem dX5_markForMostYes_61 : decode cX5_markForMostYes 61 = .ok (.if_icmp .le 9, 3) := by decide +kernel
theorem dX5_markForMostYes_64 : decode cX5_markForMostYes 64 = .ok (.iload 5, 2) := by decide +kernel
theorem dX5_markForMostYes_66 : decode cX5_markForMostYes 66 = .ok (.istore_n 3, 1) := by decide +kernel
theorem dX5_markForMostYes_67 : decode cX5_markForMostYes 67 = .ok (.iload 4, 2) := by decide +kernel
theorem dX5_markForMostYes_69 : decode cX5_markForMostYes 69 = .ok (.istore_n 2, 1) := by decide +kernel
theorem dX5_markForMostYes_70 : decode cX5_markForMostYes 70 = .ok (.iinc 4 1, 3) := by decide +kernel
theorem dX5_markForMostYes_73 : decode cX5_markForMostYes 73 = .ok (.goto (-50), 3) := by decide +kernel
theorem dX5_markForMostYes_76 : decode cX5_markForMostYes 76 = .ok (.iload_n 2, 1) := by decide +kernel
theorem dX5_markForMostYes_77 : decode cX5_markForMostYes 77 = .ok (.ireturn, 1) := by decide +kernel
theorem dX6_init_0 : decode cX6_init 0 = .ok (.aload_n 0, 1) := by decide +kernel
theorem dX6_init_1 : decode cX6_init 1 = .ok (.invokespecial 1, 3) := by decide +kernel
theorem dX6_init_4 : decode cX6_init 4 = .ok (.aload_n 0, 1) := by decide +kernel
theorem dX6_init_5 : decode cX6_init 5 = .ok (.bipush 16, 2) := by decide +kernel
theorem dX6_init_7 : decode cX6_init 7 = .ok (.bipush 31, 2) := by decide +kernel
theorem dX6_init_9 : decode cX6_init 9 = .ok (.multianewarray 11 2, 4) := by decide +kernel
theorem dX6_init_13 : decode cX6_init 13 = .ok (.putfield 13, 3) := by decide +kernel
theorem dX6_init_16 : decode cX6_init 16 = .ok (.aload_n 0, 1) := by decide +kernel
theorem dX6_init_17 : decode cX6_init 17 = .ok (.iconst 3, 1) := by decide +kernel
theorem dX6_init_18 : decode cX6_init 18 = .ok (.bipush 31, 2) := by decide +kernel
theorem dX6_init_20 : decode cX6_init 20 = .ok (.multianewarray 11 2, 4) := by decide +kernel
theorem dX6_init_24 : decode cX6_init 24 = .ok (.putfield 16, 3) := by decide +kernel
theorem dX6_init_27 : decode cX6_init 27 = .ok (.return_, 1) := by decide +kernel
theorem dX6_forget_0 : decode cX6_forget 0 = .ok (.aload_n 0, 1) := by decide +kernel
theorem dX6_forget_1 : decode cX6_forget 1 = .ok (.iconst 0, 1) := by decide +kernel
theorem dX6_forget_2 : decode cX6_forget 2 = .ok (.putfield 19, 3) := by decide +kernel
theorem dX6_forget_5 : decode cX6_forget 5 = .ok (.aload_n 0, 1) := by decide +kernel
theorem dX6_forget_6 : decode cX6_forget 6 = .ok (.iconst 0, 1) := by decide +kernel
theorem dX6_forget_7 : decode cX6_forget 7 = .ok (.putfield 23, 3) := by decide +kernel
theorem dX6_forget_10 : decode cX6_forget 10 = .ok (.return_, 1) := by decide +kernel
theorem dX6_remember_0 : decode cX6_remember 0 = .ok (.aload_n 1, 1) := by decide +kernel
theorem dX6_remember_1 : decode cX6_remember 1 = .ok (.aload_n 0, 1) := by decide +kernel
theorem dX6_remember_2 : decode cX6_remember 2 = .ok (.getfield 13, 3) := by decide +kernel
theorem dX6_remember_5 : decode cX6_remember 5 = .ok (.aload_n 0, 1) := by decide +kernel
theorem dX6_remember_6 : decode cX6_remember 6 = .ok (.getfield 26, 3) := by decide +kernel
