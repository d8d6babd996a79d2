theorem dX13_ruleFor_23 : decode cX13_ruleFor 23 = .ok (.if_icmp .ne 38, 3) := by decide +kernel
theorem dX13_ruleFor_26 : decode cX13_ruleFor 26 = .ok (.iload_n 2, 1) := by decide +kernel
theorem dX13_ruleFor_27 : decode cX13_ruleFor 27 = .ok (.aload_n 0, 1) := by decide +kernel
theorem dX13_ruleFor_28 : decode cX13_ruleFor 28 = .ok (.getfield 338, 3) := by decide +kernel
theorem dX13_ruleFor_31 : decode cX13_ruleFor 31 = .ok (.getfield 289, 3) := by decide +kernel
theorem dX13_ruleFor_34 : decode cX13_ruleFor 34 = .ok (.iload_n 3, 1) := by decide +kernel
theorem dX13_ruleFor_35 : decode cX13_ruleFor 35 = .ok (.iaload, 1) := by decide +kernel
theorem dX13_ruleFor_36 : decode cX13_ruleFor 36 = .ok (.invokestatic 199, 3) := by decide +kernel
theorem dX13_ruleFor_39 : decode cX13_ruleFor 39 = .ok (.aload_n 0, 1) := by decide +kernel
theorem dX13_ruleFor_40 : decode cX13_ruleFor 40 = .ok (.getfield 338, 3) := by decide +kernel
theorem dX13_ruleFor_43 : decode cX13_ruleFor 43 = .ok (.getfield 292, 3) := by decide +kernel
theorem dX13_ruleFor_46 : decode cX13_ruleFor 46 = .ok (.iload_n 3, 1) := by decide +kernel
theorem dX13_ruleFor_47 : decode cX13_ruleFor 47 = .ok (.iaload, 1) := by decide +kernel
theorem dX13_ruleFor_48 : decode cX13_ruleFor 48 = .ok (.ifCond .ne 7, 3) := by decide +kernel
theorem dX13_ruleFor_51 : decode cX13_ruleFor 51 = .ok (.iconst 1, 1) := by decide +kernel
theorem dX13_ruleFor_52 : decode cX13_ruleFor 52 = .ok (.goto 4, 3) := by decide +kernel
theorem dX13_ruleFor_55 : decode cX13_ruleFor 55 = .ok (.iconst 0, 1) := by decide +kernel
theorem dX13_ruleFor_56 : decode cX13_ruleFor 56 = .ok (.if_icmp .ne 5, 3) := by decide +kernel
theorem dX13_ruleFor_59 : decode cX13_ruleFor 59 = .ok (.iload_n 3, 1) := by decide +kernel
theorem dX13_ruleFor_60 : decode cX13_ruleFor 60 = .ok (.ireturn, 1) := by decide +kernel
theorem dX13_ruleFor_61 : decode cX13_ruleFor 61 = .ok (.iinc 3 1, 3) := by decide +kernel
theorem dX13_ruleFor_64 : decode cX13_ruleFor 64 = .ok (.goto (-62), 3) := by decide +kernel
theorem dX13_ruleFor_67 : decode cX13_ruleFor 67 = .ok (.bipush (-2), 2) := by decide +kernel
theorem dX13_ruleFor_69 : decode cX13_ruleFor 69 = .ok (.ireturn, 1) := by decide +kernel
theorem dX13_saysBy_0 : decode cX13_saysBy 0 = .ok (.aload_n 0, 1) := by decide +kernel
theorem dX13_saysBy_1 : decode cX13_saysBy 1 = .ok (.iload_n 1, 1) := by decide +kernel
theorem dX13_saysBy_2 : decode cX13_saysBy 2 = .ok (.iload_n 2, 1) := by decide +kernel
theorem dX13_saysBy_3 : decode cX13_saysBy 3 = .ok (.invokevirtual 346, 3) := by decide +kernel
theorem dX13_saysBy_6 : decode cX13_saysBy 6 = .ok (.istore_n 3, 1) := by decide +kernel
theorem dX13_saysBy_7 : decode cX13_saysBy 7 = .ok (.iload_n 3, 1) := by decide +kernel
theorem dX13_saysBy_8 : decode cX13_saysBy 8 = .ok (.bipush (-2), 2) := by decide +kernel
theorem dX13_saysBy_10 : decode cX13_saysBy 10 = .ok (.if_icmp .ne 15, 3) := by decide +kernel
theorem dX13_saysBy_13 : decode cX13_saysBy 13 = .ok (.aload_n 0, 1) := by decide +kernel
theorem dX13_saysBy_14 : decode cX13_saysBy 14 = .ok (.getfield 338, 3) := by decide +kernel
theorem dX13_saysBy_17 : decode cX13_saysBy 17 = .ok (.getfield 274, 3) := by decide +kernel
theorem dX13_saysBy_20 : decode cX13_saysBy 20 = .ok (.iload_n 1, 1) := by decide +kernel
theorem dX13_saysBy_21 : decode cX13_saysBy 21 = .ok (.iaload, 1) := by decide +kernel
theorem dX13_saysBy_22 : decode cX13_saysBy 22 = .ok (.goto 12, 3) := by decide +kernel
theorem dX13_saysBy_25 : decode cX13_saysBy 25 = .ok (.aload_n 0, 1) := by decide +kernel
theorem dX13_saysBy_26 : decode cX13_saysBy 26 = .ok (.getfield 17, 3) := by decide +kernel
theorem dX13_saysBy_29 : decode cX13_saysBy 29 = .ok (.bipush 21, 2) := by decide +kernel
theorem dX13_saysBy_31 : decode cX13_saysBy 31 = .ok (.iload_n 3, 1) := by decide +kernel
theorem dX13_saysBy_32 : decode cX13_saysBy 32 = .ok (.iadd, 1) := by decide +kernel
theorem dX13_saysBy_33 : decode cX13_saysBy 33 = .ok (.iaload, 1) := by decide +kernel
theorem dX13_saysBy_34 : decode cX13_saysBy 34 = .ok (.ireturn, 1) := by decide +kernel
theorem dX13_saysNow_0 : decode cX13_saysNow 0 = .ok (.aload_n 0, 1) := by decide +kernel
theorem dX13_saysNow_1 : decode cX13_saysNow 1 = .ok (.iload_n 1, 1) := by decide +kernel
theorem dX13_saysNow_2 : decode cX13_saysNow 2 = .ok (.aload_n 0, 1) := by decide +kernel
theorem dX13_saysNow_3 : decode cX13_saysNow 3 = .ok (.getfield 17, 3) := by decide +kernel
theorem dX13_saysNow_6 : decode cX13_saysNow 6 = .ok (.bipush 11, 2) := by decide +kernel
theorem dX13_saysNow_8 : decode cX13_saysNow 8 = .ok (.iload_n 2, 1) := by decide +kernel
theorem dX13_saysNow_9 : decode cX13_saysNow 9 = .ok (.iadd, 1) := by decide +kernel
theorem dX13_saysNow_10 : decode cX13_saysNow 10 = .ok (.iaload, 1) := by decide +kernel
theorem dX13_saysNow_11 : decode cX13_saysNow 11 = .ok (.invokevirtual 349, 3) := by decide +kernel
theorem dX13_saysNow_14 : decode cX13_saysNow 14 = .ok (.ireturn, 1) := by decide +kernel
theorem dX13_printsBy_0 : decode cX13_printsBy 0 = .ok (.aload_n 0, 1) := by decide +kernel
theorem dX13_printsBy_1 : decode cX13_printsBy 1 = .ok (.getfield 338, 3) := by decide +kernel
theorem dX13_printsBy_4 : decode cX13_printsBy 4 = .ok (.getfield 311, 3) := by decide +kernel
theorem dX13_printsBy_7 : decode cX13_printsBy 7 = .ok (.iload_n 1, 1) := by decide +kernel
theorem dX13_printsBy_8 : decode cX13_printsBy 8 = .ok (.iaload, 1) := by decide +kernel
theorem dX13_printsBy_9 : decode cX13_printsBy 9 = .ok (.istore_n 3, 1) := by decide +kernel
theorem dX13_printsBy_10 : decode cX13_printsBy 10 = .ok (.iload_n 2, 1) := by decide +kernel
theorem dX13_printsBy_11 : decode cX13_printsBy 11 = .ok (.iconst 2, 1) := by decide +kernel
theorem dX13_printsBy_12 : decode cX13_printsBy 12 = .ok (.if_icmp .ne 23, 3) := by decide +kernel
theorem dX13_printsBy_15 : decode cX13_printsBy 15 = .ok (.iload_n 3, 1) := by decide +kernel
theorem dX13_printsBy_16 : decode cX13_printsBy 16 = .ok (.iconst 1, 1) := by decide +kernel
theorem dX13_printsBy_17 : decode cX13_printsBy 17 = .ok (.if_icmp .ne 7, 3) := by decide +kernel
theorem dX13_printsBy_20 : decode cX13_printsBy 20 = .ok (.iconst 1, 1) := by decide +kernel
theorem dX13_printsBy_21 : decode cX13_printsBy 21 = .ok (.goto 13, 3) := by decide +kernel
theorem dX13_printsBy_24 : decode cX13_printsBy 24 = .ok (.iload_n 3, 1) := by decide +kernel
theorem dX13_printsBy_25 : decode cX13_printsBy 25 = .ok (.iconst 2, 1) := by decide +kernel
theorem dX13_printsBy_26 : decode cX13_printsBy 26 = .ok (.if_icmp .ne 7, 3) := by decide +kernel
theorem dX13_printsBy_29 : decode cX13_printsBy 29 = .ok (.iconst 0, 1) := by decide +kernel
theorem dX13_printsBy_30 : decode cX13_printsBy 30 = .ok (.goto 4, 3) := by decide +kernel
theorem dX13_printsBy_33 : decode cX13_printsBy 33 = .ok (.iconst 2, 1) := by decide +kernel
theorem dX13_printsBy_34 : decode cX13_printsBy 34 = .ok (.ireturn, 1) := by decide +kernel
theorem dX13_printsBy_35 : decode cX13_printsBy 35 = .ok (.iload_n 3, 1) := by decide +kernel
theorem dX13_printsBy_36 : decode cX13_printsBy 36 = .ok (.iconst 3, 1) := by decide +kernel
theorem dX13_printsBy_37 : decode cX13_printsBy 37 = .ok (.if_icmp .ne 9, 3) := by decide +kernel
theorem dX13_printsBy_40 : decode cX13_printsBy 40 = .ok (.iconst 1, 1) := by decide +kernel
theorem dX13_printsBy_41 : decode cX13_printsBy 41 = .ok (.iload_n 2, 1) := by decide +kernel
theorem dX13_printsBy_42 : decode cX13_printsBy 42 = .ok (.isub, 1) := by decide +kernel
theorem dX13_printsBy_43 : decode cX13_printsBy 43 = .ok (.goto 4, 3) := by decide +kernel
theorem dX13_printsBy_46 : decode cX13_printsBy 46 = .ok (.iload_n 2, 1) := by decide +kernel
theorem dX13_printsBy_47 : decode cX13_printsBy 47 = .ok (.ireturn, 1) := by decide +kernel
theorem dX13_partOf_0 : decode cX13_partOf 0 = .ok (.aload_n 0, 1) := by decide +kernel
theorem dX13_partOf_1 : decode cX13_partOf 1 = .ok (.iload_n 1, 1) := by decide +kernel
theorem dX13_partOf_2 : decode cX13_partOf 2 = .ok (.iload_n 2, 1) := by decide +kernel
theorem dX13_partOf_3 : decode cX13_partOf 3 = .ok (.invokevirtual 352, 3) := by decide +kernel
theorem dX13_partOf_6 : decode cX13_partOf 6 = .ok (.iload_n 3, 1) := by decide +kernel
theorem dX13_partOf_7 : decode cX13_partOf 7 = .ok (.if_icmp .ne 18, 3) := by decide +kernel
theorem dX13_partOf_10 : decode cX13_partOf 10 = .ok (.bipush 100, 2) := by decide +kernel
theorem dX13_partOf_12 : decode cX13_partOf 12 = .ok (.aload_n 0, 1) := by decide +kernel
theorem dX13_partOf_13 : decode cX13_partOf 13 = .ok (.getfield 338, 3) := by decide +kernel
theorem dX13_partOf_16 : decode cX13_partOf 16 = .ok (.getfield 313, 3) := by decide +kernel
theorem dX13_partOf_19 : decode cX13_partOf 19 = .ok (.iload_n 1, 1) := by decide +kernel
theorem dX13_partOf_20 : decode cX13_partOf 20 = .ok (.iaload, 1) := by decide +kernel
theorem dX13_partOf_21 : decode cX13_partOf 21 = .ok (.isub, 1) := by decide +kernel
theorem dX13_partOf_22 : decode cX13_partOf 22 = .ok (.goto 4, 3) := by decide +kernel
theorem dX13_partOf_25 : decode cX13_partOf 25 = .ok (.iconst 0, 1) := by decide +kernel
theorem dX13_partOf_26 : decode cX13_partOf 26 = .ok (.istore 4, 2) := by decide +kernel
theorem dX13_partOf_28 : decode cX13_partOf 28 = .ok (.iload_n 3, 1) := by decide +kernel
theorem dX13_partOf_29 : decode cX13_partOf 29 = .ok (.iconst 2, 1) := by decide +kernel
theorem dX13_partOf_30 : decode cX13_partOf 30 = .ok (.if_icmp .ne 18, 3) := by decide +kernel
theorem dX13_partOf_33 : decode cX13_partOf 33 = .ok (.iload 4, 2) := by decide +kernel
theorem dX13_partOf_35 : decode cX13_partOf 35 = .ok (.aload_n 0, 1) := by decide +kernel
theorem dX13_partOf_36 : decode cX13_partOf 36 = .ok (.getfield 338, 3) := by decide +kernel
theorem dX13_partOf_39 : decode cX13_partOf 39 = .ok (.getfield 313, 3) := by decide +kernel
theorem dX13_partOf_42 : decode cX13_partOf 42 = .ok (.iload_n 1, 1) := by decide +kernel
theorem dX13_partOf_43 : decode cX13_partOf 43 = .ok (.iaload, 1) := by decide +kernel
theorem dX13_partOf_44 : decode cX13_partOf 44 = .ok (.iadd, 1) := by decide +kernel
theorem dX13_partOf_45 : decode cX13_partOf 45 = .ok (.goto 5, 3) := by decide +kernel
theorem dX13_partOf_48 : decode cX13_partOf 48 = .ok (.iload 4, 2) := by decide +kernel
theorem dX13_partOf_50 : decode cX13_partOf 50 = .ok (.ireturn, 1) := by decide +kernel
theorem dX13_isVerdict_0 : decode cX13_isVerdict 0 = .ok (.iload_n 0, 1) := by decide +kernel
theorem dX13_isVerdict_1 : decode cX13_isVerdict 1 = .ok (.ifCond .lt 12, 3) := by decide +kernel
theorem dX13_isVerdict_4 : decode cX13_isVerdict 4 = .ok (.iload_n 0, 1) := by decide +kernel
theorem dX13_isVerdict_5 : decode cX13_isVerdict 5 = .ok (.iconst 3, 1) := by decide +kernel
theorem dX13_isVerdict_6 : decode cX13_isVerdict 6 = .ok (.if_icmp .ge 7, 3) := by decide +kernel
theorem dX13_isVerdict_9 : decode cX13_isVerdict 9 = .ok (.iconst 1, 1) := by decide +kernel
theorem dX13_isVerdict_10 : decode cX13_isVerdict 10 = .ok (.goto 4, 3) := by decide +kernel
theorem dX13_isVerdict_13 : decode cX13_isVerdict 13 = .ok (.iconst 0, 1) := by decide +kernel
theorem dX13_isVerdict_14 : decode cX13_isVerdict 14 = .ok (.ireturn, 1) := by decide +kernel
theorem dX13_paper_0 : decode cX13_paper 0 = .ok (.aload_n 0, 1) := by decide +kernel
theorem dX13_paper_1 : decode cX13_paper 1 = .ok (.iconst 0, 1) := by decide +kernel
theorem dX13_paper_2 : decode cX13_paper 2 = .ok (.putfield 48, 3) := by decide +kernel
theorem dX13_paper_5 : decode cX13_paper 5 = .ok (.aload_n 0, 1) := by decide +kernel
theorem dX13_paper_6 : decode cX13_paper 6 = .ok (.iload_n 1, 1) := by decide +kernel
theorem dX13_paper_7 : decode cX13_paper 7 = .ok (.invokevirtual 355, 3) := by decide +kernel
theorem dX13_paper_10 : decode cX13_paper 10 = .ok (.ifCond .eq 12, 3) := by decide +kernel
theorem dX13_paper_13 : decode cX13_paper 13 = .ok (.iload_n 2, 1) := by decide +kernel
theorem dX13_paper_14 : decode cX13_paper 14 = .ok (.iconst 0, 1) := by decide +kernel
theorem dX13_paper_15 : decode cX13_paper 15 = .ok (.iconst 3, 1) := by decide +kernel
theorem dX13_paper_16 : decode cX13_paper 16 = .ok (.invokestatic 127, 3) := by decide +kernel
theorem dX13_paper_19 : decode cX13_paper 19 = .ok (.ifCond .ne 9, 3) := by decide +kernel
theorem dX13_paper_22 : decode cX13_paper 22 = .ok (.aload_n 0, 1) := by decide +kernel
theorem dX13_paper_23 : decode cX13_paper 23 = .ok (.iconst 1, 1) := by decide +kernel
theorem dX13_paper_24 : decode cX13_paper 24 = .ok (.invokevirtual 54, 3) := by decide +kernel
theorem dX13_paper_27 : decode cX13_paper 27 = .ok (.ireturn, 1) := by decide +kernel
theorem dX13_paper_28 : decode cX13_paper 28 = .ok (.aload_n 0, 1) := by decide +kernel
theorem dX13_paper_29 : decode cX13_paper 29 = .ok (.iload_n 2, 1) := by decide +kernel
theorem dX13_paper_30 : decode cX13_paper 30 = .ok (.ifCond .ne 15, 3) := by decide +kernel
theorem dX13_paper_33 : decode cX13_paper 33 = .ok (.aload_n 0, 1) := by decide +kernel
theorem dX13_paper_34 : decode cX13_paper 34 = .ok (.getfield 338, 3) := by decide +kernel
theorem dX13_paper_37 : decode cX13_paper 37 = .ok (.getfield 257, 3) := by decide +kernel
theorem dX13_paper_40 : decode cX13_paper 40 = .ok (.iload_n 1, 1) := by decide +kernel
theorem dX13_paper_41 : decode cX13_paper 41 = .ok (.iaload, 1) := by decide +kernel
theorem dX13_paper_42 : decode cX13_paper 42 = .ok (.goto 46, 3) := by decide +kernel
theorem dX13_paper_45 : decode cX13_paper 45 = .ok (.iload_n 2, 1) := by decide +kernel
theorem dX13_paper_46 : decode cX13_paper 46 = .ok (.iconst 1, 1) := by decide +kernel
theorem dX13_paper_47 : decode cX13_paper 47 = .ok (.if_icmp .ne 15, 3) := by decide +kernel
theorem dX13_paper_50 : decode cX13_paper 50 = .ok (.aload_n 0, 1) := by decide +kernel
theorem dX13_paper_51 : decode cX13_paper 51 = .ok (.getfield 17, 3) := by decide +kernel
theorem dX13_paper_54 : decode cX13_paper 54 = .ok (.bipush 11, 2) := by decide +kernel
theorem dX13_paper_56 : decode cX13_paper 56 = .ok (.iload_n 1, 1) := by decide +kernel
theorem dX13_paper_57 : decode cX13_paper 57 = .ok (.iadd, 1) := by decide +kernel
theorem dX13_paper_58 : decode cX13_paper 58 = .ok (.iaload, 1) := by decide +kernel
theorem dX13_paper_59 : decode cX13_paper 59 = .ok (.goto 29, 3) := by decide +kernel
theorem dX13_paper_62 : decode cX13_paper 62 = .ok (.iload_n 2, 1) := by decide +kernel
theorem dX13_paper_63 : decode cX13_paper 63 = .ok (.iconst 2, 1) := by decide +kernel
theorem dX13_paper_64 : decode cX13_paper 64 = .ok (.if_icmp .ne 15, 3) := by decide +kernel
theorem dX13_paper_67 : decode cX13_paper 67 = .ok (.aload_n 0, 1) := by decide +kernel
theorem dX13_paper_68 : decode cX13_paper 68 = .ok (.getfield 338, 3) := by decide +kernel
theorem dX13_paper_71 : decode cX13_paper 71 = .ok (.getfield 315, 3) := by decide +kernel
theorem dX13_paper_74 : decode cX13_paper 74 = .ok (.iload_n 1, 1) := by decide +kernel
theorem dX13_paper_75 : decode cX13_paper 75 = .ok (.iaload, 1) := by decide +kernel
theorem dX13_paper_76 : decode cX13_paper 76 = .ok (.goto 12, 3) := by decide +kernel
theorem dX13_paper_79 : decode cX13_paper 79 = .ok (.aload_n 0, 1) := by decide +kernel
theorem dX13_paper_80 : decode cX13_paper 80 = .ok (.getfield 17, 3) := by decide +kernel
theorem dX13_paper_83 : decode cX13_paper 83 = .ok (.bipush 16, 2) := by decide +kernel
theorem dX13_paper_85 : decode cX13_paper 85 = .ok (.iload_n 1, 1) := by decide +kernel
theorem dX13_paper_86 : decode cX13_paper 86 = .ok (.iadd, 1) := by decide +kernel
theorem dX13_paper_87 : decode cX13_paper 87 = .ok (.iaload, 1) := by decide +kernel
theorem dX13_paper_88 : decode cX13_paper 88 = .ok (.invokevirtual 58, 3) := by decide +kernel
theorem dX13_paper_91 : decode cX13_paper 91 = .ok (.ireturn, 1) := by decide +kernel
theorem dX13_stamp_0 : decode cX13_stamp 0 = .ok (.aload_n 0, 1) := by decide +kernel
theorem dX13_stamp_1 : decode cX13_stamp 1 = .ok (.iconst 0, 1) := by decide +kernel
theorem dX13_stamp_2 : decode cX13_stamp 2 = .ok (.putfield 48, 3) := by decide +kernel
theorem dX13_stamp_5 : decode cX13_stamp 5 = .ok (.aload_n 0, 1) := by decide +kernel
theorem dX13_stamp_6 : decode cX13_stamp 6 = .ok (.iload_n 1, 1) := by decide +kernel
theorem dX13_stamp_7 : decode cX13_stamp 7 = .ok (.invokevirtual 358, 3) := by decide +kernel
theorem dX13_stamp_10 : decode cX13_stamp 10 = .ok (.ifCond .eq 12, 3) := by decide +kernel
theorem dX13_stamp_13 : decode cX13_stamp 13 = .ok (.iload_n 2, 1) := by decide +kernel
theorem dX13_stamp_14 : decode cX13_stamp 14 = .ok (.iconst 0, 1) := by decide +kernel
theorem dX13_stamp_15 : decode cX13_stamp 15 = .ok (.iconst 4, 1) := by decide +kernel
theorem dX13_stamp_16 : decode cX13_stamp 16 = .ok (.invokestatic 127, 3) := by decide +kernel
theorem dX13_stamp_19 : decode cX13_stamp 19 = .ok (.ifCond .ne 9, 3) := by decide +kernel
theorem dX13_stamp_22 : decode cX13_stamp 22 = .ok (.aload_n 0, 1) := by decide +kernel
theorem dX13_stamp_23 : decode cX13_stamp 23 = .ok (.iconst 1, 1) := by decide +kernel
theorem dX13_stamp_24 : decode cX13_stamp 24 = .ok (.invokevirtual 54, 3) := by decide +kernel
theorem dX13_stamp_27 : decode cX13_stamp 27 = .ok (.ireturn, 1) := by decide +kernel
theorem dX13_stamp_28 : decode cX13_stamp 28 = .ok (.iconst 0, 1) := by decide +kernel
theorem dX13_stamp_29 : decode cX13_stamp 29 = .ok (.istore_n 3, 1) := by decide +kernel
theorem dX13_stamp_30 : decode cX13_stamp 30 = .ok (.iconst 0, 1) := by decide +kernel
theorem dX13_stamp_31 : decode cX13_stamp 31 = .ok (.istore 4, 2) := by decide +kernel
theorem dX13_stamp_33 : decode cX13_stamp 33 = .ok (.iload 4, 2) := by decide +kernel
theorem dX13_stamp_35 : decode cX13_stamp 35 = .ok (.aload_n 0, 1) := by decide +kernel
theorem dX13_stamp_36 : decode cX13_stamp 36 = .ok (.getfield 338, 3) := by decide +kernel
theorem dX13_stamp_39 : decode cX13_stamp 39 = .ok (.getfield 280, 3) := by decide +kernel
theorem dX13_stamp_42 : decode cX13_stamp 42 = .ok (.if_icmp .ge 31, 3) := by decide +kernel
theorem dX13_stamp_45 : decode cX13_stamp 45 = .ok (.iload_n 3, 1) := by decide +kernel
theorem dX13_stamp_46 : decode cX13_stamp 46 = .ok (.aload_n 0, 1) := by decide +kernel
theorem dX13_stamp_47 : decode cX13_stamp 47 = .ok (.getfield 338, 3) := by decide +kernel
theorem dX13_stamp_50 : decode cX13_stamp 50 = .ok (.getfield 286, 3) := by decide +kernel
theorem dX13_stamp_53 : decode cX13_stamp 53 = .ok (.iload 4, 2) := by decide +kernel
theorem dX13_stamp_55 : decode cX13_stamp 55 = .ok (.iaload, 1) := by decide +kernel
theorem dX13_stamp_56 : decode cX13_stamp 56 = .ok (.iload_n 1, 1) := by decide +kernel
theorem dX13_stamp_57 : decode cX13_stamp 57 = .ok (.if_icmp .ne 7, 3) := by decide +kernel
theorem dX13_stamp_60 : decode cX13_stamp 60 = .ok (.iconst 1, 1) := by decide +kernel
theorem dX13_stamp_61 : decode cX13_stamp 61 = .ok (.goto 4, 3) := by decide +kernel
theorem dX13_stamp_64 : decode cX13_stamp 64 = .ok (.iconst 0, 1) := by decide +kernel
theorem dX13_stamp_65 : decode cX13_stamp 65 = .ok (.iadd, 1) := by decide +kernel
theorem dX13_stamp_66 : decode cX13_stamp 66 = .ok (.istore_n 3, 1) := by decide +kernel
theorem dX13_stamp_67 : decode cX13_stamp 67 = .ok (.iinc 4 1, 3) := by decide +kernel
theorem dX13_stamp_70 : decode cX13_stamp 70 = .ok (.goto (-37), 3) := by decide +kernel
theorem dX13_stamp_73 : decode cX13_stamp 73 = .ok (.iload_n 2, 1) := by decide +kernel
theorem dX13_stamp_74 : decode cX13_stamp 74 = .ok (.tableswitch 77 0 3 #[30, 43, 57, 71], 30) := by decide +kernel
theorem dX13_stamp_104 : decode cX13_stamp 104 = .ok (.aload_n 0, 1) := by decide +kernel
theorem dX13_stamp_105 : decode cX13_stamp 105 = .ok (.aload_n 0, 1) := by decide +kernel
theorem dX13_stamp_106 : decode cX13_stamp 106 = .ok (.getfield 17, 3) := by decide +kernel
theorem dX13_stamp_109 : decode cX13_stamp 109 = .ok (.iconst 0, 1) := by decide +kernel
theorem dX13_stamp_110 : decode cX13_stamp 110 = .ok (.iload_n 1, 1) := by decide +kernel
theorem dX13_stamp_111 : decode cX13_stamp 111 = .ok (.iadd, 1) := by decide +kernel
theorem dX13_stamp_112 : decode cX13_stamp 112 = .ok (.iaload, 1) := by decide +kernel
theorem dX13_stamp_113 : decode cX13_stamp 113 = .ok (.invokevirtual 58, 3) := by decide +kernel
theorem dX13_stamp_116 : decode cX13_stamp 116 = .ok (.ireturn, 1) := by decide +kernel
theorem dX13_stamp_117 : decode cX13_stamp 117 = .ok (.aload_n 0, 1) := by decide +kernel
theorem dX13_stamp_118 : decode cX13_stamp 118 = .ok (.aload_n 0, 1) := by decide +kernel
theorem dX13_stamp_119 : decode cX13_stamp 119 = .ok (.getfield 338, 3) := by decide +kernel
theorem dX13_stamp_122 : decode cX13_stamp 122 = .ok (.getfield 274, 3) := by decide +kernel
theorem dX13_stamp_125 : decode cX13_stamp 125 = .ok (.iload_n 1, 1) := by decide +kernel
theorem dX13_stamp_126 : decode cX13_stamp 126 = .ok (.iaload, 1) := by decide +kernel
theorem dX13_stamp_127 : decode cX13_stamp 127 = .ok (.invokevirtual 58, 3) := by decide +kernel
theorem dX13_stamp_130 : decode cX13_stamp 130 = .ok (.ireturn, 1) := by decide +kernel
theorem dX13_stamp_131 : decode cX13_stamp 131 = .ok (.aload_n 0, 1) := by decide +kernel
theorem dX13_stamp_132 : decode cX13_stamp 132 = .ok (.aload_n 0, 1) := by decide +kernel
theorem dX13_stamp_133 : decode cX13_stamp 133 = .ok (.getfield 338, 3) := by decide +kernel
theorem dX13_stamp_136 : decode cX13_stamp 136 = .ok (.getfield 277, 3) := by decide +kernel
theorem dX13_stamp_139 : decode cX13_stamp 139 = .ok (.iload_n 1, 1) := by decide +kernel
theorem dX13_stamp_140 : decode cX13_stamp 140 = .ok (.iaload, 1) := by decide +kernel
theorem dX13_stamp_141 : decode cX13_stamp 141 = .ok (.invokevirtual 58, 3) := by decide +kernel
theorem dX13_stamp_144 : decode cX13_stamp 144 = .ok (.ireturn, 1) := by decide +kernel
theorem dX13_stamp_145 : decode cX13_stamp 145 = .ok (.aload_n 0, 1) := by decide +kernel
theorem dX13_stamp_146 : decode cX13_stamp 146 = .ok (.iload_n 3, 1) := by decide +kernel
theorem dX13_stamp_147 : decode cX13_stamp 147 = .ok (.invokevirtual 58, 3) := by decide +kernel
theorem dX13_stamp_150 : decode cX13_stamp 150 = .ok (.ireturn, 1) := by decide +kernel
theorem dX13_stamp_151 : decode cX13_stamp 151 = .ok (.aload_n 0, 1) := by decide +kernel
theorem dX13_stamp_152 : decode cX13_stamp 152 = .ok (.aload_n 0, 1) := by decide +kernel
theorem dX13_stamp_153 : decode cX13_stamp 153 = .ok (.getfield 17, 3) := by decide +kernel
theorem dX13_stamp_156 : decode cX13_stamp 156 = .ok (.iconst 4, 1) := by decide +kernel
theorem dX13_stamp_157 : decode cX13_stamp 157 = .ok (.iload_n 1, 1) := by decide +kernel
theorem dX13_stamp_158 : decode cX13_stamp 158 = .ok (.iadd, 1) := by decide +kernel
theorem dX13_stamp_159 : decode cX13_stamp 159 = .ok (.iaload, 1) := by decide +kernel
theorem dX13_stamp_160 : decode cX13_stamp 160 = .ok (.invokevirtual 58, 3) := by decide +kernel
theorem dX13_stamp_163 : decode cX13_stamp 163 = .ok (.ireturn, 1) := by decide +kernel
theorem dX13_hand_0 : decode cX13_hand 0 = .ok (.aload_n 0, 1) := by decide +kernel
theorem dX13_hand_1 : decode cX13_hand 1 = .ok (.iconst 0, 1) := by decide +kernel
theorem dX13_hand_2 : decode cX13_hand 2 = .ok (.putfield 48, 3) := by decide +kernel
theorem dX13_hand_5 : decode cX13_hand 5 = .ok (.aload_n 0, 1) := by decide +kernel
theorem dX13_hand_6 : decode cX13_hand 6 = .ok (.iload_n 1, 1) := by decide +kernel
theorem dX13_hand_7 : decode cX13_hand 7 = .ok (.invokevirtual 361, 3) := by decide +kernel
theorem dX13_hand_10 : decode cX13_hand 10 = .ok (.ifCond .eq 12, 3) := by decide +kernel
theorem dX13_hand_13 : decode cX13_hand 13 = .ok (.iload_n 2, 1) := by decide +kernel
theorem dX13_hand_14 : decode cX13_hand 14 = .ok (.iconst 0, 1) := by decide +kernel
theorem dX13_hand_15 : decode cX13_hand 15 = .ok (.iconst 2, 1) := by decide +kernel
theorem dX13_hand_16 : decode cX13_hand 16 = .ok (.invokestatic 127, 3) := by decide +kernel
theorem dX13_hand_19 : decode cX13_hand 19 = .ok (.ifCond .ne 9, 3) := by decide +kernel
theorem dX13_hand_22 : decode cX13_hand 22 = .ok (.aload_n 0, 1) := by decide +kernel
theorem dX13_hand_23 : decode cX13_hand 23 = .ok (.iconst 1, 1) := by decide +kernel
theorem dX13_hand_24 : decode cX13_hand 24 = .ok (.invokevirtual 54, 3) := by decide +kernel
theorem dX13_hand_27 : decode cX13_hand 27 = .ok (.ireturn, 1) := by decide +kernel
theorem dX13_hand_28 : decode cX13_hand 28 = .ok (.aload_n 0, 1) := by decide +kernel
theorem dX13_hand_29 : decode cX13_hand 29 = .ok (.iload_n 2, 1) := by decide +kernel
theorem dX13_hand_30 : decode cX13_hand 30 = .ok (.ifCond .ne 15, 3) := by decide +kernel
theorem dX13_hand_33 : decode cX13_hand 33 = .ok (.aload_n 0, 1) := by decide +kernel
theorem dX13_hand_34 : decode cX13_hand 34 = .ok (.getfield 338, 3) := by decide +kernel
theorem dX13_hand_37 : decode cX13_hand 37 = .ok (.getfield 311, 3) := by decide +kernel
theorem dX13_hand_40 : decode cX13_hand 40 = .ok (.iload_n 1, 1) := by decide +kernel
theorem dX13_hand_41 : decode cX13_hand 41 = .ok (.iaload, 1) := by decide +kernel
theorem dX13_hand_42 : decode cX13_hand 42 = .ok (.goto 29, 3) := by decide +kernel
theorem dX13_hand_45 : decode cX13_hand 45 = .ok (.iload_n 2, 1) := by decide +kernel
theorem dX13_hand_46 : decode cX13_hand 46 = .ok (.iconst 1, 1) := by decide +kernel
theorem dX13_hand_47 : decode cX13_hand 47 = .ok (.if_icmp .ne 15, 3) := by decide +kernel
theorem dX13_hand_50 : decode cX13_hand 50 = .ok (.aload_n 0, 1) := by decide +kernel
theorem dX13_hand_51 : decode cX13_hand 51 = .ok (.getfield 338, 3) := by decide +kernel
theorem dX13_hand_54 : decode cX13_hand 54 = .ok (.getfield 313, 3) := by decide +kernel
theorem dX13_hand_57 : decode cX13_hand 57 = .ok (.iload_n 1, 1) := by decide +kernel
theorem dX13_hand_58 : decode cX13_hand 58 = .ok (.iaload, 1) := by decide +kernel
theorem dX13_hand_59 : decode cX13_hand 59 = .ok (.goto 12, 3) := by decide +kernel
theorem dX13_hand_62 : decode cX13_hand 62 = .ok (.aload_n 0, 1) := by decide +kernel
theorem dX13_hand_63 : decode cX13_hand 63 = .ok (.getfield 17, 3) := by decide +kernel
theorem dX13_hand_66 : decode cX13_hand 66 = .ok (.bipush 8, 2) := by decide +kernel
theorem dX13_hand_68 : decode cX13_hand 68 = .ok (.iload_n 1, 1) := by decide +kernel
theorem dX13_hand_69 : decode cX13_hand 69 = .ok (.iadd, 1) := by decide +kernel
theorem dX13_hand_70 : decode cX13_hand 70 = .ok (.iaload, 1) := by decide +kernel
theorem dX13_hand_71 : decode cX13_hand 71 = .ok (.invokevirtual 58, 3) := by decide +kernel
theorem dX13_hand_74 : decode cX13_hand 74 = .ok (.ireturn, 1) := by decide +kernel
theorem dX13_rule_0 : decode cX13_rule 0 = .ok (.aload_n 0, 1) := by decide +kernel
theorem dX13_rule_1 : decode cX13_rule 1 = .ok (.iconst 0, 1) := by decide +kernel
theorem dX13_rule_2 : decode cX13_rule 2 = .ok (.putfield 48, 3) := by decide +kernel
theorem dX13_rule_5 : decode cX13_rule 5 = .ok (.aload_n 0, 1) := by decide +kernel
theorem dX13_rule_6 : decode cX13_rule 6 = .ok (.iload_n 1, 1) := by decide +kernel
theorem dX13_rule_7 : decode cX13_rule 7 = .ok (.invokevirtual 364, 3) := by decide +kernel
theorem dX13_rule_10 : decode cX13_rule 10 = .ok (.ifCond .eq 12, 3) := by decide +kernel
theorem dX13_rule_13 : decode cX13_rule 13 = .ok (.iload_n 2, 1) := by decide +kernel
theorem dX13_rule_14 : decode cX13_rule 14 = .ok (.iconst 0, 1) := by decide +kernel
theorem dX13_rule_15 : decode cX13_rule 15 = .ok (.iconst 3, 1) := by decide +kernel
theorem dX13_rule_16 : decode cX13_rule 16 = .ok (.invokestatic 127, 3) := by decide +kernel
theorem dX13_rule_19 : decode cX13_rule 19 = .ok (.ifCond .ne 9, 3) := by decide +kernel
theorem dX13_rule_22 : decode cX13_rule 22 = .ok (.aload_n 0, 1) := by decide +kernel
theorem dX13_rule_23 : decode cX13_rule 23 = .ok (.iconst 1, 1) := by decide +kernel
theorem dX13_rule_24 : decode cX13_rule 24 = .ok (.invokevirtual 54, 3) := by decide +kernel
theorem dX13_rule_27 : decode cX13_rule 27 = .ok (.ireturn, 1) := by decide +kernel
theorem dX13_rule_28 : decode cX13_rule 28 = .ok (.aload_n 0, 1) := by decide +kernel
theorem dX13_rule_29 : decode cX13_rule 29 = .ok (.iload_n 2, 1) := by decide +kernel
theorem dX13_rule_30 : decode cX13_rule 30 = .ok (.ifCond .ne 15, 3) := by decide +kernel
theorem dX13_rule_33 : decode cX13_rule 33 = .ok (.aload_n 0, 1) := by decide +kernel
theorem dX13_rule_34 : decode cX13_rule 34 = .ok (.getfield 338, 3) := by decide +kernel
theorem dX13_rule_37 : decode cX13_rule 37 = .ok (.getfield 286, 3) := by decide +kernel
theorem dX13_rule_40 : decode cX13_rule 40 = .ok (.iload_n 1, 1) := by decide +kernel
theorem dX13_rule_41 : decode cX13_rule 41 = .ok (.iaload, 1) := by decide +kernel
theorem dX13_rule_42 : decode cX13_rule 42 = .ok (.goto 46, 3) := by decide +kernel
theorem dX13_rule_45 : decode cX13_rule 45 = .ok (.iload_n 2, 1) := by decide +kernel
theorem dX13_rule_46 : decode cX13_rule 46 = .ok (.iconst 1, 1) := by decide +kernel
theorem dX13_rule_47 : decode cX13_rule 47 = .ok (.if_icmp .ne 15, 3) := by decide +kernel
theorem dX13_rule_50 : decode cX13_rule 50 = .ok (.aload_n 0, 1) := by decide +kernel
theorem dX13_rule_51 : decode cX13_rule 51 = .ok (.getfield 338, 3) := by decide +kernel
theorem dX13_rule_54 : decode cX13_rule 54 = .ok (.getfield 289, 3) := by decide +kernel
theorem dX13_rule_57 : decode cX13_rule 57 = .ok (.iload_n 1, 1) := by decide +kernel
theorem dX13_rule_58 : decode cX13_rule 58 = .ok (.iaload, 1) := by decide +kernel
theorem dX13_rule_59 : decode cX13_rule 59 = .ok (.goto 29, 3) := by decide +kernel
theorem dX13_rule_62 : decode cX13_rule 62 = .ok (.iload_n 2, 1) := by decide +kernel
theorem dX13_rule_63 : decode cX13_rule 63 = .ok (.iconst 2, 1) := by decide +kernel
theorem dX13_rule_64 : decode cX13_rule 64 = .ok (.if_icmp .ne 15, 3) := by decide +kernel
theorem dX13_rule_67 : decode cX13_rule 67 = .ok (.aload_n 0, 1) := by decide +kernel
theorem dX13_rule_68 : decode cX13_rule 68 = .ok (.getfield 338, 3) := by decide +kernel
theorem dX13_rule_71 : decode cX13_rule 71 = .ok (.getfield 292, 3) := by decide +kernel
theorem dX13_rule_74 : decode cX13_rule 74 = .ok (.iload_n 1, 1) := by decide +kernel
theorem dX13_rule_75 : decode cX13_rule 75 = .ok (.iaload, 1) := by decide +kernel
theorem dX13_rule_76 : decode cX13_rule 76 = .ok (.goto 12, 3) := by decide +kernel
theorem dX13_rule_79 : decode cX13_rule 79 = .ok (.aload_n 0, 1) := by decide +kernel
theorem dX13_rule_80 : decode cX13_rule 80 = .ok (.getfield 17, 3) := by decide +kernel
theorem dX13_rule_83 : decode cX13_rule 83 = .ok (.bipush 21, 2) := by decide +kernel
theorem dX13_rule_85 : decode cX13_rule 85 = .ok (.iload_n 1, 1) := by decide +kernel
theorem dX13_rule_86 : decode cX13_rule 86 = .ok (.iadd, 1) := by decide +kernel
theorem dX13_rule_87 : decode cX13_rule 87 = .ok (.iaload, 1) := by decide +kernel
theorem dX13_rule_88 : decode cX13_rule 88 = .ok (.invokevirtual 58, 3) := by decide +kernel
theorem dX13_rule_91 : decode cX13_rule 91 = .ok (.ireturn, 1) := by decide +kernel
theorem dX13_says_0 : decode cX13_says 0 = .ok (.aload_n 0, 1) := by decide +kernel
theorem dX13_says_1 : decode cX13_says 1 = .ok (.iconst 0, 1) := by decide +kernel
theorem dX13_says_2 : decode cX13_says 2 = .ok (.putfield 48, 3) := by decide +kernel
theorem dX13_says_5 : decode cX13_says 5 = .ok (.aload_n 0, 1) := by decide +kernel
theorem dX13_says_6 : decode cX13_says 6 = .ok (.iload_n 1, 1) := by decide +kernel
theorem dX13_says_7 : decode cX13_says 7 = .ok (.invokevirtual 358, 3) := by decide +kernel
theorem dX13_says_10 : decode cX13_says 10 = .ok (.ifCond .eq 24, 3) := by decide +kernel
theorem dX13_says_13 : decode cX13_says 13 = .ok (.aload_n 0, 1) := by decide +kernel
theorem dX13_says_14 : decode cX13_says 14 = .ok (.iload_n 2, 1) := by decide +kernel
theorem dX13_says_15 : decode cX13_says 15 = .ok (.invokevirtual 355, 3) := by decide +kernel
theorem dX13_says_18 : decode cX13_says 18 = .ok (.ifCond .eq 16, 3) := by decide +kernel
theorem dX13_says_21 : decode cX13_says 21 = .ok (.aload_n 0, 1) := by decide +kernel
theorem dX13_says_22 : decode cX13_says 22 = .ok (.aload_n 0, 1) := by decide +kernel
theorem dX13_says_23 : decode cX13_says 23 = .ok (.iload_n 1, 1) := by decide +kernel
theorem dX13_says_24 : decode cX13_says 24 = .ok (.iload_n 2, 1) := by decide +kernel
theorem dX13_says_25 : decode cX13_says 25 = .ok (.invokevirtual 367, 3) := by decide +kernel
theorem dX13_says_28 : decode cX13_says 28 = .ok (.invokevirtual 58, 3) := by decide +kernel
theorem dX13_says_31 : decode cX13_says 31 = .ok (.goto 8, 3) := by decide +kernel
theorem dX13_says_34 : decode cX13_says 34 = .ok (.aload_n 0, 1) := by decide +kernel
theorem dX13_says_35 : decode cX13_says 35 = .ok (.iconst 1, 1) := by decide +kernel
theorem dX13_says_36 : decode cX13_says 36 = .ok (.invokevirtual 54, 3) := by decide +kernel
theorem dX13_says_39 : decode cX13_says 39 = .ok (.ireturn, 1) := by decide +kernel
theorem dX13_byRule_0 : decode cX13_byRule 0 = .ok (.aload_n 0, 1) := by decide +kernel
theorem dX13_byRule_1 : decode cX13_byRule 1 = .ok (.iconst 0, 1) := by decide +kernel
theorem dX13_byRule_2 : decode cX13_byRule 2 = .ok (.putfield 48, 3) := by decide +kernel
theorem dX13_byRule_5 : decode cX13_byRule 5 = .ok (.aload_n 0, 1) := by decide +kernel
theorem dX13_byRule_6 : decode cX13_byRule 6 = .ok (.iload_n 1, 1) := by decide +kernel
theorem dX13_byRule_7 : decode cX13_byRule 7 = .ok (.invokevirtual 358, 3) := by decide +kernel
theorem dX13_byRule_10 : decode cX13_byRule 10 = .ok (.ifCond .eq 32, 3) := by decide +kernel
theorem dX13_byRule_13 : decode cX13_byRule 13 = .ok (.aload_n 0, 1) := by decide +kernel
theorem dX13_byRule_14 : decode cX13_byRule 14 = .ok (.iload_n 2, 1) := by decide +kernel
theorem dX13_byRule_15 : decode cX13_byRule 15 = .ok (.invokevirtual 355, 3) := by decide +kernel
theorem dX13_byRule_18 : decode cX13_byRule 18 = .ok (.ifCond .eq 24, 3) := by decide +kernel
theorem dX13_byRule_21 : decode cX13_byRule 21 = .ok (.aload_n 0, 1) := by decide +kernel
theorem dX13_byRule_22 : decode cX13_byRule 22 = .ok (.aload_n 0, 1) := by decide +kernel
theorem dX13_byRule_23 : decode cX13_byRule 23 = .ok (.iload_n 1, 1) := by decide +kernel
theorem dX13_byRule_24 : decode cX13_byRule 24 = .ok (.aload_n 0, 1) := by decide +kernel
theorem dX13_byRule_25 : decode cX13_byRule 25 = .ok (.getfield 17, 3) := by decide +kernel
theorem dX13_byRule_28 : decode cX13_byRule 28 = .ok (.bipush 11, 2) := by decide +kernel
theorem dX13_byRule_30 : decode cX13_byRule 30 = .ok (.iload_n 2, 1) := by decide +kernel
theorem dX13_byRule_31 : decode cX13_byRule 31 = .ok (.iadd, 1) := by decide +kernel
theorem dX13_byRule_32 : decode cX13_byRule 32 = .ok (.iaload, 1) := by decide +kernel
theorem dX13_byRule_33 : decode cX13_byRule 33 = .ok (.invokevirtual 346, 3) := by decide +kernel
theorem dX13_byRule_36 : decode cX13_byRule 36 = .ok (.invokevirtual 58, 3) := by decide +kernel
theorem dX13_byRule_39 : decode cX13_byRule 39 = .ok (.goto 8, 3) := by decide +kernel
theorem dX13_byRule_42 : decode cX13_byRule 42 = .ok (.aload_n 0, 1) := by decide +kernel
theorem dX13_byRule_43 : decode cX13_byRule 43 = .ok (.iconst 1, 1) := by decide +kernel
theorem dX13_byRule_44 : decode cX13_byRule 44 = .ok (.invokevirtual 54, 3) := by decide +kernel
theorem dX13_byRule_47 : decode cX13_byRule 47 = .ok (.ireturn, 1) := by decide +kernel
theorem dX13_saysOf_0 : decode cX13_saysOf 0 = .ok (.aload_n 0, 1) := by decide +kernel
theorem dX13_saysOf_1 : decode cX13_saysOf 1 = .ok (.iconst 0, 1) := by decide +kernel
theorem dX13_saysOf_2 : decode cX13_saysOf 2 = .ok (.putfield 48, 3) := by decide +kernel
theorem dX13_saysOf_5 : decode cX13_saysOf 5 = .ok (.aload_n 0, 1) := by decide +kernel
theorem dX13_saysOf_6 : decode cX13_saysOf 6 = .ok (.iload_n 1, 1) := by decide +kernel
theorem dX13_saysOf_7 : decode cX13_saysOf 7 = .ok (.invokevirtual 358, 3) := by decide +kernel
theorem dX13_saysOf_10 : decode cX13_saysOf 10 = .ok (.ifCond .eq 28, 3) := by decide +kernel
theorem dX13_saysOf_13 : decode cX13_saysOf 13 = .ok (.iload_n 2, 1) := by decide +kernel
theorem dX13_saysOf_14 : decode cX13_saysOf 14 = .ok (.ifCond .lt 24, 3) := by decide +kernel
theorem dX13_saysOf_17 : decode cX13_saysOf 17 = .ok (.iload_n 2, 1) := by decide +kernel
theorem dX13_saysOf_18 : decode cX13_saysOf 18 = .ok (.aload_n 0, 1) := by decide +kernel
theorem dX13_saysOf_19 : decode cX13_saysOf 19 = .ok (.invokevirtual 370, 3) := by decide +kernel
theorem dX13_saysOf_22 : decode cX13_saysOf 22 = .ok (.if_icmp .ge 16, 3) := by decide +kernel
theorem dX13_saysOf_25 : decode cX13_saysOf 25 = .ok (.aload_n 0, 1) := by decide +kernel
theorem dX13_saysOf_26 : decode cX13_saysOf 26 = .ok (.aload_n 0, 1) := by decide +kernel
theorem dX13_saysOf_27 : decode cX13_saysOf 27 = .ok (.iload_n 1, 1) := by decide +kernel
theorem dX13_saysOf_28 : decode cX13_saysOf 28 = .ok (.iload_n 2, 1) := by decide +kernel
theorem dX13_saysOf_29 : decode cX13_saysOf 29 = .ok (.invokevirtual 349, 3) := by decide +kernel
theorem dX13_saysOf_32 : decode cX13_saysOf 32 = .ok (.invokevirtual 58, 3) := by decide +kernel
theorem dX13_saysOf_35 : decode cX13_saysOf 35 = .ok (.goto 8, 3) := by decide +kernel
theorem dX13_saysOf_38 : decode cX13_saysOf 38 = .ok (.aload_n 0, 1) := by decide +kernel
theorem dX13_saysOf_39 : decode cX13_saysOf 39 = .ok (.iconst 1, 1) := by decide +kernel
theorem dX13_saysOf_40 : decode cX13_saysOf 40 = .ok (.invokevirtual 54, 3) := by decide +kernel
theorem dX13_saysOf_43 : decode cX13_saysOf 43 = .ok (.ireturn, 1) := by decide +kernel
theorem dX13_prints_0 : decode cX13_prints 0 = .ok (.aload_n 0, 1) := by decide +kernel
theorem dX13_prints_1 : decode cX13_prints 1 = .ok (.iconst 0, 1) := by decide +kernel
theorem dX13_prints_2 : decode cX13_prints 2 = .ok (.putfield 48, 3) := by decide +kernel
theorem dX13_prints_5 : decode cX13_prints 5 = .ok (.aload_n 0, 1) := by decide +kernel
theorem dX13_prints_6 : decode cX13_prints 6 = .ok (.iload_n 1, 1) := by decide +kernel
theorem dX13_prints_7 : decode cX13_prints 7 = .ok (.invokevirtual 358, 3) := by decide +kernel
theorem dX13_prints_10 : decode cX13_prints 10 = .ok (.ifCond .eq 37, 3) := by decide +kernel
theorem dX13_prints_13 : decode cX13_prints 13 = .ok (.aload_n 0, 1) := by decide +kernel
theorem dX13_prints_14 : decode cX13_prints 14 = .ok (.iload_n 2, 1) := by decide +kernel
theorem dX13_prints_15 : decode cX13_prints 15 = .ok (.invokevirtual 361, 3) := by decide +kernel
theorem dX13_prints_18 : decode cX13_prints 18 = .ok (.ifCond .eq 29, 3) := by decide +kernel
theorem dX13_prints_21 : decode cX13_prints 21 = .ok (.aload_n 0, 1) := by decide +kernel
theorem dX13_prints_22 : decode cX13_prints 22 = .ok (.iload_n 3, 1) := by decide +kernel
theorem dX13_prints_23 : decode cX13_prints 23 = .ok (.invokevirtual 355, 3) := by decide +kernel
theorem dX13_prints_26 : decode cX13_prints 26 = .ok (.ifCond .eq 21, 3) := by decide +kernel
theorem dX13_prints_29 : decode cX13_prints 29 = .ok (.aload_n 0, 1) := by decide +kernel
theorem dX13_prints_30 : decode cX13_prints 30 = .ok (.aload_n 0, 1) := by decide +kernel
theorem dX13_prints_31 : decode cX13_prints 31 = .ok (.iload_n 2, 1) := by decide +kernel
theorem dX13_prints_32 : decode cX13_prints 32 = .ok (.aload_n 0, 1) := by decide +kernel
theorem dX13_prints_33 : decode cX13_prints 33 = .ok (.iload_n 1, 1) := by decide +kernel
theorem dX13_prints_34 : decode cX13_prints 34 = .ok (.iload_n 3, 1) := by decide +kernel
theorem dX13_prints_35 : decode cX13_prints 35 = .ok (.invokevirtual 367, 3) := by decide +kernel
theorem dX13_prints_38 : decode cX13_prints 38 = .ok (.invokevirtual 352, 3) := by decide +kernel
theorem dX13_prints_41 : decode cX13_prints 41 = .ok (.invokevirtual 58, 3) := by decide +kernel
theorem dX13_prints_44 : decode cX13_prints 44 = .ok (.goto 8, 3) := by decide +kernel
theorem dX13_prints_47 : decode cX13_prints 47 = .ok (.aload_n 0, 1) := by decide +kernel
theorem dX13_prints_48 : decode cX13_prints 48 = .ok (.iconst 1, 1) := by decide +kernel
theorem dX13_prints_49 : decode cX13_prints 49 = .ok (.invokevirtual 54, 3) := by decide +kernel
theorem dX13_prints_52 : decode cX13_prints 52 = .ok (.ireturn, 1) := by decide +kernel
theorem dX13_sayers_0 : decode cX13_sayers 0 = .ok (.aload_n 0, 1) := by decide +kernel
theorem dX13_sayers_1 : decode cX13_sayers 1 = .ok (.iconst 0, 1) := by decide +kernel
theorem dX13_sayers_2 : decode cX13_sayers 2 = .ok (.putfield 48, 3) := by decide +kernel
theorem dX13_sayers_5 : decode cX13_sayers 5 = .ok (.aload_n 0, 1) := by decide +kernel
theorem dX13_sayers_6 : decode cX13_sayers 6 = .ok (.iload_n 1, 1) := by decide +kernel
theorem dX13_sayers_7 : decode cX13_sayers 7 = .ok (.invokevirtual 355, 3) := by decide +kernel
theorem dX13_sayers_10 : decode cX13_sayers 10 = .ok (.ifCond .ne 9, 3) := by decide +kernel
theorem dX13_sayers_13 : decode cX13_sayers 13 = .ok (.aload_n 0, 1) := by decide +kernel
theorem dX13_sayers_14 : decode cX13_sayers 14 = .ok (.iconst 1, 1) := by decide +kernel
theorem dX13_sayers_15 : decode cX13_sayers 15 = .ok (.invokevirtual 54, 3) := by decide +kernel
theorem dX13_sayers_18 : decode cX13_sayers 18 = .ok (.ireturn, 1) := by decide +kernel
theorem dX13_sayers_19 : decode cX13_sayers 19 = .ok (.iload_n 2, 1) := by decide +kernel
theorem dX13_sayers_20 : decode cX13_sayers 20 = .ok (.invokestatic 373, 3) := by decide +kernel
theorem dX13_sayers_23 : decode cX13_sayers 23 = .ok (.ifCond .ne 9, 3) := by decide +kernel
theorem dX13_sayers_26 : decode cX13_sayers 26 = .ok (.aload_n 0, 1) := by decide +kernel
theorem dX13_sayers_27 : decode cX13_sayers 27 = .ok (.iconst 2, 1) := by decide +kernel
theorem dX13_sayers_28 : decode cX13_sayers 28 = .ok (.invokevirtual 54, 3) := by decide +kernel
theorem dX13_sayers_31 : decode cX13_sayers 31 = .ok (.ireturn, 1) := by decide +kernel
theorem dX13_sayers_32 : decode cX13_sayers 32 = .ok (.iconst 0, 1) := by decide +kernel
theorem dX13_sayers_33 : decode cX13_sayers 33 = .ok (.istore_n 3, 1) := by decide +kernel
theorem dX13_sayers_34 : decode cX13_sayers 34 = .ok (.iconst 0, 1) := by decide +kernel
theorem dX13_sayers_35 : decode cX13_sayers 35 = .ok (.istore 4, 2) := by decide +kernel
theorem dX13_sayers_37 : decode cX13_sayers 37 = .ok (.iload 4, 2) := by decide +kernel
theorem dX13_sayers_39 : decode cX13_sayers 39 = .ok (.aload_n 0, 1) := by decide +kernel
theorem dX13_sayers_40 : decode cX13_sayers 40 = .ok (.getfield 338, 3) := by decide +kernel
theorem dX13_sayers_43 : decode cX13_sayers 43 = .ok (.getfield 262, 3) := by decide +kernel
theorem dX13_sayers_46 : decode cX13_sayers 46 = .ok (.if_icmp .ge 31, 3) := by decide +kernel
theorem dX13_sayers_49 : decode cX13_sayers 49 = .ok (.iload_n 3, 1) := by decide +kernel
theorem dX13_sayers_50 : decode cX13_sayers 50 = .ok (.aload_n 0, 1) := by decide +kernel
theorem dX13_sayers_51 : decode cX13_sayers 51 = .ok (.iload 4, 2) := by decide +kernel
theorem dX13_sayers_53 : decode cX13_sayers 53 = .ok (.iload_n 1, 1) := by decide +kernel
theorem dX13_sayers_54 : decode cX13_sayers 54 = .ok (.invokevirtual 367, 3) := by decide +kernel
theorem dX13_sayers_57 : decode cX13_sayers 57 = .ok (.iload_n 2, 1) := by decide +kernel
theorem dX13_sayers_58 : decode cX13_sayers 58 = .ok (.if_icmp .ne 10, 3) := by decide +kernel
theorem dX13_sayers_61 : decode cX13_sayers 61 = .ok (.iconst 1, 1) := by decide +kernel
theorem dX13_sayers_62 : decode cX13_sayers 62 = .ok (.iload 4, 2) := by decide +kernel
theorem dX13_sayers_64 : decode cX13_sayers 64 = .ok (.ishl, 1) := by decide +kernel
theorem dX13_sayers_65 : decode cX13_sayers 65 = .ok (.goto 4, 3) := by decide +kernel
theorem dX13_sayers_68 : decode cX13_sayers 68 = .ok (.iconst 0, 1) := by decide +kernel
theorem dX13_sayers_69 : decode cX13_sayers 69 = .ok (.ior, 1) := by decide +kernel
theorem dX13_sayers_70 : decode cX13_sayers 70 = .ok (.istore_n 3, 1) := by decide +kernel
theorem dX13_sayers_71 : decode cX13_sayers 71 = .ok (.iinc 4 1, 3) := by decide +kernel
theorem dX13_sayers_74 : decode cX13_sayers 74 = .ok (.goto (-37), 3) := by decide +kernel
theorem dX13_sayers_77 : decode cX13_sayers 77 = .ok (.aload_n 0, 1) := by decide +kernel
theorem dX13_sayers_78 : decode cX13_sayers 78 = .ok (.iload_n 3, 1) := by decide +kernel
theorem dX13_sayers_79 : decode cX13_sayers 79 = .ok (.invokevirtual 58, 3) := by decide +kernel
theorem dX13_sayers_82 : decode cX13_sayers 82 = .ok (.ireturn, 1) := by decide +kernel
theorem dX13_idleRules_0 : decode cX13_idleRules 0 = .ok (.aload_n 0, 1) := by decide +kernel
theorem dX13_idleRules_1 : decode cX13_idleRules 1 = .ok (.iconst 0, 1) := by decide +kernel
theorem dX13_idleRules_2 : decode cX13_idleRules 2 = .ok (.putfield 48, 3) := by decide +kernel
theorem dX13_idleRules_5 : decode cX13_idleRules 5 = .ok (.aload_n 0, 1) := by decide +kernel
theorem dX13_idleRules_6 : decode cX13_idleRules 6 = .ok (.iload_n 1, 1) := by decide +kernel
theorem dX13_idleRules_7 : decode cX13_idleRules 7 = .ok (.invokevirtual 358, 3) := by decide +kernel
theorem dX13_idleRules_10 : decode cX13_idleRules 10 = .ok (.ifCond .ne 9, 3) := by decide +kernel
theorem dX13_idleRules_13 : decode cX13_idleRules 13 = .ok (.aload_n 0, 1) := by decide +kernel
theorem dX13_idleRules_14 : decode cX13_idleRules 14 = .ok (.iconst 1, 1) := by decide +kernel
theorem dX13_idleRules_15 : decode cX13_idleRules 15 = .ok (.invokevirtual 54, 3) := by decide +kernel
theorem dX13_idleRules_18 : decode cX13_idleRules 18 = .ok (.ireturn, 1) := by decide +kernel
theorem dX13_idleRules_19 : decode cX13_idleRules 19 = .ok (.iconst 0, 1) := by decide +kernel
theorem dX13_idleRules_20 : decode cX13_idleRules 20 = .ok (.istore_n 2, 1) := by decide +kernel
theorem dX13_idleRules_21 : decode cX13_idleRules 21 = .ok (.iconst 0, 1) := by decide +kernel
theorem dX13_idleRules_22 : decode cX13_idleRules 22 = .ok (.istore_n 3, 1) := by decide +kernel
theorem dX13_idleRules_23 : decode cX13_idleRules 23 = .ok (.iload_n 3, 1) := by decide +kernel
theorem dX13_idleRules_24 : decode cX13_idleRules 24 = .ok (.aload_n 0, 1) := by decide +kernel
theorem dX13_idleRules_25 : decode cX13_idleRules 25 = .ok (.getfield 338, 3) := by decide +kernel
theorem dX13_idleRules_28 : decode cX13_idleRules 28 = .ok (.getfield 280, 3) := by decide +kernel
theorem dX13_idleRules_31 : decode cX13_idleRules 31 = .ok (.if_icmp .ge 32, 3) := by decide +kernel
theorem dX13_idleRules_34 : decode cX13_idleRules 34 = .ok (.iload_n 2, 1) := by decide +kernel
theorem dX13_idleRules_35 : decode cX13_idleRules 35 = .ok (.aload_n 0, 1) := by decide +kernel
theorem dX13_idleRules_36 : decode cX13_idleRules 36 = .ok (.getfield 338, 3) := by decide +kernel
theorem dX13_idleRules_39 : decode cX13_idleRules 39 = .ok (.getfield 286, 3) := by decide +kernel
theorem dX13_idleRules_42 : decode cX13_idleRules 42 = .ok (.iload_n 3, 1) := by decide +kernel
theorem dX13_idleRules_43 : decode cX13_idleRules 43 = .ok (.iaload, 1) := by decide +kernel
theorem dX13_idleRules_44 : decode cX13_idleRules 44 = .ok (.iload_n 1, 1) := by decide +kernel
theorem dX13_idleRules_45 : decode cX13_idleRules 45 = .ok (.if_icmp .ne 9, 3) := by decide +kernel
theorem dX13_idleRules_48 : decode cX13_idleRules 48 = .ok (.iconst 1, 1) := by decide +kernel
theorem dX13_idleRules_49 : decode cX13_idleRules 49 = .ok (.iload_n 3, 1) := by decide +kernel
theorem dX13_idleRules_50 : decode cX13_idleRules 50 = .ok (.ishl, 1) := by decide +kernel
theorem dX13_idleRules_51 : decode cX13_idleRules 51 = .ok (.goto 4, 3) := by decide +kernel
theorem dX13_idleRules_54 : decode cX13_idleRules 54 = .ok (.iconst 0, 1) := by decide +kernel
theorem dX13_idleRules_55 : decode cX13_idleRules 55 = .ok (.ior, 1) := by decide +kernel
theorem dX13_idleRules_56 : decode cX13_idleRules 56 = .ok (.istore_n 2, 1) := by decide +kernel
theorem dX13_idleRules_57 : decode cX13_idleRules 57 = .ok (.iinc 3 1, 3) := by decide +kernel
theorem dX13_idleRules_60 : decode cX13_idleRules 60 = .ok (.goto (-37), 3) := by decide +kernel
theorem dX13_idleRules_63 : decode cX13_idleRules 63 = .ok (.iconst 0, 1) := by decide +kernel
theorem dX13_idleRules_64 : decode cX13_idleRules 64 = .ok (.istore_n 3, 1) := by decide +kernel
theorem dX13_idleRules_65 : decode cX13_idleRules 65 = .ok (.iload_n 3, 1) := by decide +kernel
theorem dX13_idleRules_66 : decode cX13_idleRules 66 = .ok (.aload_n 0, 1) := by decide +kernel
theorem dX13_idleRules_67 : decode cX13_idleRules 67 = .ok (.invokevirtual 370, 3) := by decide +kernel
theorem dX13_idleRules_70 : decode cX13_idleRules 70 = .ok (.if_icmp .ge 33, 3) := by decide +kernel
theorem dX13_idleRules_73 : decode cX13_idleRules 73 = .ok (.aload_n 0, 1) := by decide +kernel
theorem dX13_idleRules_74 : decode cX13_idleRules 74 = .ok (.iload_n 1, 1) := by decide +kernel
theorem dX13_idleRules_75 : decode cX13_idleRules 75 = .ok (.iload_n 3, 1) := by decide +kernel
theorem dX13_idleRules_76 : decode cX13_idleRules 76 = .ok (.invokevirtual 346, 3) := by decide +kernel
theorem dX13_idleRules_79 : decode cX13_idleRules 79 = .ok (.istore 4, 2) := by decide +kernel
theorem dX13_idleRules_81 : decode cX13_idleRules 81 = .ok (.iload 4, 2) := by decide +kernel
theorem dX13_idleRules_83 : decode cX13_idleRules 83 = .ok (.bipush (-2), 2) := by decide +kernel
theorem dX13_idleRules_85 : decode cX13_idleRules 85 = .ok (.if_icmp .eq 12, 3) := by decide +kernel
theorem dX13_idleRules_88 : decode cX13_idleRules 88 = .ok (.iload_n 2, 1) := by decide +kernel
theorem dX13_idleRules_89 : decode cX13_idleRules 89 = .ok (.iconst 1, 1) := by decide +kernel
theorem dX13_idleRules_90 : decode cX13_idleRules 90 = .ok (.iload 4, 2) := by decide +kernel
theorem dX13_idleRules_92 : decode cX13_idleRules 92 = .ok (.ishl, 1) := by decide +kernel
theorem dX13_idleRules_93 : decode cX13_idleRules 93 = .ok (.iconst (-1), 1) := by decide +kernel
theorem dX13_idleRules_94 : decode cX13_idleRules 94 = .ok (.ixor, 1) := by decide +kernel
theorem dX13_idleRules_95 : decode cX13_idleRules 95 = .ok (.iand, 1) := by decide +kernel
theorem dX13_idleRules_96 : decode cX13_idleRules 96 = .ok (.istore_n 2, 1) := by decide +kernel
theorem dX13_idleRules_97 : decode cX13_idleRules 97 = .ok (.iinc 3 1, 3) := by decide +kernel
theorem dX13_idleRules_100 : decode cX13_idleRules 100 = .ok (.goto (-35), 3) := by decide +kernel
theorem dX13_idleRules_103 : decode cX13_idleRules 103 = .ok (.aload_n 0, 1) := by decide +kernel
theorem dX13_idleRules_104 : decode cX13_idleRules 104 = .ok (.iload_n 2, 1) := by decide +kernel
theorem dX13_idleRules_105 : decode cX13_idleRules 105 = .ok (.invokevirtual 58, 3) := by decide +kernel
theorem dX13_idleRules_108 : decode cX13_idleRules 108 = .ok (.ireturn, 1) := by decide +kernel
theorem dX13_differ_0 : decode cX13_differ 0 = .ok (.aload_n 0, 1) := by decide +kernel
theorem dX13_differ_1 : decode cX13_differ 1 = .ok (.iconst 0, 1) := by decide +kernel
theorem dX13_differ_2 : decode cX13_differ 2 = .ok (.putfield 48, 3) := by decide +kernel
theorem dX13_differ_5 : decode cX13_differ 5 = .ok (.aload_n 0, 1) := by decide +kernel
theorem dX13_differ_6 : decode cX13_differ 6 = .ok (.iload_n 1, 1) := by decide +kernel
theorem dX13_differ_7 : decode cX13_differ 7 = .ok (.invokevirtual 358, 3) := by decide +kernel
theorem dX13_differ_10 : decode cX13_differ 10 = .ok (.ifCond .eq 16, 3) := by decide +kernel
theorem dX13_differ_13 : decode cX13_differ 13 = .ok (.aload_n 0, 1) := by decide +kernel
theorem dX13_differ_14 : decode cX13_differ 14 = .ok (.iload_n 2, 1) := by decide +kernel
theorem dX13_differ_15 : decode cX13_differ 15 = .ok (.invokevirtual 358, 3) := by decide +kernel
theorem dX13_differ_18 : decode cX13_differ 18 = .ok (.ifCond .eq 8, 3) := by decide +kernel
theorem dX13_differ_21 : decode cX13_differ 21 = .ok (.iload_n 1, 1) := by decide +kernel
theorem dX13_differ_22 : decode cX13_differ 22 = .ok (.iload_n 2, 1) := by decide +kernel
theorem dX13_differ_23 : decode cX13_differ 23 = .ok (.if_icmp .ne 9, 3) := by decide +kernel
theorem dX13_differ_26 : decode cX13_differ 26 = .ok (.aload_n 0, 1) := by decide +kernel
theorem dX13_differ_27 : decode cX13_differ 27 = .ok (.iconst 1, 1) := by decide +kernel
theorem dX13_differ_28 : decode cX13_differ 28 = .ok (.invokevirtual 54, 3) := by decide +kernel
theorem dX13_differ_31 : decode cX13_differ 31 = .ok (.ireturn, 1) := by decide +kernel
theorem dX13_differ_32 : decode cX13_differ 32 = .ok (.iconst 0, 1) := by decide +kernel
theorem dX13_differ_33 : decode cX13_differ 33 = .ok (.istore_n 3, 1) := by decide +kernel
theorem dX13_differ_34 : decode cX13_differ 34 = .ok (.iconst 0, 1) := by decide +kernel
theorem dX13_differ_35 : decode cX13_differ 35 = .ok (.istore 4, 2) := by decide +kernel
theorem dX13_differ_37 : decode cX13_differ 37 = .ok (.iload 4, 2) := by decide +kernel
theorem dX13_differ_39 : decode cX13_differ 39 = .ok (.aload_n 0, 1) := by decide +kernel
theorem dX13_differ_40 : decode cX13_differ 40 = .ok (.invokevirtual 370, 3) := by decide +kernel
theorem dX13_differ_43 : decode cX13_differ 43 = .ok (.if_icmp .ge 34, 3) := by decide +kernel
theorem dX13_differ_46 : decode cX13_differ 46 = .ok (.iload_n 3, 1) := by decide +kernel
theorem dX13_differ_47 : decode cX13_differ 47 = .ok (.aload_n 0, 1) := by decide +kernel
theorem dX13_differ_48 : decode cX13_differ 48 = .ok (.iload_n 1, 1) := by decide +kernel
theorem dX13_differ_49 : decode cX13_differ 49 = .ok (.iload 4, 2) := by decide +kernel
theorem dX13_differ_51 : decode cX13_differ 51 = .ok (.invokevirtual 349, 3) := by decide +kernel
theorem dX13_differ_54 : decode cX13_differ 54 = .ok (.aload_n 0, 1) := by decide +kernel
theorem dX13_differ_55 : decode cX13_differ 55 = .ok (.iload_n 2, 1) := by decide +kernel
theorem dX13_differ_56 : decode cX13_differ 56 = .ok (.iload 4, 2) := by decide +kernel
theorem dX13_differ_58 : decode cX13_differ 58 = .ok (.invokevirtual 349, 3) := by decide +kernel
theorem dX13_differ_61 : decode cX13_differ 61 = .ok (.if_icmp .eq 7, 3) := by decide +kernel
theorem dX13_differ_64 : decode cX13_differ 64 = .ok (.iconst 1, 1) := by decide +kernel
theorem dX13_differ_65 : decode cX13_differ 65 = .ok (.goto 4, 3) := by decide +kernel
theorem dX13_differ_68 : decode cX13_differ 68 = .ok (.iconst 0, 1) := by decide +kernel
theorem dX13_differ_69 : decode cX13_differ 69 = .ok (.iadd, 1) := by decide +kernel
theorem dX13_differ_70 : decode cX13_differ 70 = .ok (.istore_n 3, 1) := by decide +kernel
theorem dX13_differ_71 : decode cX13_differ 71 = .ok (.iinc 4 1, 3) := by decide +kernel
theorem dX13_differ_74 : decode cX13_differ 74 = .ok (.goto (-37), 3) := by decide +kernel
theorem dX13_differ_77 : decode cX13_differ 77 = .ok (.aload_n 0, 1) := by decide +kernel
theorem dX13_differ_78 : decode cX13_differ 78 = .ok (.iload_n 3, 1) := by decide +kernel
theorem dX13_differ_79 : decode cX13_differ 79 = .ok (.invokevirtual 58, 3) := by decide +kernel
theorem dX13_differ_82 : decode cX13_differ 82 = .ok (.ireturn, 1) := by decide +kernel
theorem dX13_pairsMany_0 : decode cX13_pairsMany 0 = .ok (.aload_n 0, 1) := by decide +kernel
theorem dX13_pairsMany_1 : decode cX13_pairsMany 1 = .ok (.getfield 338, 3) := by decide +kernel
theorem dX13_pairsMany_4 : decode cX13_pairsMany 4 = .ok (.getfield 262, 3) := by decide +kernel
theorem dX13_pairsMany_7 : decode cX13_pairsMany 7 = .ok (.aload_n 0, 1) := by decide +kernel
theorem dX13_pairsMany_8 : decode cX13_pairsMany 8 = .ok (.getfield 338, 3) := by decide +kernel
theorem dX13_pairsMany_11 : decode cX13_pairsMany 11 = .ok (.getfield 298, 3) := by decide +kernel
theorem dX13_pairsMany_14 : decode cX13_pairsMany 14 = .ok (.imul, 1) := by decide +kernel
theorem dX13_pairsMany_15 : decode cX13_pairsMany 15 = .ok (.ireturn, 1) := by decide +kernel
theorem dX13_canBe_0 : decode cX13_canBe 0 = .ok (.iload_n 2, 1) := by decide +kernel
theorem dX13_canBe_1 : decode cX13_canBe 1 = .ok (.aload_n 0, 1) := by decide +kernel
theorem dX13_canBe_2 : decode cX13_canBe 2 = .ok (.getfield 338, 3) := by decide +kernel
theorem dX13_canBe_5 : decode cX13_canBe 5 = .ok (.getfield 298, 3) := by decide +kernel
theorem dX13_canBe_8 : decode cX13_canBe 8 = .ok (.idiv, 1) := by decide +kernel
theorem dX13_canBe_9 : decode cX13_canBe 9 = .ok (.istore_n 3, 1) := by decide +kernel
theorem dX13_canBe_10 : decode cX13_canBe 10 = .ok (.iload_n 2, 1) := by decide +kernel
theorem dX13_canBe_11 : decode cX13_canBe 11 = .ok (.aload_n 0, 1) := by decide +kernel
theorem dX13_canBe_12 : decode cX13_canBe 12 = .ok (.getfield 338, 3) := by decide +kernel
theorem dX13_canBe_15 : decode cX13_canBe 15 = .ok (.getfield 298, 3) := by decide +kernel
theorem dX13_canBe_18 : decode cX13_canBe 18 = .ok (.irem, 1) := by decide +kernel
theorem dX13_canBe_19 : decode cX13_canBe 19 = .ok (.istore 4, 2) := by decide +kernel
theorem dX13_canBe_21 : decode cX13_canBe 21 = .ok (.aload_n 0, 1) := by decide +kernel
theorem dX13_canBe_22 : decode cX13_canBe 22 = .ok (.getfield 338, 3) := by decide +kernel
theorem dX13_canBe_25 : decode cX13_canBe 25 = .ok (.getfield 315, 3) := by decide +kernel
theorem dX13_canBe_28 : decode cX13_canBe 28 = .ok (.iload_n 1, 1) := by decide +kernel
theorem dX13_canBe_29 : decode cX13_canBe 29 = .ok (.iaload, 1) := by decide +kernel
theorem dX13_canBe_30 : decode cX13_canBe 30 = .ok (.bipush (-2), 2) := by decide +kernel
theorem dX13_canBe_32 : decode cX13_canBe 32 = .ok (.if_icmp .eq 57, 3) := by decide +kernel
theorem dX13_canBe_35 : decode cX13_canBe 35 = .ok (.aload_n 0, 1) := by decide +kernel
theorem dX13_canBe_36 : decode cX13_canBe 36 = .ok (.getfield 33, 3) := by decide +kernel
theorem dX13_canBe_39 : decode cX13_canBe 39 = .ok (.iload_n 3, 1) := by decide +kernel
theorem dX13_canBe_40 : decode cX13_canBe 40 = .ok (.iaload, 1) := by decide +kernel
theorem dX13_canBe_41 : decode cX13_canBe 41 = .ok (.aload_n 0, 1) := by decide +kernel
theorem dX13_canBe_42 : decode cX13_canBe 42 = .ok (.getfield 39, 3) := by decide +kernel
theorem dX13_canBe_45 : decode cX13_canBe 45 = .ok (.iload_n 3, 1) := by decide +kernel
theorem dX13_canBe_46 : decode cX13_canBe 46 = .ok (.iaload, 1) := by decide +kernel
theorem dX13_canBe_47 : decode cX13_canBe 47 = .ok (.if_icmp .ge 42, 3) := by decide +kernel
theorem dX13_canBe_50 : decode cX13_canBe 50 = .ok (.aload_n 0, 1) := by decide +kernel
theorem dX13_canBe_51 : decode cX13_canBe 51 = .ok (.getfield 36, 3) := by decide +kernel
theorem dX13_canBe_54 : decode cX13_canBe 54 = .ok (.iload 4, 2) := by decide +kernel
theorem dX13_canBe_56 : decode cX13_canBe 56 = .ok (.iaload, 1) := by decide +kernel
theorem dX13_canBe_57 : decode cX13_canBe 57 = .ok (.iconst 2, 1) := by decide +kernel
theorem dX13_canBe_58 : decode cX13_canBe 58 = .ok (.if_icmp .ge 31, 3) := by decide +kernel
theorem dX13_canBe_61 : decode cX13_canBe 61 = .ok (.aload_n 0, 1) := by decide +kernel
theorem dX13_canBe_62 : decode cX13_canBe 62 = .ok (.iload 4, 2) := by decide +kernel
theorem dX13_canBe_64 : decode cX13_canBe 64 = .ok (.aload_n 0, 1) := by decide +kernel
theorem dX13_canBe_65 : decode cX13_canBe 65 = .ok (.iload_n 3, 1) := by decide +kernel
theorem dX13_canBe_66 : decode cX13_canBe 66 = .ok (.iload_n 1, 1) := by decide +kernel
theorem dX13_canBe_67 : decode cX13_canBe 67 = .ok (.invokevirtual 367, 3) := by decide +kernel
theorem dX13_canBe_70 : decode cX13_canBe 70 = .ok (.invokevirtual 352, 3) := by decide +kernel
theorem dX13_canBe_73 : decode cX13_canBe 73 = .ok (.aload_n 0, 1) := by decide +kernel
theorem dX13_canBe_74 : decode cX13_canBe 74 = .ok (.getfield 338, 3) := by decide +kernel
theorem dX13_canBe_77 : decode cX13_canBe 77 = .ok (.getfield 315, 3) := by decide +kernel
theorem dX13_canBe_80 : decode cX13_canBe 80 = .ok (.iload_n 1, 1) := by decide +kernel
theorem dX13_canBe_81 : decode cX13_canBe 81 = .ok (.iaload, 1) := by decide +kernel
theorem dX13_canBe_82 : decode cX13_canBe 82 = .ok (.if_icmp .ne 7, 3) := by decide +kernel
theorem dX13_canBe_85 : decode cX13_canBe 85 = .ok (.iconst 1, 1) := by decide +kernel
theorem dX13_canBe_86 : decode cX13_canBe 86 = .ok (.goto 4, 3) := by decide +kernel
theorem dX13_canBe_89 : decode cX13_canBe 89 = .ok (.iconst 0, 1) := by decide +kernel
theorem dX13_canBe_90 : decode cX13_canBe 90 = .ok (.ireturn, 1) := by decide +kernel
theorem dX13_counts_0 : decode cX13_counts 0 = .ok (.iload_n 1, 1) := by decide +kernel
theorem dX13_counts_1 : decode cX13_counts 1 = .ok (.aload_n 0, 1) := by decide +kernel
theorem dX13_counts_2 : decode cX13_counts 2 = .ok (.invokevirtual 376, 3) := by decide +kernel
theorem dX13_counts_5 : decode cX13_counts 5 = .ok (.if_icmp .lt 4, 3) := by decide +kernel
theorem dX13_counts_8 : decode cX13_counts 8 = .ok (.return_, 1) := by decide +kernel
theorem dX13_counts_9 : decode cX13_counts 9 = .ok (.aload_n 0, 1) := by decide +kernel
theorem dX13_counts_10 : decode cX13_counts 10 = .ok (.getfield 33, 3) := by decide +kernel
theorem dX13_counts_13 : decode cX13_counts 13 = .ok (.iload_n 1, 1) := by decide +kernel
theorem dX13_counts_14 : decode cX13_counts 14 = .ok (.aload_n 0, 1) := by decide +kernel
theorem dX13_counts_15 : decode cX13_counts 15 = .ok (.getfield 338, 3) := by decide +kernel
theorem dX13_counts_18 : decode cX13_counts 18 = .ok (.getfield 298, 3) := by decide +kernel
theorem dX13_counts_21 : decode cX13_counts 21 = .ok (.idiv, 1) := by decide +kernel
theorem dX13_counts_22 : decode cX13_counts 22 = .ok (.dup2, 1) := by decide +kernel
theorem dX13_counts_23 : decode cX13_counts 23 = .ok (.iaload, 1) := by decide +kernel
theorem dX13_counts_24 : decode cX13_counts 24 = .ok (.iload_n 2, 1) := by decide +kernel
theorem dX13_counts_25 : decode cX13_counts 25 = .ok (.iadd, 1) := by decide +kernel
theorem dX13_counts_26 : decode cX13_counts 26 = .ok (.iastore, 1) := by decide +kernel
theorem dX13_counts_27 : decode cX13_counts 27 = .ok (.aload_n 0, 1) := by decide +kernel
theorem dX13_counts_28 : decode cX13_counts 28 = .ok (.getfield 36, 3) := by decide +kernel
theorem dX13_counts_31 : decode cX13_counts 31 = .ok (.iload_n 1, 1) := by decide +kernel
theorem dX13_counts_32 : decode cX13_counts 32 = .ok (.aload_n 0, 1) := by decide +kernel
theorem dX13_counts_33 : decode cX13_counts 33 = .ok (.getfield 338, 3) := by decide +kernel
theorem dX13_counts_36 : decode cX13_counts 36 = .ok (.getfield 298, 3) := by decide +kernel
theorem dX13_counts_39 : decode cX13_counts 39 = .ok (.irem, 1) := by decide +kernel
theorem dX13_counts_40 : decode cX13_counts 40 = .ok (.dup2, 1) := by decide +kernel
theorem dX13_counts_41 : decode cX13_counts 41 = .ok (.iaload, 1) := by decide +kernel
theorem dX13_counts_42 : decode cX13_counts 42 = .ok (.iload_n 2, 1) := by decide +kernel
theorem dX13_counts_43 : decode cX13_counts 43 = .ok (.iadd, 1) := by decide +kernel
theorem dX13_counts_44 : decode cX13_counts 44 = .ok (.iastore, 1) := by decide +kernel
theorem dX13_counts_45 : decode cX13_counts 45 = .ok (.return_, 1) := by decide +kernel
theorem dX13_wantsFrom_0 : decode cX13_wantsFrom 0 = .ok (.iconst 0, 1) := by decide +kernel
theorem dX13_wantsFrom_1 : decode cX13_wantsFrom 1 = .ok (.istore_n 2, 1) := by decide +kernel
theorem dX13_wantsFrom_2 : decode cX13_wantsFrom 2 = .ok (.iload_n 1, 1) := by decide +kernel
theorem dX13_wantsFrom_3 : decode cX13_wantsFrom 3 = .ok (.istore_n 3, 1) := by decide +kernel
theorem dX13_wantsFrom_4 : decode cX13_wantsFrom 4 = .ok (.iload_n 3, 1) := by decide +kernel
theorem dX13_wantsFrom_5 : decode cX13_wantsFrom 5 = .ok (.aload_n 0, 1) := by decide +kernel
theorem dX13_wantsFrom_6 : decode cX13_wantsFrom 6 = .ok (.getfield 338, 3) := by decide +kernel
theorem dX13_wantsFrom_9 : decode cX13_wantsFrom 9 = .ok (.getfield 206, 3) := by decide +kernel
theorem dX13_wantsFrom_12 : decode cX13_wantsFrom 12 = .ok (.if_icmp .ge 31, 3) := by decide +kernel
theorem dX13_wantsFrom_15 : decode cX13_wantsFrom 15 = .ok (.iload_n 2, 1) := by decide +kernel
theorem dX13_wantsFrom_16 : decode cX13_wantsFrom 16 = .ok (.aload_n 0, 1) := by decide +kernel
theorem dX13_wantsFrom_17 : decode cX13_wantsFrom 17 = .ok (.getfield 338, 3) := by decide +kernel
theorem dX13_wantsFrom_20 : decode cX13_wantsFrom 20 = .ok (.getfield 315, 3) := by decide +kernel
theorem dX13_wantsFrom_23 : decode cX13_wantsFrom 23 = .ok (.iload_n 3, 1) := by decide +kernel
theorem dX13_wantsFrom_24 : decode cX13_wantsFrom 24 = .ok (.iaload, 1) := by decide +kernel
theorem dX13_wantsFrom_25 : decode cX13_wantsFrom 25 = .ok (.bipush (-2), 2) := by decide +kernel
theorem dX13_wantsFrom_27 : decode cX13_wantsFrom 27 = .ok (.if_icmp .eq 7, 3) := by decide +kernel
theorem dX13_wantsFrom_30 : decode cX13_wantsFrom 30 = .ok (.iconst 1, 1) := by decide +kernel
theorem dX13_wantsFrom_31 : decode cX13_wantsFrom 31 = .ok (.goto 4, 3) := by decide +kernel
theorem dX13_wantsFrom_34 : decode cX13_wantsFrom 34 = .ok (.iconst 0, 1) := by decide +kernel
theorem dX13_wantsFrom_35 : decode cX13_wantsFrom 35 = .ok (.iadd, 1) := by decide +kernel
theorem dX13_wantsFrom_36 : decode cX13_wantsFrom 36 = .ok (.istore_n 2, 1) := by decide +kernel
theorem dX13_wantsFrom_37 : decode cX13_wantsFrom 37 = .ok (.iinc 3 1, 3) := by decide +kernel
theorem dX13_wantsFrom_40 : decode cX13_wantsFrom 40 = .ok (.goto (-36), 3) := by decide +kernel
theorem dX13_wantsFrom_43 : decode cX13_wantsFrom 43 = .ok (.iload_n 2, 1) := by decide +kernel
theorem dX13_wantsFrom_44 : decode cX13_wantsFrom 44 = .ok (.ireturn, 1) := by decide +kernel
theorem dX13_nextPair_0 : decode cX13_nextPair 0 = .ok (.iload_n 2, 1) := by decide +kernel
theorem dX13_nextPair_1 : decode cX13_nextPair 1 = .ok (.istore_n 3, 1) := by decide +kernel
theorem dX13_nextPair_2 : decode cX13_nextPair 2 = .ok (.iload_n 3, 1) := by decide +kernel
theorem dX13_nextPair_3 : decode cX13_nextPair 3 = .ok (.aload_n 0, 1) := by decide +kernel
theorem dX13_nextPair_4 : decode cX13_nextPair 4 = .ok (.invokevirtual 376, 3) := by decide +kernel
theorem dX13_nextPair_7 : decode cX13_nextPair 7 = .ok (.if_icmp .ge 18, 3) := by decide +kernel
theorem dX13_nextPair_10 : decode cX13_nextPair 10 = .ok (.aload_n 0, 1) := by decide +kernel
theorem dX13_nextPair_11 : decode cX13_nextPair 11 = .ok (.iload_n 1, 1) := by decide +kernel
theorem dX13_nextPair_12 : decode cX13_nextPair 12 = .ok (.iload_n 3, 1) := by decide +kernel
theorem dX13_nextPair_13 : decode cX13_nextPair 13 = .ok (.invokevirtual 379, 3) := by decide +kernel
theorem dX13_nextPair_16 : decode cX13_nextPair 16 = .ok (.ifCond .ne 9, 3) := by decide +kernel
theorem dX13_nextPair_19 : decode cX13_nextPair 19 = .ok (.iinc 3 1, 3) := by decide +kernel
theorem dX13_nextPair_22 : decode cX13_nextPair 22 = .ok (.goto (-20), 3) := by decide +kernel
theorem dX13_nextPair_25 : decode cX13_nextPair 25 = .ok (.iload_n 3, 1) := by decide +kernel
theorem dX13_nextPair_26 : decode cX13_nextPair 26 = .ok (.ireturn, 1) := by decide +kernel
theorem dX13_keeps_0 : decode cX13_keeps 0 = .ok (.iconst (-1), 1) := by decide +kernel
theorem dX13_keeps_1 : decode cX13_keeps 1 = .ok (.istore_n 1, 1) := by decide +kernel
theorem dX13_keeps_2 : decode cX13_keeps 2 = .ok (.iconst 0, 1) := by decide +kernel
theorem dX13_keeps_3 : decode cX13_keeps 3 = .ok (.istore_n 2, 1) := by decide +kernel
theorem dX13_keeps_4 : decode cX13_keeps 4 = .ok (.iconst 0, 1) := by decide +kernel
theorem dX13_keeps_5 : decode cX13_keeps 5 = .ok (.istore_n 3, 1) := by decide +kernel
theorem dX13_keeps_6 : decode cX13_keeps 6 = .ok (.aload_n 0, 1) := by decide +kernel
theorem dX13_keeps_7 : decode cX13_keeps 7 = .ok (.invokevirtual 376, 3) := by decide +kernel
theorem dX13_keeps_10 : decode cX13_keeps 10 = .ok (.istore 4, 2) := by decide +kernel
theorem dX13_keeps_12 : decode cX13_keeps 12 = .ok (.iconst 0, 1) := by decide +kernel
theorem dX13_keeps_13 : decode cX13_keeps 13 = .ok (.istore 5, 2) := by decide +kernel
theorem dX13_keeps_15 : decode cX13_keeps 15 = .ok (.iload 5, 2) := by decide +kernel
theorem dX13_keeps_17 : decode cX13_keeps 17 = .ok (.iconst 4, 1) := by decide +kernel
theorem dX13_keeps_18 : decode cX13_keeps 18 = .ok (.if_icmp .ge 17, 3) := by decide +kernel
theorem dX13_keeps_21 : decode cX13_keeps 21 = .ok (.aload_n 0, 1) := by decide +kernel
theorem dX13_keeps_22 : decode cX13_keeps 22 = .ok (.getfield 33, 3) := by decide +kernel
theorem dX13_keeps_25 : decode cX13_keeps 25 = .ok (.iload 5, 2) := by decide +kernel
theorem dX13_keeps_27 : decode cX13_keeps 27 = .ok (.iconst 0, 1) := by decide +kernel
theorem dX13_keeps_28 : decode cX13_keeps 28 = .ok (.iastore, 1) := by decide +kernel
theorem dX13_keeps_29 : decode cX13_keeps 29 = .ok (.iinc 5 1, 3) := by decide +kernel
theorem dX13_keeps_32 : decode cX13_keeps 32 = .ok (.goto (-17), 3) := by decide +kernel
theorem dX13_keeps_35 : decode cX13_keeps 35 = .ok (.iconst 0, 1) := by decide +kernel
theorem dX13_keeps_36 : decode cX13_keeps 36 = .ok (.istore 5, 2) := by decide +kernel
theorem dX13_keeps_38 : decode cX13_keeps 38 = .ok (.iload 5, 2) := by decide +kernel
theorem dX13_keeps_40 : decode cX13_keeps 40 = .ok (.iconst 3, 1) := by decide +kernel
theorem dX13_keeps_41 : decode cX13_keeps 41 = .ok (.if_icmp .ge 17, 3) := by decide +kernel
theorem dX13_keeps_44 : decode cX13_keeps 44 = .ok (.aload_n 0, 1) := by decide +kernel
theorem dX13_keeps_45 : decode cX13_keeps 45 = .ok (.getfield 36, 3) := by decide +kernel
theorem dX13_keeps_48 : decode cX13_keeps 48 = .ok (.iload 5, 2) := by decide +kernel
theorem dX13_keeps_50 : decode cX13_keeps 50 = .ok (.iconst 0, 1) := by decide +kernel
theorem dX13_keeps_51 : decode cX13_keeps 51 = .ok (.iastore, 1) := by decide +kernel
theorem dX13_keeps_52 : decode cX13_keeps 52 = .ok (.iinc 5 1, 3) := by decide +kernel
theorem dX13_keeps_55 : decode cX13_keeps 55 = .ok (.goto (-17), 3) := by decide +kernel
theorem dX13_keeps_58 : decode cX13_keeps 58 = .ok (.aload_n 0, 1) := by decide +kernel
theorem dX13_keeps_59 : decode cX13_keeps 59 = .ok (.getfield 27, 3) := by decide +kernel
theorem dX13_keeps_62 : decode cX13_keeps 62 = .ok (.iconst 0, 1) := by decide +kernel
theorem dX13_keeps_63 : decode cX13_keeps 63 = .ok (.iconst (-1), 1) := by decide +kernel
theorem dX13_keeps_64 : decode cX13_keeps 64 = .ok (.iastore, 1) := by decide +kernel
theorem dX13_keeps_65 : decode cX13_keeps 65 = .ok (.iload_n 3, 1) := by decide +kernel
theorem dX13_keeps_66 : decode cX13_keeps 66 = .ok (.ifCond .lt 216, 3) := by decide +kernel
theorem dX13_keeps_69 : decode cX13_keeps 69 = .ok (.aload_n 0, 1) := by decide +kernel
theorem dX13_keeps_70 : decode cX13_keeps 70 = .ok (.getfield 27, 3) := by decide +kernel
theorem dX13_keeps_73 : decode cX13_keeps 73 = .ok (.iload_n 3, 1) := by decide +kernel
theorem dX13_keeps_74 : decode cX13_keeps 74 = .ok (.iaload, 1) := by decide +kernel
theorem dX13_keeps_75 : decode cX13_keeps 75 = .ok (.iconst (-1), 1) := by decide +kernel
theorem dX13_keeps_76 : decode cX13_keeps 76 = .ok (.if_icmp .eq 28, 3) := by decide +kernel
theorem dX13_keeps_79 : decode cX13_keeps 79 = .ok (.aload_n 0, 1) := by decide +kernel
theorem dX13_keeps_80 : decode cX13_keeps 80 = .ok (.getfield 27, 3) := by decide +kernel
theorem dX13_keeps_83 : decode cX13_keeps 83 = .ok (.iload_n 3, 1) := by decide +kernel
theorem dX13_keeps_84 : decode cX13_keeps 84 = .ok (.iaload, 1) := by decide +kernel
theorem dX13_keeps_85 : decode cX13_keeps 85 = .ok (.iload 4, 2) := by decide +kernel
theorem dX13_keeps_87 : decode cX13_keeps 87 = .ok (.if_icmp .ge 17, 3) := by decide +kernel
theorem dX13_keeps_90 : decode cX13_keeps 90 = .ok (.aload_n 0, 1) := by decide +kernel
theorem dX13_keeps_91 : decode cX13_keeps 91 = .ok (.aload_n 0, 1) := by decide +kernel
theorem dX13_keeps_92 : decode cX13_keeps 92 = .ok (.getfield 27, 3) := by decide +kernel
theorem dX13_keeps_95 : decode cX13_keeps 95 = .ok (.iload_n 3, 1) := by decide +kernel
theorem dX13_keeps_96 : decode cX13_keeps 96 = .ok (.iaload, 1) := by decide +kernel
theorem dX13_keeps_97 : decode cX13_keeps 97 = .ok (.iconst (-1), 1) := by decide +kernel
theorem dX13_keeps_98 : decode cX13_keeps 98 = .ok (.invokevirtual 382, 3) := by decide +kernel
theorem dX13_keeps_101 : decode cX13_keeps 101 = .ok (.iinc 2 (-1), 3) := by decide +kernel
theorem dX13_keeps_104 : decode cX13_keeps 104 = .ok (.aload_n 0, 1) := by decide +kernel
theorem dX13_keeps_105 : decode cX13_keeps 105 = .ok (.getfield 27, 3) := by decide +kernel
theorem dX13_keeps_108 : decode cX13_keeps 108 = .ok (.iload_n 3, 1) := by decide +kernel
theorem dX13_keeps_109 : decode cX13_keeps 109 = .ok (.aload_n 0, 1) := by decide +kernel
theorem dX13_keeps_110 : decode cX13_keeps 110 = .ok (.getfield 27, 3) := by decide +kernel
theorem dX13_keeps_113 : decode cX13_keeps 113 = .ok (.iload_n 3, 1) := by decide +kernel
theorem dX13_keeps_114 : decode cX13_keeps 114 = .ok (.iaload, 1) := by decide +kernel
theorem dX13_keeps_115 : decode cX13_keeps 115 = .ok (.iload 4, 2) := by decide +kernel
theorem dX13_keeps_117 : decode cX13_keeps 117 = .ok (.if_icmp .lt 10, 3) := by decide +kernel
theorem dX13_keeps_120 : decode cX13_keeps 120 = .ok (.iload 4, 2) := by decide +kernel
theorem dX13_keeps_122 : decode cX13_keeps 122 = .ok (.iconst 1, 1) := by decide +kernel
theorem dX13_keeps_123 : decode cX13_keeps 123 = .ok (.iadd, 1) := by decide +kernel
theorem dX13_keeps_124 : decode cX13_keeps 124 = .ok (.goto 16, 3) := by decide +kernel
theorem dX13_keeps_127 : decode cX13_keeps 127 = .ok (.aload_n 0, 1) := by decide +kernel
theorem dX13_keeps_128 : decode cX13_keeps 128 = .ok (.iload_n 3, 1) := by decide +kernel
theorem dX13_keeps_129 : decode cX13_keeps 129 = .ok (.aload_n 0, 1) := by decide +kernel
theorem dX13_keeps_130 : decode cX13_keeps 130 = .ok (.getfield 27, 3) := by decide +kernel
theorem dX13_keeps_133 : decode cX13_keeps 133 = .ok (.iload_n 3, 1) := by decide +kernel
theorem dX13_keeps_134 : decode cX13_keeps 134 = .ok (.iaload, 1) := by decide +kernel
theorem dX13_keeps_135 : decode cX13_keeps 135 = .ok (.iconst 1, 1) := by decide +kernel
theorem dX13_keeps_136 : decode cX13_keeps 136 = .ok (.iadd, 1) := by decide +kernel
theorem dX13_keeps_137 : decode cX13_keeps 137 = .ok (.invokevirtual 385, 3) := by decide +kernel
theorem dX13_keeps_140 : decode cX13_keeps 140 = .ok (.iastore, 1) := by decide +kernel
theorem dX13_keeps_141 : decode cX13_keeps 141 = .ok (.aload_n 0, 1) := by decide +kernel
theorem dX13_keeps_142 : decode cX13_keeps 142 = .ok (.getfield 27, 3) := by decide +kernel
theorem dX13_keeps_145 : decode cX13_keeps 145 = .ok (.iload_n 3, 1) := by decide +kernel
theorem dX13_keeps_146 : decode cX13_keeps 146 = .ok (.iaload, 1) := by decide +kernel
theorem dX13_keeps_147 : decode cX13_keeps 147 = .ok (.iload 4, 2) := by decide +kernel
theorem dX13_keeps_149 : decode cX13_keeps 149 = .ok (.if_icmp .le 9, 3) := by decide +kernel
theorem dX13_keeps_152 : decode cX13_keeps 152 = .ok (.iinc 3 (-1), 3) := by decide +kernel
theorem dX13_keeps_155 : decode cX13_keeps 155 = .ok (.goto (-90), 3) := by decide +kernel
theorem dX13_keeps_158 : decode cX13_keeps 158 = .ok (.aload_n 0, 1) := by decide +kernel
theorem dX13_keeps_159 : decode cX13_keeps 159 = .ok (.getfield 27, 3) := by decide +kernel
theorem dX13_keeps_162 : decode cX13_keeps 162 = .ok (.iload_n 3, 1) := by decide +kernel
theorem dX13_keeps_163 : decode cX13_keeps 163 = .ok (.iaload, 1) := by decide +kernel
theorem dX13_keeps_164 : decode cX13_keeps 164 = .ok (.iload 4, 2) := by decide +kernel
theorem dX13_keeps_166 : decode cX13_keeps 166 = .ok (.if_icmp .ge 17, 3) := by decide +kernel
theorem dX13_keeps_169 : decode cX13_keeps 169 = .ok (.aload_n 0, 1) := by decide +kernel
theorem dX13_keeps_170 : decode cX13_keeps 170 = .ok (.aload_n 0, 1) := by decide +kernel
theorem dX13_keeps_171 : decode cX13_keeps 171 = .ok (.getfield 27, 3) := by decide +kernel
theorem dX13_keeps_174 : decode cX13_keeps 174 = .ok (.iload_n 3, 1) := by decide +kernel
theorem dX13_keeps_175 : decode cX13_keeps 175 = .ok (.iaload, 1) := by decide +kernel
theorem dX13_keeps_176 : decode cX13_keeps 176 = .ok (.iconst 1, 1) := by decide +kernel
theorem dX13_keeps_177 : decode cX13_keeps 177 = .ok (.invokevirtual 382, 3) := by decide +kernel
theorem dX13_keeps_180 : decode cX13_keeps 180 = .ok (.iinc 2 1, 3) := by decide +kernel
theorem dX13_keeps_183 : decode cX13_keeps 183 = .ok (.iload_n 2, 1) := by decide +kernel
theorem dX13_keeps_184 : decode cX13_keeps 184 = .ok (.aload_n 0, 1) := by decide +kernel
theorem dX13_keeps_185 : decode cX13_keeps 185 = .ok (.iload_n 3, 1) := by decide +kernel
theorem dX13_keeps_186 : decode cX13_keeps 186 = .ok (.iconst 1, 1) := by decide +kernel
theorem dX13_keeps_187 : decode cX13_keeps 187 = .ok (.iadd, 1) := by decide +kernel
theorem dX13_keeps_188 : decode cX13_keeps 188 = .ok (.invokevirtual 388, 3) := by decide +kernel
theorem dX13_keeps_191 : decode cX13_keeps 191 = .ok (.iadd, 1) := by decide +kernel
theorem dX13_keeps_192 : decode cX13_keeps 192 = .ok (.iload_n 1, 1) := by decide +kernel
theorem dX13_keeps_193 : decode cX13_keeps 193 = .ok (.if_icmp .gt 6, 3) := by decide +kernel
theorem dX13_keeps_196 : decode cX13_keeps 196 = .ok (.goto (-131), 3) := by decide +kernel
theorem dX13_keeps_199 : decode cX13_keeps 199 = .ok (.iload_n 3, 1) := by decide +kernel
theorem dX13_keeps_200 : decode cX13_keeps 200 = .ok (.iconst 1, 1) := by decide +kernel
theorem dX13_keeps_201 : decode cX13_keeps 201 = .ok (.iadd, 1) := by decide +kernel
theorem dX13_keeps_202 : decode cX13_keeps 202 = .ok (.aload_n 0, 1) := by decide +kernel
theorem dX13_keeps_203 : decode cX13_keeps 203 = .ok (.getfield 338, 3) := by decide +kernel
theorem dX13_keeps_206 : decode cX13_keeps 206 = .ok (.getfield 206, 3) := by decide +kernel
theorem dX13_keeps_209 : decode cX13_keeps 209 = .ok (.if_icmp .ge 16, 3) := by decide +kernel
theorem dX13_keeps_212 : decode cX13_keeps 212 = .ok (.iinc 3 1, 3) := by decide +kernel
theorem dX13_keeps_215 : decode cX13_keeps 215 = .ok (.aload_n 0, 1) := by decide +kernel
theorem dX13_keeps_216 : decode cX13_keeps 216 = .ok (.getfield 27, 3) := by decide +kernel
theorem dX13_keeps_219 : decode cX13_keeps 219 = .ok (.iload_n 3, 1) := by decide +kernel
theorem dX13_keeps_220 : decode cX13_keeps 220 = .ok (.iconst (-1), 1) := by decide +kernel
theorem dX13_keeps_221 : decode cX13_keeps 221 = .ok (.iastore, 1) := by decide +kernel
theorem dX13_keeps_222 : decode cX13_keeps 222 = .ok (.goto (-157), 3) := by decide +kernel
theorem dX13_keeps_225 : decode cX13_keeps 225 = .ok (.iload_n 2, 1) := by decide +kernel
theorem dX13_keeps_226 : decode cX13_keeps 226 = .ok (.istore_n 1, 1) := by decide +kernel
theorem dX13_keeps_227 : decode cX13_keeps 227 = .ok (.iconst 0, 1) := by decide +kernel
theorem dX13_keeps_228 : decode cX13_keeps 228 = .ok (.istore 5, 2) := by decide +kernel
theorem dX13_keeps_230 : decode cX13_keeps 230 = .ok (.iload 5, 2) := by decide +kernel
theorem dX13_keeps_232 : decode cX13_keeps 232 = .ok (.aload_n 0, 1) := by decide +kernel
theorem dX13_keeps_233 : decode cX13_keeps 233 = .ok (.getfield 338, 3) := by decide +kernel
theorem dX13_keeps_236 : decode cX13_keeps 236 = .ok (.getfield 206, 3) := by decide +kernel
theorem dX13_keeps_239 : decode cX13_keeps 239 = .ok (.if_icmp .ge 40, 3) := by decide +kernel
theorem dX13_keeps_242 : decode cX13_keeps 242 = .ok (.aload_n 0, 1) := by decide +kernel
theorem dX13_keeps_243 : decode cX13_keeps 243 = .ok (.getfield 30, 3) := by decide +kernel
theorem dX13_keeps_246 : decode cX13_keeps 246 = .ok (.iload 5, 2) := by decide +kernel
theorem dX13_keeps_248 : decode cX13_keeps 248 = .ok (.aload_n 0, 1) := by decide +kernel
theorem dX13_keeps_249 : decode cX13_keeps 249 = .ok (.getfield 27, 3) := by decide +kernel
theorem dX13_keeps_252 : decode cX13_keeps 252 = .ok (.iload 5, 2) := by decide +kernel
theorem dX13_keeps_254 : decode cX13_keeps 254 = .ok (.iaload, 1) := by decide +kernel
theorem dX13_keeps_255 : decode cX13_keeps 255 = .ok (.iload 4, 2) := by decide +kernel
theorem dX13_keeps_257 : decode cX13_keeps 257 = .ok (.if_icmp .ge 13, 3) := by decide +kernel
theorem dX13_keeps_260 : decode cX13_keeps 260 = .ok (.aload_n 0, 1) := by decide +kernel
theorem dX13_keeps_261 : decode cX13_keeps 261 = .ok (.getfield 27, 3) := by decide +kernel
theorem dX13_keeps_264 : decode cX13_keeps 264 = .ok (.iload 5, 2) := by decide +kernel
theorem dX13_keeps_266 : decode cX13_keeps 266 = .ok (.iaload, 1) := by decide +kernel
theorem dX13_keeps_267 : decode cX13_keeps 267 = .ok (.goto 5, 3) := by decide +kernel
theorem dX13_keeps_270 : decode cX13_keeps 270 = .ok (.bipush (-2), 2) := by decide +kernel
theorem dX13_keeps_272 : decode cX13_keeps 272 = .ok (.iastore, 1) := by decide +kernel
theorem dX13_keeps_273 : decode cX13_keeps 273 = .ok (.iinc 5 1, 3) := by decide +kernel
theorem dX13_keeps_276 : decode cX13_keeps 276 = .ok (.goto (-46), 3) := by decide +kernel
theorem dX13_keeps_279 : decode cX13_keeps 279 = .ok (.goto (-214), 3) := by decide +kernel
theorem dX13_keeps_282 : decode cX13_keeps 282 = .ok (.iload_n 1, 1) := by decide +kernel
theorem dX13_keeps_283 : decode cX13_keeps 283 = .ok (.ireturn, 1) := by decide +kernel
theorem dX13_asInk_0 : decode cX13_asInk 0 = .ok (.iconst 0, 1) := by decide +kernel
theorem dX13_asInk_1 : decode cX13_asInk 1 = .ok (.istore_n 1, 1) := by decide +kernel
theorem dX13_asInk_2 : decode cX13_asInk 2 = .ok (.iload_n 1, 1) := by decide +kernel
theorem dX13_asInk_3 : decode cX13_asInk 3 = .ok (.iconst 4, 1) := by decide +kernel
theorem dX13_asInk_4 : decode cX13_asInk 4 = .ok (.if_icmp .ge 23, 3) := by decide +kernel
theorem dX13_asInk_7 : decode cX13_asInk 7 = .ok (.aload_n 0, 1) := by decide +kernel
theorem dX13_asInk_8 : decode cX13_asInk 8 = .ok (.getfield 39, 3) := by decide +kernel
theorem dX13_asInk_11 : decode cX13_asInk 11 = .ok (.iload_n 1, 1) := by decide +kernel
theorem dX13_asInk_12 : decode cX13_asInk 12 = .ok (.aload_n 0, 1) := by decide +kernel
theorem dX13_asInk_13 : decode cX13_asInk 13 = .ok (.getfield 17, 3) := by decide +kernel
theorem dX13_asInk_16 : decode cX13_asInk 16 = .ok (.iconst 0, 1) := by decide +kernel
theorem dX13_asInk_17 : decode cX13_asInk 17 = .ok (.iload_n 1, 1) := by decide +kernel
theorem dX13_asInk_18 : decode cX13_asInk 18 = .ok (.iadd, 1) := by decide +kernel
theorem dX13_asInk_19 : decode cX13_asInk 19 = .ok (.iaload, 1) := by decide +kernel
theorem dX13_asInk_20 : decode cX13_asInk 20 = .ok (.iastore, 1) := by decide +kernel
theorem dX13_asInk_21 : decode cX13_asInk 21 = .ok (.iinc 1 1, 3) := by decide +kernel
theorem dX13_asInk_24 : decode cX13_asInk 24 = .ok (.goto (-22), 3) := by decide +kernel
theorem dX13_asInk_27 : decode cX13_asInk 27 = .ok (.return_, 1) := by decide +kernel
theorem dX13_kept_0 : decode cX13_kept 0 = .ok (.aload_n 0, 1) := by decide +kernel
theorem dX13_kept_1 : decode cX13_kept 1 = .ok (.iconst 0, 1) := by decide +kernel
theorem dX13_kept_2 : decode cX13_kept 2 = .ok (.putfield 48, 3) := by decide +kernel
theorem dX13_kept_5 : decode cX13_kept 5 = .ok (.aload_n 0, 1) := by decide +kernel
theorem dX13_kept_6 : decode cX13_kept 6 = .ok (.getfield 338, 3) := by decide +kernel
theorem dX13_kept_9 : decode cX13_kept 9 = .ok (.ifnonnull 9, 3) := by decide +kernel
theorem dX13_kept_12 : decode cX13_kept 12 = .ok (.aload_n 0, 1) := by decide +kernel
theorem dX13_kept_13 : decode cX13_kept 13 = .ok (.iconst 1, 1) := by decide +kernel
theorem dX13_kept_14 : decode cX13_kept 14 = .ok (.invokevirtual 54, 3) := by decide +kernel
theorem dX13_kept_17 : decode cX13_kept 17 = .ok (.ireturn, 1) := by decide +kernel
theorem dX13_kept_18 : decode cX13_kept 18 = .ok (.aload_n 0, 1) := by decide +kernel
theorem dX13_kept_19 : decode cX13_kept 19 = .ok (.invokevirtual 391, 3) := by decide +kernel
theorem dX13_kept_22 : decode cX13_kept 22 = .ok (.aload_n 0, 1) := by decide +kernel
theorem dX13_kept_23 : decode cX13_kept 23 = .ok (.aload_n 0, 1) := by decide +kernel
theorem dX13_kept_24 : decode cX13_kept 24 = .ok (.invokevirtual 394, 3) := by decide +kernel
theorem dX13_kept_27 : decode cX13_kept 27 = .ok (.invokevirtual 58, 3) := by decide +kernel
theorem dX13_kept_30 : decode cX13_kept 30 = .ok (.ireturn, 1) := by decide +kernel
theorem dX13_keptBy_0 : decode cX13_keptBy 0 = .ok (.aload_n 0, 1) := by decide +kernel
theorem dX13_keptBy_1 : decode cX13_keptBy 1 = .ok (.iconst 0, 1) := by decide +kernel
theorem dX13_keptBy_2 : decode cX13_keptBy 2 = .ok (.putfield 48, 3) := by decide +kernel
theorem dX13_keptBy_5 : decode cX13_keptBy 5 = .ok (.aload_n 0, 1) := by decide +kernel
theorem dX13_keptBy_6 : decode cX13_keptBy 6 = .ok (.iload_n 1, 1) := by decide +kernel
theorem dX13_keptBy_7 : decode cX13_keptBy 7 = .ok (.invokevirtual 355, 3) := by decide +kernel
theorem dX13_keptBy_10 : decode cX13_keptBy 10 = .ok (.ifCond .ne 9, 3) := by decide +kernel
theorem dX13_keptBy_13 : decode cX13_keptBy 13 = .ok (.aload_n 0, 1) := by decide +kernel
theorem dX13_keptBy_14 : decode cX13_keptBy 14 = .ok (.iconst 1, 1) := by decide +kernel
theorem dX13_keptBy_15 : decode cX13_keptBy 15 = .ok (.invokevirtual 54, 3) := by decide +kernel
theorem dX13_keptBy_18 : decode cX13_keptBy 18 = .ok (.ireturn, 1) := by decide +kernel
theorem dX13_keptBy_19 : decode cX13_keptBy 19 = .ok (.aload_n 0, 1) := by decide +kernel
theorem dX13_keptBy_20 : decode cX13_keptBy 20 = .ok (.invokevirtual 391, 3) := by decide +kernel
theorem dX13_keptBy_23 : decode cX13_keptBy 23 = .ok (.aload_n 0, 1) := by decide +kernel
theorem dX13_keptBy_24 : decode cX13_keptBy 24 = .ok (.invokevirtual 394, 3) := by decide +kernel
theorem dX13_keptBy_27 : decode cX13_keptBy 27 = .ok (.pop, 1) := by decide +kernel
theorem dX13_keptBy_28 : decode cX13_keptBy 28 = .ok (.aload_n 0, 1) := by decide +kernel
theorem dX13_keptBy_29 : decode cX13_keptBy 29 = .ok (.aload_n 0, 1) := by decide +kernel
theorem dX13_keptBy_30 : decode cX13_keptBy 30 = .ok (.getfield 30, 3) := by decide +kernel
theorem dX13_keptBy_33 : decode cX13_keptBy 33 = .ok (.iload_n 1, 1) := by decide +kernel
theorem dX13_keptBy_34 : decode cX13_keptBy 34 = .ok (.iaload, 1) := by decide +kernel
theorem dX13_keptBy_35 : decode cX13_keptBy 35 = .ok (.bipush (-2), 2) := by decide +kernel
theorem dX13_keptBy_37 : decode cX13_keptBy 37 = .ok (.if_icmp .ne 8, 3) := by decide +kernel
theorem dX13_keptBy_40 : decode cX13_keptBy 40 = .ok (.bipush (-2), 2) := by decide +kernel
theorem dX13_keptBy_42 : decode cX13_keptBy 42 = .ok (.goto 35, 3) := by decide +kernel
theorem dX13_keptBy_45 : decode cX13_keptBy 45 = .ok (.bipush 10, 2) := by decide +kernel
theorem dX13_keptBy_47 : decode cX13_keptBy 47 = .ok (.aload_n 0, 1) := by decide +kernel
theorem dX13_keptBy_48 : decode cX13_keptBy 48 = .ok (.getfield 30, 3) := by decide +kernel
theorem dX13_keptBy_51 : decode cX13_keptBy 51 = .ok (.iload_n 1, 1) := by decide +kernel
theorem dX13_keptBy_52 : decode cX13_keptBy 52 = .ok (.iaload, 1) := by decide +kernel
theorem dX13_keptBy_53 : decode cX13_keptBy 53 = .ok (.aload_n 0, 1) := by decide +kernel
theorem dX13_keptBy_54 : decode cX13_keptBy 54 = .ok (.getfield 338, 3) := by decide +kernel
theorem dX13_keptBy_57 : decode cX13_keptBy 57 = .ok (.getfield 298, 3) := by decide +kernel
theorem dX13_keptBy_60 : decode cX13_keptBy 60 = .ok (.idiv, 1) := by decide +kernel
theorem dX13_keptBy_61 : decode cX13_keptBy 61 = .ok (.imul, 1) := by decide +kernel
theorem dX13_keptBy_62 : decode cX13_keptBy 62 = .ok (.aload_n 0, 1) := by decide +kernel
theorem dX13_keptBy_63 : decode cX13_keptBy 63 = .ok (.getfield 30, 3) := by decide +kernel
theorem dX13_keptBy_66 : decode cX13_keptBy 66 = .ok (.iload_n 1, 1) := by decide +kernel
theorem dX13_keptBy_67 : decode cX13_keptBy 67 = .ok (.iaload, 1) := by decide +kernel
theorem dX13_keptBy_68 : decode cX13_keptBy 68 = .ok (.aload_n 0, 1) := by decide +kernel
theorem dX13_keptBy_69 : decode cX13_keptBy 69 = .ok (.getfield 338, 3) := by decide +kernel
theorem dX13_keptBy_72 : decode cX13_keptBy 72 = .ok (.getfield 298, 3) := by decide +kernel
theorem dX13_keptBy_75 : decode cX13_keptBy 75 = .ok (.irem, 1) := by decide +kernel
theorem dX13_keptBy_76 : decode cX13_keptBy 76 = .ok (.iadd, 1) := by decide +kernel
theorem dX13_keptBy_77 : decode cX13_keptBy 77 = .ok (.invokevirtual 58, 3) := by decide +kernel
theorem dX13_keptBy_80 : decode cX13_keptBy 80 = .ok (.ireturn, 1) := by decide +kernel
theorem dX13_toFill_0 : decode cX13_toFill 0 = .ok (.aload_n 0, 1) := by decide +kernel
theorem dX13_toFill_1 : decode cX13_toFill 1 = .ok (.iconst 0, 1) := by decide +kernel
theorem dX13_toFill_2 : decode cX13_toFill 2 = .ok (.putfield 48, 3) := by decide +kernel
theorem dX13_toFill_5 : decode cX13_toFill 5 = .ok (.aload_n 0, 1) := by decide +kernel
theorem dX13_toFill_6 : decode cX13_toFill 6 = .ok (.getfield 338, 3) := by decide +kernel
theorem dX13_toFill_9 : decode cX13_toFill 9 = .ok (.ifnonnull 9, 3) := by decide +kernel
theorem dX13_toFill_12 : decode cX13_toFill 12 = .ok (.aload_n 0, 1) := by decide +kernel
theorem dX13_toFill_13 : decode cX13_toFill 13 = .ok (.iconst 1, 1) := by decide +kernel
theorem dX13_toFill_14 : decode cX13_toFill 14 = .ok (.invokevirtual 54, 3) := by decide +kernel
theorem dX13_toFill_17 : decode cX13_toFill 17 = .ok (.ireturn, 1) := by decide +kernel
theorem dX13_toFill_18 : decode cX13_toFill 18 = .ok (.aload_n 0, 1) := by decide +kernel
theorem dX13_toFill_19 : decode cX13_toFill 19 = .ok (.invokevirtual 391, 3) := by decide +kernel
theorem dX13_toFill_22 : decode cX13_toFill 22 = .ok (.aload_n 0, 1) := by decide +kernel
theorem dX13_toFill_23 : decode cX13_toFill 23 = .ok (.invokevirtual 394, 3) := by decide +kernel
theorem dX13_toFill_26 : decode cX13_toFill 26 = .ok (.istore_n 1, 1) := by decide +kernel
theorem dX13_toFill_27 : decode cX13_toFill 27 = .ok (.iconst 0, 1) := by decide +kernel
theorem dX13_toFill_28 : decode cX13_toFill 28 = .ok (.istore_n 2, 1) := by decide +kernel
theorem dX13_toFill_29 : decode cX13_toFill 29 = .ok (.iload_n 2, 1) := by decide +kernel
theorem dX13_toFill_30 : decode cX13_toFill 30 = .ok (.aload_n 0, 1) := by decide +kernel
theorem dX13_toFill_31 : decode cX13_toFill 31 = .ok (.getfield 338, 3) := by decide +kernel
theorem dX13_toFill_34 : decode cX13_toFill 34 = .ok (.getfield 262, 3) := by decide +kernel
theorem dX13_toFill_37 : decode cX13_toFill 37 = .ok (.if_icmp .ge 37, 3) := by decide +kernel
theorem dX13_toFill_40 : decode cX13_toFill 40 = .ok (.aload_n 0, 1) := by decide +kernel
theorem dX13_toFill_41 : decode cX13_toFill 41 = .ok (.invokevirtual 391, 3) := by decide +kernel
theorem dX13_toFill_44 : decode cX13_toFill 44 = .ok (.aload_n 0, 1) := by decide +kernel
theorem dX13_toFill_45 : decode cX13_toFill 45 = .ok (.getfield 39, 3) := by decide +kernel
theorem dX13_toFill_48 : decode cX13_toFill 48 = .ok (.iload_n 2, 1) := by decide +kernel
theorem dX13_toFill_49 : decode cX13_toFill 49 = .ok (.dup2, 1) := by decide +kernel
theorem dX13_toFill_50 : decode cX13_toFill 50 = .ok (.iaload, 1) := by decide +kernel
theorem dX13_toFill_51 : decode cX13_toFill 51 = .ok (.iconst 1, 1) := by decide +kernel
theorem dX13_toFill_52 : decode cX13_toFill 52 = .ok (.iadd, 1) := by decide +kernel
theorem dX13_toFill_53 : decode cX13_toFill 53 = .ok (.iastore, 1) := by decide +kernel
theorem dX13_toFill_54 : decode cX13_toFill 54 = .ok (.aload_n 0, 1) := by decide +kernel
theorem dX13_toFill_55 : decode cX13_toFill 55 = .ok (.invokevirtual 394, 3) := by decide +kernel
theorem dX13_toFill_58 : decode cX13_toFill 58 = .ok (.iload_n 1, 1) := by decide +kernel
theorem dX13_toFill_59 : decode cX13_toFill 59 = .ok (.if_icmp .le 9, 3) := by decide +kernel
theorem dX13_toFill_62 : decode cX13_toFill 62 = .ok (.aload_n 0, 1) := by decide +kernel
theorem dX13_toFill_63 : decode cX13_toFill 63 = .ok (.iload_n 2, 1) := by decide +kernel
theorem dX13_toFill_64 : decode cX13_toFill 64 = .ok (.invokevirtual 58, 3) := by decide +kernel
theorem dX13_toFill_67 : decode cX13_toFill 67 = .ok (.ireturn, 1) := by decide +kernel
theorem dX13_toFill_68 : decode cX13_toFill 68 = .ok (.iinc 2 1, 3) := by decide +kernel
theorem dX13_toFill_71 : decode cX13_toFill 71 = .ok (.goto (-42), 3) := by decide +kernel
theorem dX13_toFill_74 : decode cX13_toFill 74 = .ok (.aload_n 0, 1) := by decide +kernel
theorem dX13_toFill_75 : decode cX13_toFill 75 = .ok (.bipush (-2), 2) := by decide +kernel
theorem dX13_toFill_77 : decode cX13_toFill 77 = .ok (.invokevirtual 58, 3) := by decide +kernel
theorem dX13_toFill_80 : decode cX13_toFill 80 = .ok (.ireturn, 1) := by decide +kernel
theorem dX13_allSay_0 : decode cX13_allSay 0 = .ok (.iconst 0, 1) := by decide +kernel
theorem dX13_allSay_1 : decode cX13_allSay 1 = .ok (.istore_n 2, 1) := by decide +kernel
theorem dX13_allSay_2 : decode cX13_allSay 2 = .ok (.iload_n 2, 1) := by decide +kernel
theorem dX13_allSay_3 : decode cX13_allSay 3 = .ok (.aload_n 0, 1) := by decide +kernel
theorem dX13_allSay_4 : decode cX13_allSay 4 = .ok (.getfield 338, 3) := by decide +kernel
theorem dX13_allSay_7 : decode cX13_allSay 7 = .ok (.getfield 262, 3) := by decide +kernel
theorem dX13_allSay_10 : decode cX13_allSay 10 = .ok (.if_icmp .ge 21, 3) := by decide +kernel
theorem dX13_allSay_13 : decode cX13_allSay 13 = .ok (.aload_n 0, 1) := by decide +kernel
theorem dX13_allSay_14 : decode cX13_allSay 14 = .ok (.iload_n 2, 1) := by decide +kernel
theorem dX13_allSay_15 : decode cX13_allSay 15 = .ok (.iload_n 1, 1) := by decide +kernel
theorem dX13_allSay_16 : decode cX13_allSay 16 = .ok (.invokevirtual 349, 3) := by decide +kernel
theorem dX13_allSay_19 : decode cX13_allSay 19 = .ok (.iconst 1, 1) := by decide +kernel
theorem dX13_allSay_20 : decode cX13_allSay 20 = .ok (.if_icmp .eq 5, 3) := by decide +kernel
theorem dX13_allSay_23 : decode cX13_allSay 23 = .ok (.iconst 0, 1) := by decide +kernel
theorem dX13_allSay_24 : decode cX13_allSay 24 = .ok (.ireturn, 1) := by decide +kernel
theorem dX13_allSay_25 : decode cX13_allSay 25 = .ok (.iinc 2 1, 3) := by decide +kernel
theorem dX13_allSay_28 : decode cX13_allSay 28 = .ok (.goto (-26), 3) := by decide +kernel
theorem dX13_allSay_31 : decode cX13_allSay 31 = .ok (.iconst 1, 1) := by decide +kernel
theorem dX13_allSay_32 : decode cX13_allSay 32 = .ok (.ireturn, 1) := by decide +kernel
theorem dX13_worded_0 : decode cX13_worded 0 = .ok (.aload_n 0, 1) := by decide +kernel
theorem dX13_worded_1 : decode cX13_worded 1 = .ok (.iconst 0, 1) := by decide +kernel
theorem dX13_worded_2 : decode cX13_worded 2 = .ok (.putfield 48, 3) := by decide +kernel
theorem dX13_worded_5 : decode cX13_worded 5 = .ok (.aload_n 0, 1) := by decide +kernel
theorem dX13_worded_6 : decode cX13_worded 6 = .ok (.getfield 338, 3) := by decide +kernel
theorem dX13_worded_9 : decode cX13_worded 9 = .ok (.ifnonnull 9, 3) := by decide +kernel
theorem dX13_worded_12 : decode cX13_worded 12 = .ok (.aload_n 0, 1) := by decide +kernel
theorem dX13_worded_13 : decode cX13_worded 13 = .ok (.iconst 1, 1) := by decide +kernel
theorem dX13_worded_14 : decode cX13_worded 14 = .ok (.invokevirtual 54, 3) := by decide +kernel
theorem dX13_worded_17 : decode cX13_worded 17 = .ok (.ireturn, 1) := by decide +kernel
theorem dX13_worded_18 : decode cX13_worded 18 = .ok (.bipush (-2), 2) := by decide +kernel
theorem dX13_worded_20 : decode cX13_worded 20 = .ok (.istore_n 1, 1) := by decide +kernel
theorem dX13_worded_21 : decode cX13_worded 21 = .ok (.iconst 0, 1) := by decide +kernel
theorem dX13_worded_22 : decode cX13_worded 22 = .ok (.istore_n 2, 1) := by decide +kernel
theorem dX13_worded_23 : decode cX13_worded 23 = .ok (.iload_n 2, 1) := by decide +kernel
theorem dX13_worded_24 : decode cX13_worded 24 = .ok (.aload_n 0, 1) := by decide +kernel
theorem dX13_worded_25 : decode cX13_worded 25 = .ok (.invokevirtual 370, 3) := by decide +kernel
theorem dX13_worded_28 : decode cX13_worded 28 = .ok (.if_icmp .ge 36, 3) := by decide +kernel
theorem dX13_worded_31 : decode cX13_worded 31 = .ok (.aload_n 0, 1) := by decide +kernel
theorem dX13_worded_32 : decode cX13_worded 32 = .ok (.iload_n 2, 1) := by decide +kernel
theorem dX13_worded_33 : decode cX13_worded 33 = .ok (.invokevirtual 397, 3) := by decide +kernel
theorem dX13_worded_36 : decode cX13_worded 36 = .ok (.ifCond .eq 22, 3) := by decide +kernel
theorem dX13_worded_39 : decode cX13_worded 39 = .ok (.iload_n 1, 1) := by decide +kernel
theorem dX13_worded_40 : decode cX13_worded 40 = .ok (.bipush (-2), 2) := by decide +kernel
theorem dX13_worded_42 : decode cX13_worded 42 = .ok (.if_icmp .eq 14, 3) := by decide +kernel
theorem dX13_worded_45 : decode cX13_worded 45 = .ok (.iload_n 2, 1) := by decide +kernel
theorem dX13_worded_46 : decode cX13_worded 46 = .ok (.invokestatic 400, 3) := by decide +kernel
theorem dX13_worded_49 : decode cX13_worded 49 = .ok (.iload_n 1, 1) := by decide +kernel
theorem dX13_worded_50 : decode cX13_worded 50 = .ok (.invokestatic 400, 3) := by decide +kernel
theorem dX13_worded_53 : decode cX13_worded 53 = .ok (.if_icmp .ge 5, 3) := by decide +kernel
theorem dX13_worded_56 : decode cX13_worded 56 = .ok (.iload_n 2, 1) := by decide +kernel
theorem dX13_worded_57 : decode cX13_worded 57 = .ok (.istore_n 1, 1) := by decide +kernel
theorem dX13_worded_58 : decode cX13_worded 58 = .ok (.iinc 2 1, 3) := by decide +kernel
theorem dX13_worded_61 : decode cX13_worded 61 = .ok (.goto (-38), 3) := by decide +kernel
theorem dX13_worded_64 : decode cX13_worded 64 = .ok (.aload_n 0, 1) := by decide +kernel
theorem dX13_worded_65 : decode cX13_worded 65 = .ok (.iload_n 1, 1) := by decide +kernel
theorem dX13_worded_66 : decode cX13_worded 66 = .ok (.invokevirtual 58, 3) := by decide +kernel
theorem dX13_worded_69 : decode cX13_worded 69 = .ok (.ireturn, 1) := by decide +kernel
theorem dX13_reword_0 : decode cX13_reword 0 = .ok (.aload_n 0, 1) := by decide +kernel
theorem dX13_reword_1 : decode cX13_reword 1 = .ok (.iconst 0, 1) := by decide +kernel
theorem dX13_reword_2 : decode cX13_reword 2 = .ok (.putfield 48, 3) := by decide +kernel
theorem dX13_reword_5 : decode cX13_reword 5 = .ok (.aload_n 0, 1) := by decide +kernel
theorem dX13_reword_6 : decode cX13_reword 6 = .ok (.iload_n 1, 1) := by decide +kernel
theorem dX13_reword_7 : decode cX13_reword 7 = .ok (.invokevirtual 355, 3) := by decide +kernel
theorem dX13_reword_10 : decode cX13_reword 10 = .ok (.ifCond .eq 11, 3) := by decide +kernel
theorem dX13_reword_13 : decode cX13_reword 13 = .ok (.aload_n 0, 1) := by decide +kernel
theorem dX13_reword_14 : decode cX13_reword 14 = .ok (.iload_n 2, 1) := by decide +kernel
theorem dX13_reword_15 : decode cX13_reword 15 = .ok (.invokevirtual 358, 3) := by decide +kernel
theorem dX13_reword_18 : decode cX13_reword 18 = .ok (.ifCond .ne 9, 3) := by decide +kernel
theorem dX13_reword_21 : decode cX13_reword 21 = .ok (.aload_n 0, 1) := by decide +kernel
theorem dX13_reword_22 : decode cX13_reword 22 = .ok (.iconst 1, 1) := by decide +kernel
theorem dX13_reword_23 : decode cX13_reword 23 = .ok (.invokevirtual 54, 3) := by decide +kernel
theorem dX13_reword_26 : decode cX13_reword 26 = .ok (.ireturn, 1) := by decide +kernel
theorem dX13_reword_27 : decode cX13_reword 27 = .ok (.iload_n 3, 1) := by decide +kernel
theorem dX13_reword_28 : decode cX13_reword 28 = .ok (.invokestatic 373, 3) := by decide +kernel
theorem dX13_reword_31 : decode cX13_reword 31 = .ok (.ifCond .ne 9, 3) := by decide +kernel
theorem dX13_reword_34 : decode cX13_reword 34 = .ok (.aload_n 0, 1) := by decide +kernel
theorem dX13_reword_35 : decode cX13_reword 35 = .ok (.iconst 2, 1) := by decide +kernel
theorem dX13_reword_36 : decode cX13_reword 36 = .ok (.invokevirtual 54, 3) := by decide +kernel
theorem dX13_reword_39 : decode cX13_reword 39 = .ok (.ireturn, 1) := by decide +kernel
theorem dX13_reword_40 : decode cX13_reword 40 = .ok (.bipush (-2), 2) := by decide +kernel
theorem dX13_reword_42 : decode cX13_reword 42 = .ok (.istore 4, 2) := by decide +kernel
theorem dX13_reword_44 : decode cX13_reword 44 = .ok (.iconst 0, 1) := by decide +kernel
theorem dX13_reword_45 : decode cX13_reword 45 = .ok (.istore 5, 2) := by decide +kernel
theorem dX13_reword_47 : decode cX13_reword 47 = .ok (.iload 5, 2) := by decide +kernel
theorem dX13_reword_49 : decode cX13_reword 49 = .ok (.aload_n 0, 1) := by decide +kernel
theorem dX13_reword_50 : decode cX13_reword 50 = .ok (.invokevirtual 370, 3) := by decide +kernel
theorem dX13_reword_53 : decode cX13_reword 53 = .ok (.if_icmp .ge 54, 3) := by decide +kernel
theorem dX13_reword_56 : decode cX13_reword 56 = .ok (.aload_n 0, 1) := by decide +kernel
theorem dX13_reword_57 : decode cX13_reword 57 = .ok (.iload_n 2, 1) := by decide +kernel
theorem dX13_reword_58 : decode cX13_reword 58 = .ok (.aload_n 0, 1) := by decide +kernel
theorem dX13_reword_59 : decode cX13_reword 59 = .ok (.getfield 17, 3) := by decide +kernel
theorem dX13_reword_62 : decode cX13_reword 62 = .ok (.bipush 11, 2) := by decide +kernel
theorem dX13_reword_64 : decode cX13_reword 64 = .ok (.iload_n 1, 1) := by decide +kernel
theorem dX13_reword_65 : decode cX13_reword 65 = .ok (.iadd, 1) := by decide +kernel
theorem dX13_reword_66 : decode cX13_reword 66 = .ok (.iaload, 1) := by decide +kernel
theorem dX13_reword_67 : decode cX13_reword 67 = .ok (.iload 5, 2) := by decide +kernel
theorem dX13_reword_69 : decode cX13_reword 69 = .ok (.ixor, 1) := by decide +kernel
theorem dX13_reword_70 : decode cX13_reword 70 = .ok (.invokevirtual 349, 3) := by decide +kernel
theorem dX13_reword_73 : decode cX13_reword 73 = .ok (.iload_n 3, 1) := by decide +kernel
theorem dX13_reword_74 : decode cX13_reword 74 = .ok (.if_icmp .ne 27, 3) := by decide +kernel
theorem dX13_reword_77 : decode cX13_reword 77 = .ok (.iload 4, 2) := by decide +kernel
theorem dX13_reword_79 : decode cX13_reword 79 = .ok (.bipush (-2), 2) := by decide +kernel
theorem dX13_reword_81 : decode cX13_reword 81 = .ok (.if_icmp .eq 16, 3) := by decide +kernel
theorem dX13_reword_84 : decode cX13_reword 84 = .ok (.iload 5, 2) := by decide +kernel
theorem dX13_reword_86 : decode cX13_reword 86 = .ok (.invokestatic 400, 3) := by decide +kernel
theorem dX13_reword_89 : decode cX13_reword 89 = .ok (.iload 4, 2) := by decide +kernel
theorem dX13_reword_91 : decode cX13_reword 91 = .ok (.invokestatic 400, 3) := by decide +kernel
theorem dX13_reword_94 : decode cX13_reword 94 = .ok (.if_icmp .ge 7, 3) := by decide +kernel
theorem dX13_reword_97 : decode cX13_reword 97 = .ok (.iload 5, 2) := by decide +kernel
theorem dX13_reword_99 : decode cX13_reword 99 = .ok (.istore 4, 2) := by decide +kernel
theorem dX13_reword_101 : decode cX13_reword 101 = .ok (.iinc 5 1, 3) := by decide +kernel
theorem dX13_reword_104 : decode cX13_reword 104 = .ok (.goto (-57), 3) := by decide +kernel
theorem dX13_reword_107 : decode cX13_reword 107 = .ok (.aload_n 0, 1) := by decide +kernel
theorem dX13_reword_108 : decode cX13_reword 108 = .ok (.iload 4, 2) := by decide +kernel
theorem dX13_reword_110 : decode cX13_reword 110 = .ok (.invokevirtual 58, 3) := by decide +kernel
theorem dX13_reword_113 : decode cX13_reword 113 = .ok (.ireturn, 1) := by decide +kernel
theorem dX13_yesSaid_0 : decode cX13_yesSaid 0 = .ok (.iconst 0, 1) := by decide +kernel
theorem dX13_yesSaid_1 : decode cX13_yesSaid 1 = .ok (.istore_n 2, 1) := by decide +kernel
theorem dX13_yesSaid_2 : decode cX13_yesSaid 2 = .ok (.iconst 0, 1) := by decide +kernel
theorem dX13_yesSaid_3 : decode cX13_yesSaid 3 = .ok (.istore_n 3, 1) := by decide +kernel
theorem dX13_yesSaid_4 : decode cX13_yesSaid 4 = .ok (.iload_n 3, 1) := by decide +kernel
theorem dX13_yesSaid_5 : decode cX13_yesSaid 5 = .ok (.aload_n 0, 1) := by decide +kernel
theorem dX13_yesSaid_6 : decode cX13_yesSaid 6 = .ok (.getfield 338, 3) := by decide +kernel
theorem dX13_yesSaid_9 : decode cX13_yesSaid 9 = .ok (.getfield 262, 3) := by decide +kernel
theorem dX13_yesSaid_12 : decode cX13_yesSaid 12 = .ok (.if_icmp .ge 27, 3) := by decide +kernel
theorem dX13_yesSaid_15 : decode cX13_yesSaid 15 = .ok (.iload_n 2, 1) := by decide +kernel
theorem dX13_yesSaid_16 : decode cX13_yesSaid 16 = .ok (.aload_n 0, 1) := by decide +kernel
theorem dX13_yesSaid_17 : decode cX13_yesSaid 17 = .ok (.iload_n 3, 1) := by decide +kernel
theorem dX13_yesSaid_18 : decode cX13_yesSaid 18 = .ok (.iload_n 1, 1) := by decide +kernel
theorem dX13_yesSaid_19 : decode cX13_yesSaid 19 = .ok (.invokevirtual 349, 3) := by decide +kernel
theorem dX13_yesSaid_22 : decode cX13_yesSaid 22 = .ok (.iconst 1, 1) := by decide +kernel
theorem dX13_yesSaid_23 : decode cX13_yesSaid 23 = .ok (.if_icmp .ne 7, 3) := by decide +kernel
theorem dX13_yesSaid_26 : decode cX13_yesSaid 26 = .ok (.iconst 1, 1) := by decide +kernel
theorem dX13_yesSaid_27 : decode cX13_yesSaid 27 = .ok (.goto 4, 3) := by decide +kernel
theorem dX13_yesSaid_30 : decode cX13_yesSaid 30 = .ok (.iconst 0, 1) := by decide +kernel
theorem dX13_yesSaid_31 : decode cX13_yesSaid 31 = .ok (.iadd, 1) := by decide +kernel
theorem dX13_yesSaid_32 : decode cX13_yesSaid 32 = .ok (.istore_n 2, 1) := by decide +kernel
theorem dX13_yesSaid_33 : decode cX13_yesSaid 33 = .ok (.iinc 3 1, 3) := by decide +kernel
theorem dX13_yesSaid_36 : decode cX13_yesSaid 36 = .ok (.goto (-32), 3) := by decide +kernel
theorem dX13_yesSaid_39 : decode cX13_yesSaid 39 = .ok (.iload_n 2, 1) := by decide +kernel
theorem dX13_yesSaid_40 : decode cX13_yesSaid 40 = .ok (.ireturn, 1) := by decide +kernel
theorem dX13_bestMark_0 : decode cX13_bestMark 0 = .ok (.aload_n 0, 1) := by decide +kernel
theorem dX13_bestMark_1 : decode cX13_bestMark 1 = .ok (.iconst 0, 1) := by decide +kernel
theorem dX13_bestMark_2 : decode cX13_bestMark 2 = .ok (.putfield 48, 3) := by decide +kernel
theorem dX13_bestMark_5 : decode cX13_bestMark 5 = .ok (.aload_n 0, 1) := by decide +kernel
theorem dX13_bestMark_6 : decode cX13_bestMark 6 = .ok (.iload_n 1, 1) := by decide +kernel
theorem dX13_bestMark_7 : decode cX13_bestMark 7 = .ok (.invokevirtual 355, 3) := by decide +kernel
theorem dX13_bestMark_10 : decode cX13_bestMark 10 = .ok (.ifCond .ne 9, 3) := by decide +kernel
theorem dX13_bestMark_13 : decode cX13_bestMark 13 = .ok (.aload_n 0, 1) := by decide +kernel
theorem dX13_bestMark_14 : decode cX13_bestMark 14 = .ok (.iconst 1, 1) := by decide +kernel
theorem dX13_bestMark_15 : decode cX13_bestMark 15 = .ok (.invokevirtual 54, 3) := by decide +kernel
theorem dX13_bestMark_18 : decode cX13_bestMark 18 = .ok (.ireturn, 1) := by decide +kernel
theorem dX13_bestMark_19 : decode cX13_bestMark 19 = .ok (.aload_n 0, 1) := by decide +kernel
theorem dX13_bestMark_20 : decode cX13_bestMark 20 = .ok (.aload_n 0, 1) := by decide +kernel
theorem dX13_bestMark_21 : decode cX13_bestMark 21 = .ok (.getfield 17, 3) := by decide +kernel
theorem dX13_bestMark_24 : decode cX13_bestMark 24 = .ok (.bipush 11, 2) := by decide +kernel
theorem dX13_bestMark_26 : decode cX13_bestMark 26 = .ok (.iload_n 1, 1) := by decide +kernel
theorem dX13_bestMark_27 : decode cX13_bestMark 27 = .ok (.iadd, 1) := by decide +kernel
theorem dX13_bestMark_28 : decode cX13_bestMark 28 = .ok (.iaload, 1) := by decide +kernel
theorem dX13_bestMark_29 : decode cX13_bestMark 29 = .ok (.invokevirtual 403, 3) := by decide +kernel
theorem dX13_bestMark_32 : decode cX13_bestMark 32 = .ok (.istore_n 2, 1) := by decide +kernel
theorem dX13_bestMark_33 : decode cX13_bestMark 33 = .ok (.bipush (-2), 2) := by decide +kernel
theorem dX13_bestMark_35 : decode cX13_bestMark 35 = .ok (.istore_n 3, 1) := by decide +kernel
theorem dX13_bestMark_36 : decode cX13_bestMark 36 = .ok (.iconst 0, 1) := by decide +kernel
theorem dX13_bestMark_37 : decode cX13_bestMark 37 = .ok (.istore 4, 2) := by decide +kernel
theorem dX13_bestMark_39 : decode cX13_bestMark 39 = .ok (.iload 4, 2) := by decide +kernel
theorem dX13_bestMark_41 : decode cX13_bestMark 41 = .ok (.aload_n 0, 1) := by decide +kernel
theorem dX13_bestMark_42 : decode cX13_bestMark 42 = .ok (.getfield 338, 3) := by decide +kernel
theorem dX13_bestMark_45 : decode cX13_bestMark 45 = .ok (.getfield 238, 3) := by decide +kernel
theorem dX13_bestMark_48 : decode cX13_bestMark 48 = .ok (.if_icmp .ge 44, 3) := by decide +kernel
theorem dX13_bestMark_51 : decode cX13_bestMark 51 = .ok (.aload_n 0, 1) := by decide +kernel
theorem dX13_bestMark_52 : decode cX13_bestMark 52 = .ok (.aload_n 0, 1) := by decide +kernel
theorem dX13_bestMark_53 : decode cX13_bestMark 53 = .ok (.getfield 17, 3) := by decide +kernel
theorem dX13_bestMark_56 : decode cX13_bestMark 56 = .ok (.bipush 11, 2) := by decide +kernel
theorem dX13_bestMark_58 : decode cX13_bestMark 58 = .ok (.iload_n 1, 1) := by decide +kernel
theorem dX13_bestMark_59 : decode cX13_bestMark 59 = .ok (.iadd, 1) := by decide +kernel
theorem dX13_bestMark_60 : decode cX13_bestMark 60 = .ok (.iaload, 1) := by decide +kernel
theorem dX13_bestMark_61 : decode cX13_bestMark 61 = .ok (.iconst 1, 1) := by decide +kernel
theorem dX13_bestMark_62 : decode cX13_bestMark 62 = .ok (.iload 4, 2) := by decide +kernel
theorem dX13_bestMark_64 : decode cX13_bestMark 64 = .ok (.ishl, 1) := by decide +kernel
theorem dX13_bestMark_65 : decode cX13_bestMark 65 = .ok (.ixor, 1) := by decide +kernel
theorem dX13_bestMark_66 : decode cX13_bestMark 66 = .ok (.invokevirtual 403, 3) := by decide +kernel
theorem dX13_bestMark_69 : decode cX13_bestMark 69 = .ok (.istore 5, 2) := by decide +kernel
theorem dX13_bestMark_71 : decode cX13_bestMark 71 = .ok (.iload 5, 2) := by decide +kernel
theorem dX13_bestMark_73 : decode cX13_bestMark 73 = .ok (.iload_n 2, 1) := by decide +kernel
theorem dX13_bestMark_74 : decode cX13_bestMark 74 = .ok (.if_icmp .gt 6, 3) := by decide +kernel
theorem dX13_bestMark_77 : decode cX13_bestMark 77 = .ok (.goto 9, 3) := by decide +kernel
theorem dX13_bestMark_80 : decode cX13_bestMark 80 = .ok (.iload 5, 2) := by decide +kernel
theorem dX13_bestMark_82 : decode cX13_bestMark 82 = .ok (.istore_n 2, 1) := by decide +kernel
theorem dX13_bestMark_83 : decode cX13_bestMark 83 = .ok (.iload 4, 2) := by decide +kernel
theorem dX13_bestMark_85 : decode cX13_bestMark 85 = .ok (.istore_n 3, 1) := by decide +kernel
theorem dX13_bestMark_86 : decode cX13_bestMark 86 = .ok (.iinc 4 1, 3) := by decide +kernel
theorem dX13_bestMark_89 : decode cX13_bestMark 89 = .ok (.goto (-50), 3) := by decide +kernel
theorem dX13_bestMark_92 : decode cX13_bestMark 92 = .ok (.aload_n 0, 1) := by decide +kernel
theorem dX13_bestMark_93 : decode cX13_bestMark 93 = .ok (.iload_n 3, 1) := by decide +kernel
theorem dX13_bestMark_94 : decode cX13_bestMark 94 = .ok (.invokevirtual 58, 3) := by decide +kernel
theorem dX13_bestMark_97 : decode cX13_bestMark 97 = .ok (.ireturn, 1) := by decide +kernel
theorem dX13_fitsPrints_0 : decode cX13_fitsPrints 0 = .ok (.lconst 1, 1) := by decide +kernel
theorem dX13_fitsPrints_1 : decode cX13_fitsPrints 1 = .ok (.lstore_n 2, 1) := by decide +kernel
theorem dX13_fitsPrints_2 : decode cX13_fitsPrints 2 = .ok (.iconst 0, 1) := by decide +kernel
theorem dX13_fitsPrints_3 : decode cX13_fitsPrints 3 = .ok (.istore 4, 2) := by decide +kernel
theorem dX13_fitsPrints_5 : decode cX13_fitsPrints 5 = .ok (.iload 4, 2) := by decide +kernel
theorem dX13_fitsPrints_7 : decode cX13_fitsPrints 7 = .ok (.aload_n 0, 1) := by decide +kernel
theorem dX13_fitsPrints_8 : decode cX13_fitsPrints 8 = .ok (.getfield 338, 3) := by decide +kernel
theorem dX13_fitsPrints_11 : decode cX13_fitsPrints 11 = .ok (.getfield 320, 3) := by decide +kernel
theorem dX13_fitsPrints_14 : decode cX13_fitsPrints 14 = .ok (.if_icmp .ge 52, 3) := by decide +kernel
theorem dX13_fitsPrints_17 : decode cX13_fitsPrints 17 = .ok (.lload_n 2, 1) := by decide +kernel
theorem dX13_fitsPrints_18 : decode cX13_fitsPrints 18 = .ok (.aload_n 0, 1) := by decide +kernel
theorem dX13_fitsPrints_19 : decode cX13_fitsPrints 19 = .ok (.aload_n 0, 1) := by decide +kernel
theorem dX13_fitsPrints_20 : decode cX13_fitsPrints 20 = .ok (.getfield 338, 3) := by decide +kernel
theorem dX13_fitsPrints_23 : decode cX13_fitsPrints 23 = .ok (.getfield 326, 3) := by decide +kernel
theorem dX13_fitsPrints_26 : decode cX13_fitsPrints 26 = .ok (.iload 4, 2) := by decide +kernel
theorem dX13_fitsPrints_28 : decode cX13_fitsPrints 28 = .ok (.iaload, 1) := by decide +kernel
theorem dX13_fitsPrints_29 : decode cX13_fitsPrints 29 = .ok (.aload_n 0, 1) := by decide +kernel
theorem dX13_fitsPrints_30 : decode cX13_fitsPrints 30 = .ok (.iload_n 1, 1) := by decide +kernel
theorem dX13_fitsPrints_31 : decode cX13_fitsPrints 31 = .ok (.aload_n 0, 1) := by decide +kernel
theorem dX13_fitsPrints_32 : decode cX13_fitsPrints 32 = .ok (.getfield 338, 3) := by decide +kernel
theorem dX13_fitsPrints_35 : decode cX13_fitsPrints 35 = .ok (.getfield 323, 3) := by decide +kernel
theorem dX13_fitsPrints_38 : decode cX13_fitsPrints 38 = .ok (.iload 4, 2) := by decide +kernel
theorem dX13_fitsPrints_40 : decode cX13_fitsPrints 40 = .ok (.iaload, 1) := by decide +kernel
theorem dX13_fitsPrints_41 : decode cX13_fitsPrints 41 = .ok (.invokevirtual 367, 3) := by decide +kernel
theorem dX13_fitsPrints_44 : decode cX13_fitsPrints 44 = .ok (.aload_n 0, 1) := by decide +kernel
theorem dX13_fitsPrints_45 : decode cX13_fitsPrints 45 = .ok (.getfield 338, 3) := by decide +kernel
theorem dX13_fitsPrints_48 : decode cX13_fitsPrints 48 = .ok (.getfield 329, 3) := by decide +kernel
theorem dX13_fitsPrints_51 : decode cX13_fitsPrints 51 = .ok (.iload 4, 2) := by decide +kernel
theorem dX13_fitsPrints_53 : decode cX13_fitsPrints 53 = .ok (.iaload, 1) := by decide +kernel
theorem dX13_fitsPrints_54 : decode cX13_fitsPrints 54 = .ok (.invokevirtual 406, 3) := by decide +kernel
theorem dX13_fitsPrints_57 : decode cX13_fitsPrints 57 = .ok (.i2l, 1) := by decide +kernel
theorem dX13_fitsPrints_58 : decode cX13_fitsPrints 58 = .ok (.lmul, 1) := by decide +kernel
theorem dX13_fitsPrints_59 : decode cX13_fitsPrints 59 = .ok (.lstore_n 2, 1) := by decide +kernel
theorem dX13_fitsPrints_60 : decode cX13_fitsPrints 60 = .ok (.iinc 4 1, 3) := by decide +kernel
theorem dX13_fitsPrints_63 : decode cX13_fitsPrints 63 = .ok (.goto (-58), 3) := by decide +kernel
theorem dX13_fitsPrints_66 : decode cX13_fitsPrints 66 = .ok (.lload_n 2, 1) := by decide +kernel
theorem dX13_fitsPrints_67 : decode cX13_fitsPrints 67 = .ok (.lreturn, 1) := by decide +kernel
theorem dX13_fitAll_0 : decode cX13_fitAll 0 = .ok (.lconst 0, 1) := by decide +kernel
theorem dX13_fitAll_1 : decode cX13_fitAll 1 = .ok (.lstore_n 1, 1) := by decide +kernel
theorem dX13_fitAll_2 : decode cX13_fitAll 2 = .ok (.iconst 0, 1) := by decide +kernel
theorem dX13_fitAll_3 : decode cX13_fitAll 3 = .ok (.istore_n 3, 1) := by decide +kernel
theorem dX13_fitAll_4 : decode cX13_fitAll 4 = .ok (.iload_n 3, 1) := by decide +kernel
theorem dX13_fitAll_5 : decode cX13_fitAll 5 = .ok (.aload_n 0, 1) := by decide +kernel
theorem dX13_fitAll_6 : decode cX13_fitAll 6 = .ok (.getfield 338, 3) := by decide +kernel
theorem dX13_fitAll_9 : decode cX13_fitAll 9 = .ok (.getfield 262, 3) := by decide +kernel
theorem dX13_fitAll_12 : decode cX13_fitAll 12 = .ok (.if_icmp .ge 17, 3) := by decide +kernel
theorem dX13_fitAll_15 : decode cX13_fitAll 15 = .ok (.lload_n 1, 1) := by decide +kernel
theorem dX13_fitAll_16 : decode cX13_fitAll 16 = .ok (.aload_n 0, 1) := by decide +kernel
theorem dX13_fitAll_17 : decode cX13_fitAll 17 = .ok (.iload_n 3, 1) := by decide +kernel
theorem dX13_fitAll_18 : decode cX13_fitAll 18 = .ok (.invokevirtual 410, 3) := by decide +kernel
theorem dX13_fitAll_21 : decode cX13_fitAll 21 = .ok (.ladd, 1) := by decide +kernel
theorem dX13_fitAll_22 : decode cX13_fitAll 22 = .ok (.lstore_n 1, 1) := by decide +kernel
theorem dX13_fitAll_23 : decode cX13_fitAll 23 = .ok (.iinc 3 1, 3) := by decide +kernel
theorem dX13_fitAll_26 : decode cX13_fitAll 26 = .ok (.goto (-22), 3) := by decide +kernel
theorem dX13_fitAll_29 : decode cX13_fitAll 29 = .ok (.lload_n 1, 1) := by decide +kernel
theorem dX13_fitAll_30 : decode cX13_fitAll 30 = .ok (.lreturn, 1) := by decide +kernel
theorem dX13_odds_0 : decode cX13_odds 0 = .ok (.aload_n 0, 1) := by decide +kernel
theorem dX13_odds_1 : decode cX13_odds 1 = .ok (.iconst 0, 1) := by decide +kernel
theorem dX13_odds_2 : decode cX13_odds 2 = .ok (.putfield 48, 3) := by decide +kernel
theorem dX13_odds_5 : decode cX13_odds 5 = .ok (.aload_n 0, 1) := by decide +kernel
theorem dX13_odds_6 : decode cX13_odds 6 = .ok (.iload_n 1, 1) := by decide +kernel
theorem dX13_odds_7 : decode cX13_odds 7 = .ok (.invokevirtual 358, 3) := by decide +kernel
theorem dX13_odds_10 : decode cX13_odds 10 = .ok (.ifCond .eq 20, 3) := by decide +kernel
theorem dX13_odds_13 : decode cX13_odds 13 = .ok (.aload_n 0, 1) := by decide +kernel
theorem dX13_odds_14 : decode cX13_odds 14 = .ok (.aload_n 0, 1) := by decide +kernel
theorem dX13_odds_15 : decode cX13_odds 15 = .ok (.iload_n 1, 1) := by decide +kernel
theorem dX13_odds_16 : decode cX13_odds 16 = .ok (.invokevirtual 410, 3) := by decide +kernel
theorem dX13_odds_19 : decode cX13_odds 19 = .ok (.aload_n 0, 1) := by decide +kernel
theorem dX13_odds_20 : decode cX13_odds 20 = .ok (.invokevirtual 414, 3) := by decide +kernel
theorem dX13_odds_23 : decode cX13_odds 23 = .ok (.iload_n 2, 1) := by decide +kernel
theorem dX13_odds_24 : decode cX13_odds 24 = .ok (.invokevirtual 417, 3) := by decide +kernel
theorem dX13_odds_27 : decode cX13_odds 27 = .ok (.goto 9, 3) := by decide +kernel
theorem dX13_odds_30 : decode cX13_odds 30 = .ok (.aload_n 0, 1) := by decide +kernel
theorem dX13_odds_31 : decode cX13_odds 31 = .ok (.iconst 1, 1) := by decide +kernel
theorem dX13_odds_32 : decode cX13_odds 32 = .ok (.invokevirtual 54, 3) := by decide +kernel
theorem dX13_odds_35 : decode cX13_odds 35 = .ok (.i2l, 1) := by decide +kernel
theorem dX13_odds_36 : decode cX13_odds 36 = .ok (.lreturn, 1) := by decide +kernel
theorem dX13_likeliest_0 : decode cX13_likeliest 0 = .ok (.aload_n 0, 1) := by decide +kernel
theorem dX13_likeliest_1 : decode cX13_likeliest 1 = .ok (.iconst 0, 1) := by decide +kernel
theorem dX13_likeliest_2 : decode cX13_likeliest 2 = .ok (.putfield 48, 3) := by decide +kernel
theorem dX13_likeliest_5 : decode cX13_likeliest 5 = .ok (.aload_n 0, 1) := by decide +kernel
theorem dX13_likeliest_6 : decode cX13_likeliest 6 = .ok (.getfield 338, 3) := by decide +kernel
theorem dX13_likeliest_9 : decode cX13_likeliest 9 = .ok (.ifnonnull 9, 3) := by decide +kernel
theorem dX13_likeliest_12 : decode cX13_likeliest 12 = .ok (.aload_n 0, 1) := by decide +kernel
theorem dX13_likeliest_13 : decode cX13_likeliest 13 = .ok (.iconst 1, 1) := by decide +kernel
theorem dX13_likeliest_14 : decode cX13_likeliest 14 = .ok (.invokevirtual 54, 3) := by decide +kernel
theorem dX13_likeliest_17 : decode cX13_likeliest 17 = .ok (.ireturn, 1) := by decide +kernel
theorem dX13_likeliest_18 : decode cX13_likeliest 18 = .ok (.bipush (-2), 2) := by decide +kernel
theorem dX13_likeliest_20 : decode cX13_likeliest 20 = .ok (.istore_n 1, 1) := by decide +kernel
theorem dX13_likeliest_21 : decode cX13_likeliest 21 = .ok (.lconst 0, 1) := by decide +kernel
theorem dX13_likeliest_22 : decode cX13_likeliest 22 = .ok (.lstore_n 2, 1) := by decide +kernel
theorem dX13_likeliest_23 : decode cX13_likeliest 23 = .ok (.iconst 0, 1) := by decide +kernel
theorem dX13_likeliest_24 : decode cX13_likeliest 24 = .ok (.istore 4, 2) := by decide +kernel
theorem dX13_likeliest_26 : decode cX13_likeliest 26 = .ok (.iload 4, 2) := by decide +kernel
theorem dX13_likeliest_28 : decode cX13_likeliest 28 = .ok (.aload_n 0, 1) := by decide +kernel
theorem dX13_likeliest_29 : decode cX13_likeliest 29 = .ok (.getfield 338, 3) := by decide +kernel
theorem dX13_likeliest_32 : decode cX13_likeliest 32 = .ok (.getfield 262, 3) := by decide +kernel
theorem dX13_likeliest_35 : decode cX13_likeliest 35 = .ok (.if_icmp .ge 33, 3) := by decide +kernel
theorem dX13_likeliest_38 : decode cX13_likeliest 38 = .ok (.aload_n 0, 1) := by decide +kernel
theorem dX13_likeliest_39 : decode cX13_likeliest 39 = .ok (.iload 4, 2) := by decide +kernel
theorem dX13_likeliest_41 : decode cX13_likeliest 41 = .ok (.invokevirtual 410, 3) := by decide +kernel
theorem dX13_likeliest_44 : decode cX13_likeliest 44 = .ok (.lload_n 2, 1) := by decide +kernel
theorem dX13_likeliest_45 : decode cX13_likeliest 45 = .ok (.lcmp, 1) := by decide +kernel
theorem dX13_likeliest_46 : decode cX13_likeliest 46 = .ok (.ifCond .gt 6, 3) := by decide +kernel
theorem dX13_likeliest_49 : decode cX13_likeliest 49 = .ok (.goto 13, 3) := by decide +kernel
theorem dX13_likeliest_52 : decode cX13_likeliest 52 = .ok (.aload_n 0, 1) := by decide +kernel
theorem dX13_likeliest_53 : decode cX13_likeliest 53 = .ok (.iload 4, 2) := by decide +kernel
theorem dX13_likeliest_55 : decode cX13_likeliest 55 = .ok (.invokevirtual 410, 3) := by decide +kernel
theorem dX13_likeliest_58 : decode cX13_likeliest 58 = .ok (.lstore_n 2, 1) := by decide +kernel
theorem dX13_likeliest_59 : decode cX13_likeliest 59 = .ok (.iload 4, 2) := by decide +kernel
theorem dX13_likeliest_61 : decode cX13_likeliest 61 = .ok (.istore_n 1, 1) := by decide +kernel
theorem dX13_likeliest_62 : decode cX13_likeliest 62 = .ok (.iinc 4 1, 3) := by decide +kernel
theorem dX13_likeliest_65 : decode cX13_likeliest 65 = .ok (.goto (-39), 3) := by decide +kernel
theorem dX13_likeliest_68 : decode cX13_likeliest 68 = .ok (.aload_n 0, 1) := by decide +kernel
theorem dX13_likeliest_69 : decode cX13_likeliest 69 = .ok (.iload_n 1, 1) := by decide +kernel
theorem dX13_likeliest_70 : decode cX13_likeliest 70 = .ok (.invokevirtual 58, 3) := by decide +kernel
theorem dX13_likeliest_73 : decode cX13_likeliest 73 = .ok (.ireturn, 1) := by decide +kernel
theorem dX13_next_0 : decode cX13_next 0 = .ok (.aload_n 0, 1) := by decide +kernel
theorem dX13_next_1 : decode cX13_next 1 = .ok (.iconst 0, 1) := by decide +kernel
theorem dX13_next_2 : decode cX13_next 2 = .ok (.putfield 48, 3) := by decide +kernel
theorem dX13_next_5 : decode cX13_next 5 = .ok (.aload_n 0, 1) := by decide +kernel
theorem dX13_next_6 : decode cX13_next 6 = .ok (.iload_n 1, 1) := by decide +kernel
theorem dX13_next_7 : decode cX13_next 7 = .ok (.invokevirtual 355, 3) := by decide +kernel
theorem dX13_next_10 : decode cX13_next 10 = .ok (.ifCond .eq 11, 3) := by decide +kernel
theorem dX13_next_13 : decode cX13_next 13 = .ok (.aload_n 0, 1) := by decide +kernel
theorem dX13_next_14 : decode cX13_next 14 = .ok (.iload_n 2, 1) := by decide +kernel
theorem dX13_next_15 : decode cX13_next 15 = .ok (.invokevirtual 361, 3) := by decide +kernel
theorem dX13_next_18 : decode cX13_next 18 = .ok (.ifCond .ne 10, 3) := by decide +kernel
theorem dX13_next_21 : decode cX13_next 21 = .ok (.aload_n 0, 1) := by decide +kernel
theorem dX13_next_22 : decode cX13_next 22 = .ok (.iconst 1, 1) := by decide +kernel
theorem dX13_next_23 : decode cX13_next 23 = .ok (.invokevirtual 54, 3) := by decide +kernel
theorem dX13_next_26 : decode cX13_next 26 = .ok (.i2l, 1) := by decide +kernel
theorem dX13_next_27 : decode cX13_next 27 = .ok (.lreturn, 1) := by decide +kernel
theorem dX13_next_28 : decode cX13_next 28 = .ok (.iload_n 3, 1) := by decide +kernel
theorem dX13_next_29 : decode cX13_next 29 = .ok (.invokestatic 373, 3) := by decide +kernel
theorem dX13_next_32 : decode cX13_next 32 = .ok (.ifCond .ne 10, 3) := by decide +kernel
theorem dX13_next_35 : decode cX13_next 35 = .ok (.aload_n 0, 1) := by decide +kernel
theorem dX13_next_36 : decode cX13_next 36 = .ok (.iconst 2, 1) := by decide +kernel
theorem dX13_next_37 : decode cX13_next 37 = .ok (.invokevirtual 54, 3) := by decide +kernel
theorem dX13_next_40 : decode cX13_next 40 = .ok (.i2l, 1) := by decide +kernel
theorem dX13_next_41 : decode cX13_next 41 = .ok (.lreturn, 1) := by decide +kernel
theorem dX13_next_42 : decode cX13_next 42 = .ok (.lconst 0, 1) := by decide +kernel
theorem dX13_next_43 : decode cX13_next 43 = .ok (.lstore 5, 2) := by decide +kernel
theorem dX13_next_45 : decode cX13_next 45 = .ok (.iconst 0, 1) := by decide +kernel
theorem dX13_next_46 : decode cX13_next 46 = .ok (.istore 7, 2) := by decide +kernel
theorem dX13_next_48 : decode cX13_next 48 = .ok (.iload 7, 2) := by decide +kernel
theorem dX13_next_50 : decode cX13_next 50 = .ok (.aload_n 0, 1) := by decide +kernel
theorem dX13_next_51 : decode cX13_next 51 = .ok (.getfield 338, 3) := by decide +kernel
theorem dX13_next_54 : decode cX13_next 54 = .ok (.getfield 262, 3) := by decide +kernel
theorem dX13_next_57 : decode cX13_next 57 = .ok (.if_icmp .ge 35, 3) := by decide +kernel
theorem dX13_next_60 : decode cX13_next 60 = .ok (.lload 5, 2) := by decide +kernel
theorem dX13_next_62 : decode cX13_next 62 = .ok (.aload_n 0, 1) := by decide +kernel
theorem dX13_next_63 : decode cX13_next 63 = .ok (.iload 7, 2) := by decide +kernel
theorem dX13_next_65 : decode cX13_next 65 = .ok (.invokevirtual 410, 3) := by decide +kernel
theorem dX13_next_68 : decode cX13_next 68 = .ok (.aload_n 0, 1) := by decide +kernel
theorem dX13_next_69 : decode cX13_next 69 = .ok (.iload_n 2, 1) := by decide +kernel
theorem dX13_next_70 : decode cX13_next 70 = .ok (.aload_n 0, 1) := by decide +kernel
theorem dX13_next_71 : decode cX13_next 71 = .ok (.iload 7, 2) := by decide +kernel
theorem dX13_next_73 : decode cX13_next 73 = .ok (.iload_n 1, 1) := by decide +kernel
theorem dX13_next_74 : decode cX13_next 74 = .ok (.invokevirtual 367, 3) := by decide +kernel
theorem dX13_next_77 : decode cX13_next 77 = .ok (.iload_n 3, 1) := by decide +kernel
theorem dX13_next_78 : decode cX13_next 78 = .ok (.invokevirtual 406, 3) := by decide +kernel
theorem dX13_next_81 : decode cX13_next 81 = .ok (.i2l, 1) := by decide +kernel
theorem dX13_next_82 : decode cX13_next 82 = .ok (.lmul, 1) := by decide +kernel
theorem dX13_next_83 : decode cX13_next 83 = .ok (.ladd, 1) := by decide +kernel
theorem dX13_next_84 : decode cX13_next 84 = .ok (.lstore 5, 2) := by decide +kernel
theorem dX13_next_86 : decode cX13_next 86 = .ok (.iinc 7 1, 3) := by decide +kernel
theorem dX13_next_89 : decode cX13_next 89 = .ok (.goto (-41), 3) := by decide +kernel
theorem dX13_next_92 : decode cX13_next 92 = .ok (.aload_n 0, 1) := by decide +kernel
theorem dX13_next_93 : decode cX13_next 93 = .ok (.lload 5, 2) := by decide +kernel
theorem dX13_next_95 : decode cX13_next 95 = .ok (.ldc2_w 421, 3) := by decide +kernel
theorem dX13_next_98 : decode cX13_next 98 = .ok (.aload_n 0, 1) := by decide +kernel
theorem dX13_next_99 : decode cX13_next 99 = .ok (.invokevirtual 414, 3) := by decide +kernel
theorem dX13_next_102 : decode cX13_next 102 = .ok (.lmul, 1) := by decide +kernel
theorem dX13_next_103 : decode cX13_next 103 = .ok (.iload 4, 2) := by decide +kernel
theorem dX13_next_105 : decode cX13_next 105 = .ok (.invokevirtual 417, 3) := by decide +kernel
theorem dX13_next_108 : decode cX13_next 108 = .ok (.lreturn, 1) := by decide +kernel
theorem dX13_lawsAll_0 : decode cX13_lawsAll 0 = .ok (.iconst 3, 1) := by decide +kernel
theorem dX13_lawsAll_1 : decode cX13_lawsAll 1 = .ok (.bipush 6, 2) := by decide +kernel
theorem dX13_lawsAll_3 : decode cX13_lawsAll 3 = .ok (.aload_n 0, 1) := by decide +kernel
theorem dX13_lawsAll_4 : decode cX13_lawsAll 4 = .ok (.getfield 338, 3) := by decide +kernel
theorem dX13_lawsAll_7 : decode cX13_lawsAll 7 = .ok (.getfield 238, 3) := by decide +kernel
theorem dX13_lawsAll_10 : decode cX13_lawsAll 10 = .ok (.imul, 1) := by decide +kernel
theorem dX13_lawsAll_11 : decode cX13_lawsAll 11 = .ok (.iadd, 1) := by decide +kernel
theorem dX13_lawsAll_12 : decode cX13_lawsAll 12 = .ok (.ireturn, 1) := by decide +kernel
theorem dX13_lawOf_0 : decode cX13_lawOf 0 = .ok (.iload_n 1, 1) := by decide +kernel
theorem dX13_lawOf_1 : decode cX13_lawOf 1 = .ok (.iconst 3, 1) := by decide +kernel
theorem dX13_lawOf_2 : decode cX13_lawOf 2 = .ok (.if_icmp .ge 5, 3) := by decide +kernel
theorem dX13_lawOf_5 : decode cX13_lawOf 5 = .ok (.iload_n 1, 1) := by decide +kernel
theorem dX13_lawOf_6 : decode cX13_lawOf 6 = .ok (.ireturn, 1) := by decide +kernel
theorem dX13_lawOf_7 : decode cX13_lawOf 7 = .ok (.iload_n 1, 1) := by decide +kernel
theorem dX13_lawOf_8 : decode cX13_lawOf 8 = .ok (.iconst 3, 1) := by decide +kernel
theorem dX13_lawOf_9 : decode cX13_lawOf 9 = .ok (.isub, 1) := by decide +kernel
theorem dX13_lawOf_10 : decode cX13_lawOf 10 = .ok (.istore_n 3, 1) := by decide +kernel
theorem dX13_lawOf_11 : decode cX13_lawOf 11 = .ok (.iload_n 3, 1) := by decide +kernel
theorem dX13_lawOf_12 : decode cX13_lawOf 12 = .ok (.bipush 6, 2) := by decide +kernel
theorem dX13_lawOf_14 : decode cX13_lawOf 14 = .ok (.idiv, 1) := by decide +kernel
theorem dX13_lawOf_15 : decode cX13_lawOf 15 = .ok (.istore 4, 2) := by decide +kernel
theorem dX13_lawOf_17 : decode cX13_lawOf 17 = .ok (.iload_n 2, 1) := by decide +kernel
theorem dX13_lawOf_18 : decode cX13_lawOf 18 = .ok (.iload 4, 2) := by decide +kernel
theorem dX13_lawOf_20 : decode cX13_lawOf 20 = .ok (.invokestatic 199, 3) := by decide +kernel
theorem dX13_lawOf_23 : decode cX13_lawOf 23 = .ok (.istore 5, 2) := by decide +kernel
theorem dX13_lawOf_25 : decode cX13_lawOf 25 = .ok (.iload_n 3, 1) := by decide +kernel
theorem dX13_lawOf_26 : decode cX13_lawOf 26 = .ok (.bipush 6, 2) := by decide +kernel
theorem dX13_lawOf_28 : decode cX13_lawOf 28 = .ok (.irem, 1) := by decide +kernel
theorem dX13_lawOf_29 : decode cX13_lawOf 29 = .ok (.iconst 2, 1) := by decide +kernel
theorem dX13_lawOf_30 : decode cX13_lawOf 30 = .ok (.idiv, 1) := by decide +kernel
theorem dX13_lawOf_31 : decode cX13_lawOf 31 = .ok (.istore 6, 2) := by decide +kernel
theorem dX13_lawOf_33 : decode cX13_lawOf 33 = .ok (.iload 6, 2) := by decide +kernel
theorem dX13_lawOf_35 : decode cX13_lawOf 35 = .ok (.iconst 1, 1) := by decide +kernel
theorem dX13_lawOf_36 : decode cX13_lawOf 36 = .ok (.iadd, 1) := by decide +kernel
theorem dX13_lawOf_37 : decode cX13_lawOf 37 = .ok (.iload_n 3, 1) := by decide +kernel
theorem dX13_lawOf_38 : decode cX13_lawOf 38 = .ok (.iconst 2, 1) := by decide +kernel
theorem dX13_lawOf_39 : decode cX13_lawOf 39 = .ok (.irem, 1) := by decide +kernel
theorem dX13_lawOf_40 : decode cX13_lawOf 40 = .ok (.iadd, 1) := by decide +kernel
theorem dX13_lawOf_41 : decode cX13_lawOf 41 = .ok (.iconst 3, 1) := by decide +kernel
theorem dX13_lawOf_42 : decode cX13_lawOf 42 = .ok (.irem, 1) := by decide +kernel
theorem dX13_lawOf_43 : decode cX13_lawOf 43 = .ok (.istore 7, 2) := by decide +kernel
theorem dX13_lawOf_45 : decode cX13_lawOf 45 = .ok (.iload 5, 2) := by decide +kernel
theorem dX13_lawOf_47 : decode cX13_lawOf 47 = .ok (.ifCond .eq 8, 3) := by decide +kernel
theorem dX13_lawOf_50 : decode cX13_lawOf 50 = .ok (.iload 6, 2) := by decide +kernel
theorem dX13_lawOf_52 : decode cX13_lawOf 52 = .ok (.goto 5, 3) := by decide +kernel
theorem dX13_lawOf_55 : decode cX13_lawOf 55 = .ok (.iload 7, 2) := by decide +kernel
theorem dX13_lawOf_57 : decode cX13_lawOf 57 = .ok (.ireturn, 1) := by decide +kernel
theorem dX13_lawFits_0 : decode cX13_lawFits 0 = .ok (.iconst 0, 1) := by decide +kernel
theorem dX13_lawFits_1 : decode cX13_lawFits 1 = .ok (.istore_n 2, 1) := by decide +kernel
theorem dX13_lawFits_2 : decode cX13_lawFits 2 = .ok (.iload_n 2, 1) := by decide +kernel
theorem dX13_lawFits_3 : decode cX13_lawFits 3 = .ok (.aload_n 0, 1) := by decide +kernel
theorem dX13_lawFits_4 : decode cX13_lawFits 4 = .ok (.getfield 338, 3) := by decide +kernel
theorem dX13_lawFits_7 : decode cX13_lawFits 7 = .ok (.getfield 320, 3) := by decide +kernel
theorem dX13_lawFits_10 : decode cX13_lawFits 10 = .ok (.if_icmp .ge 58, 3) := by decide +kernel
theorem dX13_lawFits_13 : decode cX13_lawFits 13 = .ok (.aload_n 0, 1) := by decide +kernel
theorem dX13_lawFits_14 : decode cX13_lawFits 14 = .ok (.aload_n 0, 1) := by decide +kernel
theorem dX13_lawFits_15 : decode cX13_lawFits 15 = .ok (.getfield 338, 3) := by decide +kernel
theorem dX13_lawFits_18 : decode cX13_lawFits 18 = .ok (.getfield 326, 3) := by decide +kernel
theorem dX13_lawFits_21 : decode cX13_lawFits 21 = .ok (.iload_n 2, 1) := by decide +kernel
theorem dX13_lawFits_22 : decode cX13_lawFits 22 = .ok (.iaload, 1) := by decide +kernel
theorem dX13_lawFits_23 : decode cX13_lawFits 23 = .ok (.aload_n 0, 1) := by decide +kernel
theorem dX13_lawFits_24 : decode cX13_lawFits 24 = .ok (.iload_n 1, 1) := by decide +kernel
theorem dX13_lawFits_25 : decode cX13_lawFits 25 = .ok (.aload_n 0, 1) := by decide +kernel
theorem dX13_lawFits_26 : decode cX13_lawFits 26 = .ok (.getfield 17, 3) := by decide +kernel
theorem dX13_lawFits_29 : decode cX13_lawFits 29 = .ok (.bipush 11, 2) := by decide +kernel
theorem dX13_lawFits_31 : decode cX13_lawFits 31 = .ok (.aload_n 0, 1) := by decide +kernel
theorem dX13_lawFits_32 : decode cX13_lawFits 32 = .ok (.getfield 338, 3) := by decide +kernel
theorem dX13_lawFits_35 : decode cX13_lawFits 35 = .ok (.getfield 323, 3) := by decide +kernel
theorem dX13_lawFits_38 : decode cX13_lawFits 38 = .ok (.iload_n 2, 1) := by decide +kernel
theorem dX13_lawFits_39 : decode cX13_lawFits 39 = .ok (.iaload, 1) := by decide +kernel
theorem dX13_lawFits_40 : decode cX13_lawFits 40 = .ok (.iadd, 1) := by decide +kernel
theorem dX13_lawFits_41 : decode cX13_lawFits 41 = .ok (.iaload, 1) := by decide +kernel
theorem dX13_lawFits_42 : decode cX13_lawFits 42 = .ok (.invokevirtual 423, 3) := by decide +kernel
theorem dX13_lawFits_45 : decode cX13_lawFits 45 = .ok (.invokevirtual 352, 3) := by decide +kernel
theorem dX13_lawFits_48 : decode cX13_lawFits 48 = .ok (.aload_n 0, 1) := by decide +kernel
theorem dX13_lawFits_49 : decode cX13_lawFits 49 = .ok (.getfield 338, 3) := by decide +kernel
theorem dX13_lawFits_52 : decode cX13_lawFits 52 = .ok (.getfield 329, 3) := by decide +kernel
theorem dX13_lawFits_55 : decode cX13_lawFits 55 = .ok (.iload_n 2, 1) := by decide +kernel
theorem dX13_lawFits_56 : decode cX13_lawFits 56 = .ok (.iaload, 1) := by decide +kernel
theorem dX13_lawFits_57 : decode cX13_lawFits 57 = .ok (.if_icmp .eq 5, 3) := by decide +kernel
theorem dX13_lawFits_60 : decode cX13_lawFits 60 = .ok (.iconst 0, 1) := by decide +kernel
theorem dX13_lawFits_61 : decode cX13_lawFits 61 = .ok (.ireturn, 1) := by decide +kernel
theorem dX13_lawFits_62 : decode cX13_lawFits 62 = .ok (.iinc 2 1, 3) := by decide +kernel
theorem dX13_lawFits_65 : decode cX13_lawFits 65 = .ok (.goto (-63), 3) := by decide +kernel
theorem dX13_lawFits_68 : decode cX13_lawFits 68 = .ok (.iconst 1, 1) := by decide +kernel
theorem dX13_lawFits_69 : decode cX13_lawFits 69 = .ok (.ireturn, 1) := by decide +kernel
theorem dX13_lawsFor_0 : decode cX13_lawsFor 0 = .ok (.iconst 0, 1) := by decide +kernel
theorem dX13_lawsFor_1 : decode cX13_lawsFor 1 = .ok (.istore_n 3, 1) := by decide +kernel
theorem dX13_lawsFor_2 : decode cX13_lawsFor 2 = .ok (.iconst 0, 1) := by decide +kernel
theorem dX13_lawsFor_3 : decode cX13_lawsFor 3 = .ok (.istore 4, 2) := by decide +kernel
theorem dX13_lawsFor_5 : decode cX13_lawsFor 5 = .ok (.iload 4, 2) := by decide +kernel
theorem dX13_lawsFor_7 : decode cX13_lawsFor 7 = .ok (.aload_n 0, 1) := by decide +kernel
theorem dX13_lawsFor_8 : decode cX13_lawsFor 8 = .ok (.invokevirtual 426, 3) := by decide +kernel
theorem dX13_lawsFor_11 : decode cX13_lawsFor 11 = .ok (.if_icmp .ge 50, 3) := by decide +kernel
theorem dX13_lawsFor_14 : decode cX13_lawsFor 14 = .ok (.iload_n 3, 1) := by decide +kernel
theorem dX13_lawsFor_15 : decode cX13_lawsFor 15 = .ok (.aload_n 0, 1) := by decide +kernel
theorem dX13_lawsFor_16 : decode cX13_lawsFor 16 = .ok (.iload 4, 2) := by decide +kernel
theorem dX13_lawsFor_18 : decode cX13_lawsFor 18 = .ok (.invokevirtual 429, 3) := by decide +kernel
theorem dX13_lawsFor_21 : decode cX13_lawsFor 21 = .ok (.ifCond .eq 31, 3) := by decide +kernel
theorem dX13_lawsFor_24 : decode cX13_lawsFor 24 = .ok (.iload_n 2, 1) := by decide +kernel
theorem dX13_lawsFor_25 : decode cX13_lawsFor 25 = .ok (.iconst (-1), 1) := by decide +kernel
theorem dX13_lawsFor_26 : decode cX13_lawsFor 26 = .ok (.if_icmp .eq 22, 3) := by decide +kernel
theorem dX13_lawsFor_29 : decode cX13_lawsFor 29 = .ok (.aload_n 0, 1) := by decide +kernel
theorem dX13_lawsFor_30 : decode cX13_lawsFor 30 = .ok (.iload 4, 2) := by decide +kernel
theorem dX13_lawsFor_32 : decode cX13_lawsFor 32 = .ok (.aload_n 0, 1) := by decide +kernel
theorem dX13_lawsFor_33 : decode cX13_lawsFor 33 = .ok (.getfield 17, 3) := by decide +kernel
theorem dX13_lawsFor_36 : decode cX13_lawsFor 36 = .ok (.bipush 11, 2) := by decide +kernel
theorem dX13_lawsFor_38 : decode cX13_lawsFor 38 = .ok (.iload_n 1, 1) := by decide +kernel
theorem dX13_lawsFor_39 : decode cX13_lawsFor 39 = .ok (.iadd, 1) := by decide +kernel
theorem dX13_lawsFor_40 : decode cX13_lawsFor 40 = .ok (.iaload, 1) := by decide +kernel
theorem dX13_lawsFor_41 : decode cX13_lawsFor 41 = .ok (.invokevirtual 423, 3) := by decide +kernel
theorem dX13_lawsFor_44 : decode cX13_lawsFor 44 = .ok (.iload_n 2, 1) := by decide +kernel
theorem dX13_lawsFor_45 : decode cX13_lawsFor 45 = .ok (.if_icmp .ne 7, 3) := by decide +kernel
theorem dX13_lawsFor_48 : decode cX13_lawsFor 48 = .ok (.iconst 1, 1) := by decide +kernel
theorem dX13_lawsFor_49 : decode cX13_lawsFor 49 = .ok (.goto 4, 3) := by decide +kernel
theorem dX13_lawsFor_52 : decode cX13_lawsFor 52 = .ok (.iconst 0, 1) := by decide +kernel
theorem dX13_lawsFor_53 : decode cX13_lawsFor 53 = .ok (.iadd, 1) := by decide +kernel
theorem dX13_lawsFor_54 : decode cX13_lawsFor 54 = .ok (.istore_n 3, 1) := by decide +kernel
theorem dX13_lawsFor_55 : decode cX13_lawsFor 55 = .ok (.iinc 4 1, 3) := by decide +kernel
theorem dX13_lawsFor_58 : decode cX13_lawsFor 58 = .ok (.goto (-53), 3) := by decide +kernel
theorem dX13_lawsFor_61 : decode cX13_lawsFor 61 = .ok (.iload_n 3, 1) := by decide +kernel
theorem dX13_lawsFor_62 : decode cX13_lawsFor 62 = .ok (.ireturn, 1) := by decide +kernel
theorem dX13_laws_0 : decode cX13_laws 0 = .ok (.aload_n 0, 1) := by decide +kernel
theorem dX13_laws_1 : decode cX13_laws 1 = .ok (.iconst 0, 1) := by decide +kernel
theorem dX13_laws_2 : decode cX13_laws 2 = .ok (.putfield 48, 3) := by decide +kernel
theorem dX13_laws_5 : decode cX13_laws 5 = .ok (.aload_n 0, 1) := by decide +kernel
theorem dX13_laws_6 : decode cX13_laws 6 = .ok (.getfield 338, 3) := by decide +kernel
theorem dX13_laws_9 : decode cX13_laws 9 = .ok (.ifnonnull 11, 3) := by decide +kernel
theorem dX13_laws_12 : decode cX13_laws 12 = .ok (.aload_n 0, 1) := by decide +kernel
theorem dX13_laws_13 : decode cX13_laws 13 = .ok (.iconst 1, 1) := by decide +kernel
theorem dX13_laws_14 : decode cX13_laws 14 = .ok (.invokevirtual 54, 3) := by decide +kernel
theorem dX13_laws_17 : decode cX13_laws 17 = .ok (.goto 13, 3) := by decide +kernel
theorem dX13_laws_20 : decode cX13_laws 20 = .ok (.aload_n 0, 1) := by decide +kernel
theorem dX13_laws_21 : decode cX13_laws 21 = .ok (.aload_n 0, 1) := by decide +kernel
theorem dX13_laws_22 : decode cX13_laws 22 = .ok (.iconst 0, 1) := by decide +kernel
theorem dX13_laws_23 : decode cX13_laws 23 = .ok (.iconst (-1), 1) := by decide +kernel
theorem dX13_laws_24 : decode cX13_laws 24 = .ok (.invokevirtual 432, 3) := by decide +kernel
theorem dX13_laws_27 : decode cX13_laws 27 = .ok (.invokevirtual 58, 3) := by decide +kernel
theorem dX13_laws_30 : decode cX13_laws 30 = .ok (.ireturn, 1) := by decide +kernel
theorem dX13_lawSays_0 : decode cX13_lawSays 0 = .ok (.aload_n 0, 1) := by decide +kernel
theorem dX13_lawSays_1 : decode cX13_lawSays 1 = .ok (.iconst 0, 1) := by decide +kernel
theorem dX13_lawSays_2 : decode cX13_lawSays 2 = .ok (.putfield 48, 3) := by decide +kernel
theorem dX13_lawSays_5 : decode cX13_lawSays 5 = .ok (.aload_n 0, 1) := by decide +kernel
theorem dX13_lawSays_6 : decode cX13_lawSays 6 = .ok (.iload_n 1, 1) := by decide +kernel
theorem dX13_lawSays_7 : decode cX13_lawSays 7 = .ok (.invokevirtual 355, 3) := by decide +kernel
theorem dX13_lawSays_10 : decode cX13_lawSays 10 = .ok (.ifCond .ne 9, 3) := by decide +kernel
theorem dX13_lawSays_13 : decode cX13_lawSays 13 = .ok (.aload_n 0, 1) := by decide +kernel
theorem dX13_lawSays_14 : decode cX13_lawSays 14 = .ok (.iconst 1, 1) := by decide +kernel
theorem dX13_lawSays_15 : decode cX13_lawSays 15 = .ok (.invokevirtual 54, 3) := by decide +kernel
theorem dX13_lawSays_18 : decode cX13_lawSays 18 = .ok (.ireturn, 1) := by decide +kernel
theorem dX13_lawSays_19 : decode cX13_lawSays 19 = .ok (.iconst 0, 1) := by decide +kernel
theorem dX13_lawSays_20 : decode cX13_lawSays 20 = .ok (.istore_n 2, 1) := by decide +kernel
theorem dX13_lawSays_21 : decode cX13_lawSays 21 = .ok (.iconst 0, 1) := by decide +kernel
theorem dX13_lawSays_22 : decode cX13_lawSays 22 = .ok (.istore_n 3, 1) := by decide +kernel
theorem dX13_lawSays_23 : decode cX13_lawSays 23 = .ok (.iload_n 3, 1) := by decide +kernel
theorem dX13_lawSays_24 : decode cX13_lawSays 24 = .ok (.iconst 3, 1) := by decide +kernel
theorem dX13_lawSays_25 : decode cX13_lawSays 25 = .ok (.if_icmp .ge 28, 3) := by decide +kernel
theorem dX13_lawSays_28 : decode cX13_lawSays 28 = .ok (.iload_n 2, 1) := by decide +kernel
theorem dX13_lawSays_29 : decode cX13_lawSays 29 = .ok (.aload_n 0, 1) := by decide +kernel
theorem dX13_lawSays_30 : decode cX13_lawSays 30 = .ok (.iload_n 1, 1) := by decide +kernel
theorem dX13_lawSays_31 : decode cX13_lawSays 31 = .ok (.iload_n 3, 1) := by decide +kernel
theorem dX13_lawSays_32 : decode cX13_lawSays 32 = .ok (.invokevirtual 432, 3) := by decide +kernel
theorem dX13_lawSays_35 : decode cX13_lawSays 35 = .ok (.ifCond .le 9, 3) := by decide +kernel
theorem dX13_lawSays_38 : decode cX13_lawSays 38 = .ok (.iconst 1, 1) := by decide +kernel
theorem dX13_lawSays_39 : decode cX13_lawSays 39 = .ok (.iload_n 3, 1) := by decide +kernel
theorem dX13_lawSays_40 : decode cX13_lawSays 40 = .ok (.ishl, 1) := by decide +kernel
theorem dX13_lawSays_41 : decode cX13_lawSays 41 = .ok (.goto 4, 3) := by decide +kernel
theorem dX13_lawSays_44 : decode cX13_lawSays 44 = .ok (.iconst 0, 1) := by decide +kernel
theorem dX13_lawSays_45 : decode cX13_lawSays 45 = .ok (.ior, 1) := by decide +kernel
theorem dX13_lawSays_46 : decode cX13_lawSays 46 = .ok (.istore_n 2, 1) := by decide +kernel
theorem dX13_lawSays_47 : decode cX13_lawSays 47 = .ok (.iinc 3 1, 3) := by decide +kernel
theorem dX13_lawSays_50 : decode cX13_lawSays 50 = .ok (.goto (-27), 3) := by decide +kernel
theorem dX13_lawSays_53 : decode cX13_lawSays 53 = .ok (.aload_n 0, 1) := by decide +kernel
theorem dX13_lawSays_54 : decode cX13_lawSays 54 = .ok (.iload_n 2, 1) := by decide +kernel
theorem dX13_lawSays_55 : decode cX13_lawSays 55 = .ok (.invokevirtual 58, 3) := by decide +kernel
theorem dX13_lawSays_58 : decode cX13_lawSays 58 = .ok (.ireturn, 1) := by decide +kernel
theorem dX13_tries_0 : decode cX13_tries 0 = .ok (.bipush (-2), 2) := by decide +kernel
theorem dX13_tries_2 : decode cX13_tries 2 = .ok (.istore_n 1, 1) := by decide +kernel
theorem dX13_tries_3 : decode cX13_tries 3 = .ok (.aload_n 0, 1) := by decide +kernel
theorem dX13_tries_4 : decode cX13_tries 4 = .ok (.bipush (-2), 2) := by decide +kernel
theorem dX13_tries_6 : decode cX13_tries 6 = .ok (.putfield 435, 3) := by decide +kernel
theorem dX13_tries_9 : decode cX13_tries 9 = .ok (.iconst 0, 1) := by decide +kernel
theorem dX13_tries_10 : decode cX13_tries 10 = .ok (.istore_n 2, 1) := by decide +kernel
theorem dX13_tries_11 : decode cX13_tries 11 = .ok (.iload_n 2, 1) := by decide +kernel
theorem dX13_tries_12 : decode cX13_tries 12 = .ok (.aload_n 0, 1) := by decide +kernel
theorem dX13_tries_13 : decode cX13_tries 13 = .ok (.getfield 338, 3) := by decide +kernel
theorem dX13_tries_16 : decode cX13_tries 16 = .ok (.getfield 206, 3) := by decide +kernel
theorem dX13_tries_19 : decode cX13_tries 19 = .ok (.if_icmp .ge 73, 3) := by decide +kernel
theorem dX13_tries_22 : decode cX13_tries 22 = .ok (.iconst 0, 1) := by decide +kernel
theorem dX13_tries_23 : decode cX13_tries 23 = .ok (.istore_n 3, 1) := by decide +kernel
theorem dX13_tries_24 : decode cX13_tries 24 = .ok (.iconst 0, 1) := by decide +kernel
theorem dX13_tries_25 : decode cX13_tries 25 = .ok (.istore 4, 2) := by decide +kernel
theorem dX13_tries_27 : decode cX13_tries 27 = .ok (.iload 4, 2) := by decide +kernel
theorem dX13_tries_29 : decode cX13_tries 29 = .ok (.iconst 3, 1) := by decide +kernel
theorem dX13_tries_30 : decode cX13_tries 30 = .ok (.if_icmp .ge 28, 3) := by decide +kernel
theorem dX13_tries_33 : decode cX13_tries 33 = .ok (.aload_n 0, 1) := by decide +kernel
theorem dX13_tries_34 : decode cX13_tries 34 = .ok (.iload_n 2, 1) := by decide +kernel
theorem dX13_tries_35 : decode cX13_tries 35 = .ok (.iload 4, 2) := by decide +kernel
theorem dX13_tries_37 : decode cX13_tries 37 = .ok (.invokevirtual 432, 3) := by decide +kernel
theorem dX13_tries_40 : decode cX13_tries 40 = .ok (.iload_n 3, 1) := by decide +kernel
theorem dX13_tries_41 : decode cX13_tries 41 = .ok (.if_icmp .le 11, 3) := by decide +kernel
