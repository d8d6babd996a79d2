theorem dX13_tries_44 : decode cX13_tries 44 = .ok (.aload_n 0, 1) := by decide +kernel
theorem dX13_tries_45 : decode cX13_tries 45 = .ok (.iload_n 2, 1) := by decide +kernel
theorem dX13_tries_46 : decode cX13_tries 46 = .ok (.iload 4, 2) := by decide +kernel
theorem dX13_tries_48 : decode cX13_tries 48 = .ok (.invokevirtual 432, 3) := by decide +kernel
theorem dX13_tries_51 : decode cX13_tries 51 = .ok (.istore_n 3, 1) := by decide +kernel
theorem dX13_tries_52 : decode cX13_tries 52 = .ok (.iinc 4 1, 3) := by decide +kernel
theorem dX13_tries_55 : decode cX13_tries 55 = .ok (.goto (-28), 3) := by decide +kernel
theorem dX13_tries_58 : decode cX13_tries 58 = .ok (.iload_n 3, 1) := by decide +kernel
theorem dX13_tries_59 : decode cX13_tries 59 = .ok (.ifCond .eq 27, 3) := by decide +kernel
theorem dX13_tries_62 : decode cX13_tries 62 = .ok (.iload_n 1, 1) := by decide +kernel
theorem dX13_tries_63 : decode cX13_tries 63 = .ok (.bipush (-2), 2) := by decide +kernel
theorem dX13_tries_65 : decode cX13_tries 65 = .ok (.if_icmp .eq 14, 3) := by decide +kernel
theorem dX13_tries_68 : decode cX13_tries 68 = .ok (.iload_n 3, 1) := by decide +kernel
theorem dX13_tries_69 : decode cX13_tries 69 = .ok (.aload_n 0, 1) := by decide +kernel
theorem dX13_tries_70 : decode cX13_tries 70 = .ok (.getfield 435, 3) := by decide +kernel
theorem dX13_tries_73 : decode cX13_tries 73 = .ok (.if_icmp .lt 6, 3) := by decide +kernel
theorem dX13_tries_76 : decode cX13_tries 76 = .ok (.goto 10, 3) := by decide +kernel
theorem dX13_tries_79 : decode cX13_tries 79 = .ok (.iload_n 2, 1) := by decide +kernel
theorem dX13_tries_80 : decode cX13_tries 80 = .ok (.istore_n 1, 1) := by decide +kernel
theorem dX13_tries_81 : decode cX13_tries 81 = .ok (.aload_n 0, 1) := by decide +kernel
theorem dX13_tries_82 : decode cX13_tries 82 = .ok (.iload_n 3, 1) := by decide +kernel
theorem dX13_tries_83 : decode cX13_tries 83 = .ok (.putfield 435, 3) := by decide +kernel
theorem dX13_tries_86 : decode cX13_tries 86 = .ok (.iinc 2 1, 3) := by decide +kernel
theorem dX13_tries_89 : decode cX13_tries 89 = .ok (.goto (-78), 3) := by decide +kernel
theorem dX13_tries_92 : decode cX13_tries 92 = .ok (.iload_n 1, 1) := by decide +kernel
theorem dX13_tries_93 : decode cX13_tries 93 = .ok (.ireturn, 1) := by decide +kernel
theorem dX13_tryNext_0 : decode cX13_tryNext 0 = .ok (.aload_n 0, 1) := by decide +kernel
theorem dX13_tryNext_1 : decode cX13_tryNext 1 = .ok (.iconst 0, 1) := by decide +kernel
theorem dX13_tryNext_2 : decode cX13_tryNext 2 = .ok (.putfield 48, 3) := by decide +kernel
theorem dX13_tryNext_5 : decode cX13_tryNext 5 = .ok (.aload_n 0, 1) := by decide +kernel
theorem dX13_tryNext_6 : decode cX13_tryNext 6 = .ok (.getfield 338, 3) := by decide +kernel
theorem dX13_tryNext_9 : decode cX13_tryNext 9 = .ok (.ifnonnull 11, 3) := by decide +kernel
theorem dX13_tryNext_12 : decode cX13_tryNext 12 = .ok (.aload_n 0, 1) := by decide +kernel
theorem dX13_tryNext_13 : decode cX13_tryNext 13 = .ok (.iconst 1, 1) := by decide +kernel
theorem dX13_tryNext_14 : decode cX13_tryNext 14 = .ok (.invokevirtual 54, 3) := by decide +kernel
theorem dX13_tryNext_17 : decode cX13_tryNext 17 = .ok (.goto 11, 3) := by decide +kernel
theorem dX13_tryNext_20 : decode cX13_tryNext 20 = .ok (.aload_n 0, 1) := by decide +kernel
theorem dX13_tryNext_21 : decode cX13_tryNext 21 = .ok (.aload_n 0, 1) := by decide +kernel
theorem dX13_tryNext_22 : decode cX13_tryNext 22 = .ok (.invokevirtual 438, 3) := by decide +kernel
theorem dX13_tryNext_25 : decode cX13_tryNext 25 = .ok (.invokevirtual 58, 3) := by decide +kernel
theorem dX13_tryNext_28 : decode cX13_tryNext 28 = .ok (.ireturn, 1) := by decide +kernel
theorem dX13_tryLeaves_0 : decode cX13_tryLeaves 0 = .ok (.aload_n 0, 1) := by decide +kernel
theorem dX13_tryLeaves_1 : decode cX13_tryLeaves 1 = .ok (.iconst 0, 1) := by decide +kernel
theorem dX13_tryLeaves_2 : decode cX13_tryLeaves 2 = .ok (.putfield 48, 3) := by decide +kernel
theorem dX13_tryLeaves_5 : decode cX13_tryLeaves 5 = .ok (.aload_n 0, 1) := by decide +kernel
theorem dX13_tryLeaves_6 : decode cX13_tryLeaves 6 = .ok (.getfield 338, 3) := by decide +kernel
theorem dX13_tryLeaves_9 : decode cX13_tryLeaves 9 = .ok (.ifnonnull 9, 3) := by decide +kernel
theorem dX13_tryLeaves_12 : decode cX13_tryLeaves 12 = .ok (.aload_n 0, 1) := by decide +kernel
theorem dX13_tryLeaves_13 : decode cX13_tryLeaves 13 = .ok (.iconst 1, 1) := by decide +kernel
theorem dX13_tryLeaves_14 : decode cX13_tryLeaves 14 = .ok (.invokevirtual 54, 3) := by decide +kernel
theorem dX13_tryLeaves_17 : decode cX13_tryLeaves 17 = .ok (.ireturn, 1) := by decide +kernel
theorem dX13_tryLeaves_18 : decode cX13_tryLeaves 18 = .ok (.aload_n 0, 1) := by decide +kernel
theorem dX13_tryLeaves_19 : decode cX13_tryLeaves 19 = .ok (.invokevirtual 438, 3) := by decide +kernel
theorem dX13_tryLeaves_22 : decode cX13_tryLeaves 22 = .ok (.pop, 1) := by decide +kernel
theorem dX13_tryLeaves_23 : decode cX13_tryLeaves 23 = .ok (.aload_n 0, 1) := by decide +kernel
theorem dX13_tryLeaves_24 : decode cX13_tryLeaves 24 = .ok (.aload_n 0, 1) := by decide +kernel
theorem dX13_tryLeaves_25 : decode cX13_tryLeaves 25 = .ok (.getfield 435, 3) := by decide +kernel
theorem dX13_tryLeaves_28 : decode cX13_tryLeaves 28 = .ok (.invokevirtual 58, 3) := by decide +kernel
theorem dX13_tryLeaves_31 : decode cX13_tryLeaves 31 = .ok (.ireturn, 1) := by decide +kernel
theorem dX13_judges_0 : decode cX13_judges 0 = .ok (.aload_n 0, 1) := by decide +kernel
theorem dX13_judges_1 : decode cX13_judges 1 = .ok (.iconst 0, 1) := by decide +kernel
theorem dX13_judges_2 : decode cX13_judges 2 = .ok (.putfield 48, 3) := by decide +kernel
theorem dX13_judges_5 : decode cX13_judges 5 = .ok (.aload_n 0, 1) := by decide +kernel
theorem dX13_judges_6 : decode cX13_judges 6 = .ok (.iload_n 1, 1) := by decide +kernel
theorem dX13_judges_7 : decode cX13_judges 7 = .ok (.invokevirtual 358, 3) := by decide +kernel
theorem dX13_judges_10 : decode cX13_judges 10 = .ok (.ifCond .eq 16, 3) := by decide +kernel
theorem dX13_judges_13 : decode cX13_judges 13 = .ok (.aload_n 0, 1) := by decide +kernel
theorem dX13_judges_14 : decode cX13_judges 14 = .ok (.iload_n 2, 1) := by decide +kernel
theorem dX13_judges_15 : decode cX13_judges 15 = .ok (.invokevirtual 358, 3) := by decide +kernel
theorem dX13_judges_18 : decode cX13_judges 18 = .ok (.ifCond .eq 8, 3) := by decide +kernel
theorem dX13_judges_21 : decode cX13_judges 21 = .ok (.iload_n 1, 1) := by decide +kernel
theorem dX13_judges_22 : decode cX13_judges 22 = .ok (.iload_n 2, 1) := by decide +kernel
theorem dX13_judges_23 : decode cX13_judges 23 = .ok (.if_icmp .ne 9, 3) := by decide +kernel
theorem dX13_judges_26 : decode cX13_judges 26 = .ok (.aload_n 0, 1) := by decide +kernel
theorem dX13_judges_27 : decode cX13_judges 27 = .ok (.iconst 1, 1) := by decide +kernel
theorem dX13_judges_28 : decode cX13_judges 28 = .ok (.invokevirtual 54, 3) := by decide +kernel
theorem dX13_judges_31 : decode cX13_judges 31 = .ok (.ireturn, 1) := by decide +kernel
theorem dX13_judges_32 : decode cX13_judges 32 = .ok (.aload_n 0, 1) := by decide +kernel
theorem dX13_judges_33 : decode cX13_judges 33 = .ok (.aload_n 0, 1) := by decide +kernel
theorem dX13_judges_34 : decode cX13_judges 34 = .ok (.iload_n 1, 1) := by decide +kernel
theorem dX13_judges_35 : decode cX13_judges 35 = .ok (.aload_n 0, 1) := by decide +kernel
theorem dX13_judges_36 : decode cX13_judges 36 = .ok (.getfield 338, 3) := by decide +kernel
theorem dX13_judges_39 : decode cX13_judges 39 = .ok (.getfield 277, 3) := by decide +kernel
theorem dX13_judges_42 : decode cX13_judges 42 = .ok (.iload_n 2, 1) := by decide +kernel
theorem dX13_judges_43 : decode cX13_judges 43 = .ok (.iaload, 1) := by decide +kernel
theorem dX13_judges_44 : decode cX13_judges 44 = .ok (.invokevirtual 349, 3) := by decide +kernel
theorem dX13_judges_47 : decode cX13_judges 47 = .ok (.invokevirtual 58, 3) := by decide +kernel
theorem dX13_judges_50 : decode cX13_judges 50 = .ok (.ireturn, 1) := by decide +kernel
theorem dX13_month_0 : decode cX13_month 0 = .ok (.iconst 0, 1) := by decide +kernel
theorem dX13_month_1 : decode cX13_month 1 = .ok (.istore_n 2, 1) := by decide +kernel
theorem dX13_month_2 : decode cX13_month 2 = .ok (.iconst 0, 1) := by decide +kernel
theorem dX13_month_3 : decode cX13_month 3 = .ok (.istore_n 3, 1) := by decide +kernel
theorem dX13_month_4 : decode cX13_month 4 = .ok (.iload_n 3, 1) := by decide +kernel
theorem dX13_month_5 : decode cX13_month 5 = .ok (.aload_n 0, 1) := by decide +kernel
theorem dX13_month_6 : decode cX13_month 6 = .ok (.getfield 338, 3) := by decide +kernel
theorem dX13_month_9 : decode cX13_month 9 = .ok (.getfield 262, 3) := by decide +kernel
theorem dX13_month_12 : decode cX13_month 12 = .ok (.if_icmp .ge 117, 3) := by decide +kernel
theorem dX13_month_15 : decode cX13_month 15 = .ok (.iconst 0, 1) := by decide +kernel
theorem dX13_month_16 : decode cX13_month 16 = .ok (.istore 4, 2) := by decide +kernel
theorem dX13_month_18 : decode cX13_month 18 = .ok (.iconst 0, 1) := by decide +kernel
theorem dX13_month_19 : decode cX13_month 19 = .ok (.istore 5, 2) := by decide +kernel
theorem dX13_month_21 : decode cX13_month 21 = .ok (.iload 5, 2) := by decide +kernel
theorem dX13_month_23 : decode cX13_month 23 = .ok (.aload_n 0, 1) := by decide +kernel
theorem dX13_month_24 : decode cX13_month 24 = .ok (.getfield 338, 3) := by decide +kernel
theorem dX13_month_27 : decode cX13_month 27 = .ok (.getfield 262, 3) := by decide +kernel
theorem dX13_month_30 : decode cX13_month 30 = .ok (.if_icmp .ge 69, 3) := by decide +kernel
theorem dX13_month_33 : decode cX13_month 33 = .ok (.iload 5, 2) := by decide +kernel
theorem dX13_month_35 : decode cX13_month 35 = .ok (.iload_n 3, 1) := by decide +kernel
theorem dX13_month_36 : decode cX13_month 36 = .ok (.if_icmp .eq 57, 3) := by decide +kernel
theorem dX13_month_39 : decode cX13_month 39 = .ok (.iload_n 1, 1) := by decide +kernel
theorem dX13_month_40 : decode cX13_month 40 = .ok (.iload 5, 2) := by decide +kernel
theorem dX13_month_42 : decode cX13_month 42 = .ok (.invokestatic 199, 3) := by decide +kernel
theorem dX13_month_45 : decode cX13_month 45 = .ok (.ifCond .ne 6, 3) := by decide +kernel
theorem dX13_month_48 : decode cX13_month 48 = .ok (.goto 45, 3) := by decide +kernel
theorem dX13_month_51 : decode cX13_month 51 = .ok (.aload_n 0, 1) := by decide +kernel
theorem dX13_month_52 : decode cX13_month 52 = .ok (.iload 5, 2) := by decide +kernel
theorem dX13_month_54 : decode cX13_month 54 = .ok (.aload_n 0, 1) := by decide +kernel
theorem dX13_month_55 : decode cX13_month 55 = .ok (.getfield 338, 3) := by decide +kernel
theorem dX13_month_58 : decode cX13_month 58 = .ok (.getfield 277, 3) := by decide +kernel
theorem dX13_month_61 : decode cX13_month 61 = .ok (.iload_n 3, 1) := by decide +kernel
theorem dX13_month_62 : decode cX13_month 62 = .ok (.iaload, 1) := by decide +kernel
theorem dX13_month_63 : decode cX13_month 63 = .ok (.invokevirtual 349, 3) := by decide +kernel
theorem dX13_month_66 : decode cX13_month 66 = .ok (.istore 6, 2) := by decide +kernel
theorem dX13_month_68 : decode cX13_month 68 = .ok (.iload 4, 2) := by decide +kernel
theorem dX13_month_70 : decode cX13_month 70 = .ok (.iload 6, 2) := by decide +kernel
theorem dX13_month_72 : decode cX13_month 72 = .ok (.iconst 1, 1) := by decide +kernel
theorem dX13_month_73 : decode cX13_month 73 = .ok (.if_icmp .ne 7, 3) := by decide +kernel
theorem dX13_month_76 : decode cX13_month 76 = .ok (.iconst 1, 1) := by decide +kernel
theorem dX13_month_77 : decode cX13_month 77 = .ok (.goto 13, 3) := by decide +kernel
theorem dX13_month_80 : decode cX13_month 80 = .ok (.iload 6, 2) := by decide +kernel
theorem dX13_month_82 : decode cX13_month 82 = .ok (.ifCond .ne 7, 3) := by decide +kernel
theorem dX13_month_85 : decode cX13_month 85 = .ok (.iconst (-1), 1) := by decide +kernel
theorem dX13_month_86 : decode cX13_month 86 = .ok (.goto 4, 3) := by decide +kernel
theorem dX13_month_89 : decode cX13_month 89 = .ok (.iconst 0, 1) := by decide +kernel
theorem dX13_month_90 : decode cX13_month 90 = .ok (.iadd, 1) := by decide +kernel
theorem dX13_month_91 : decode cX13_month 91 = .ok (.istore 4, 2) := by decide +kernel
theorem dX13_month_93 : decode cX13_month 93 = .ok (.iinc 5 1, 3) := by decide +kernel
theorem dX13_month_96 : decode cX13_month 96 = .ok (.goto (-75), 3) := by decide +kernel
theorem dX13_month_99 : decode cX13_month 99 = .ok (.iload 4, 2) := by decide +kernel
theorem dX13_month_101 : decode cX13_month 101 = .ok (.ifCond .gt 16, 3) := by decide +kernel
theorem dX13_month_104 : decode cX13_month 104 = .ok (.iload 4, 2) := by decide +kernel
theorem dX13_month_106 : decode cX13_month 106 = .ok (.ifCond .ne 17, 3) := by decide +kernel
theorem dX13_month_109 : decode cX13_month 109 = .ok (.iload_n 1, 1) := by decide +kernel
theorem dX13_month_110 : decode cX13_month 110 = .ok (.iload_n 3, 1) := by decide +kernel
theorem dX13_month_111 : decode cX13_month 111 = .ok (.invokestatic 199, 3) := by decide +kernel
theorem dX13_month_114 : decode cX13_month 114 = .ok (.ifCond .eq 9, 3) := by decide +kernel
theorem dX13_month_117 : decode cX13_month 117 = .ok (.iload_n 2, 1) := by decide +kernel
theorem dX13_month_118 : decode cX13_month 118 = .ok (.iconst 1, 1) := by decide +kernel
theorem dX13_month_119 : decode cX13_month 119 = .ok (.iload_n 3, 1) := by decide +kernel
theorem dX13_month_120 : decode cX13_month 120 = .ok (.ishl, 1) := by decide +kernel
theorem dX13_month_121 : decode cX13_month 121 = .ok (.ior, 1) := by decide +kernel
theorem dX13_month_122 : decode cX13_month 122 = .ok (.istore_n 2, 1) := by decide +kernel
theorem dX13_month_123 : decode cX13_month 123 = .ok (.iinc 3 1, 3) := by decide +kernel
theorem dX13_month_126 : decode cX13_month 126 = .ok (.goto (-122), 3) := by decide +kernel
theorem dX13_month_129 : decode cX13_month 129 = .ok (.iload_n 2, 1) := by decide +kernel
theorem dX13_month_130 : decode cX13_month 130 = .ok (.ireturn, 1) := by decide +kernel
theorem dX13_allStamps_0 : decode cX13_allStamps 0 = .ok (.iconst 1, 1) := by decide +kernel
theorem dX13_allStamps_1 : decode cX13_allStamps 1 = .ok (.aload_n 0, 1) := by decide +kernel
theorem dX13_allStamps_2 : decode cX13_allStamps 2 = .ok (.getfield 338, 3) := by decide +kernel
theorem dX13_allStamps_5 : decode cX13_allStamps 5 = .ok (.getfield 262, 3) := by decide +kernel
theorem dX13_allStamps_8 : decode cX13_allStamps 8 = .ok (.ishl, 1) := by decide +kernel
theorem dX13_allStamps_9 : decode cX13_allStamps 9 = .ok (.iconst 1, 1) := by decide +kernel
theorem dX13_allStamps_10 : decode cX13_allStamps 10 = .ok (.isub, 1) := by decide +kernel
theorem dX13_allStamps_11 : decode cX13_allStamps 11 = .ok (.ireturn, 1) := by decide +kernel
theorem dX13_good_0 : decode cX13_good 0 = .ok (.aload_n 0, 1) := by decide +kernel
theorem dX13_good_1 : decode cX13_good 1 = .ok (.iconst 0, 1) := by decide +kernel
theorem dX13_good_2 : decode cX13_good 2 = .ok (.putfield 48, 3) := by decide +kernel
theorem dX13_good_5 : decode cX13_good 5 = .ok (.aload_n 0, 1) := by decide +kernel
theorem dX13_good_6 : decode cX13_good 6 = .ok (.getfield 338, 3) := by decide +kernel
theorem dX13_good_9 : decode cX13_good 9 = .ok (.ifnonnull 9, 3) := by decide +kernel
theorem dX13_good_12 : decode cX13_good 12 = .ok (.aload_n 0, 1) := by decide +kernel
theorem dX13_good_13 : decode cX13_good 13 = .ok (.iconst 1, 1) := by decide +kernel
theorem dX13_good_14 : decode cX13_good 14 = .ok (.invokevirtual 54, 3) := by decide +kernel
theorem dX13_good_17 : decode cX13_good 17 = .ok (.ireturn, 1) := by decide +kernel
theorem dX13_good_18 : decode cX13_good 18 = .ok (.iload_n 1, 1) := by decide +kernel
theorem dX13_good_19 : decode cX13_good 19 = .ok (.iconst 0, 1) := by decide +kernel
theorem dX13_good_20 : decode cX13_good 20 = .ok (.bipush 20, 2) := by decide +kernel
theorem dX13_good_22 : decode cX13_good 22 = .ok (.invokestatic 127, 3) := by decide +kernel
theorem dX13_good_25 : decode cX13_good 25 = .ok (.ifCond .ne 9, 3) := by decide +kernel
theorem dX13_good_28 : decode cX13_good 28 = .ok (.aload_n 0, 1) := by decide +kernel
theorem dX13_good_29 : decode cX13_good 29 = .ok (.iconst 2, 1) := by decide +kernel
theorem dX13_good_30 : decode cX13_good 30 = .ok (.invokevirtual 54, 3) := by decide +kernel
theorem dX13_good_33 : decode cX13_good 33 = .ok (.ireturn, 1) := by decide +kernel
theorem dX13_good_34 : decode cX13_good 34 = .ok (.aload_n 0, 1) := by decide +kernel
theorem dX13_good_35 : decode cX13_good 35 = .ok (.invokevirtual 441, 3) := by decide +kernel
theorem dX13_good_38 : decode cX13_good 38 = .ok (.istore_n 2, 1) := by decide +kernel
theorem dX13_good_39 : decode cX13_good 39 = .ok (.iconst 0, 1) := by decide +kernel
theorem dX13_good_40 : decode cX13_good 40 = .ok (.istore_n 3, 1) := by decide +kernel
theorem dX13_good_41 : decode cX13_good 41 = .ok (.iload_n 3, 1) := by decide +kernel
theorem dX13_good_42 : decode cX13_good 42 = .ok (.iload_n 1, 1) := by decide +kernel
theorem dX13_good_43 : decode cX13_good 43 = .ok (.if_icmp .ge 15, 3) := by decide +kernel
theorem dX13_good_46 : decode cX13_good 46 = .ok (.aload_n 0, 1) := by decide +kernel
theorem dX13_good_47 : decode cX13_good 47 = .ok (.iload_n 2, 1) := by decide +kernel
theorem dX13_good_48 : decode cX13_good 48 = .ok (.invokevirtual 444, 3) := by decide +kernel
theorem dX13_good_51 : decode cX13_good 51 = .ok (.istore_n 2, 1) := by decide +kernel
theorem dX13_good_52 : decode cX13_good 52 = .ok (.iinc 3 1, 3) := by decide +kernel
theorem dX13_good_55 : decode cX13_good 55 = .ok (.goto (-14), 3) := by decide +kernel
theorem dX13_good_58 : decode cX13_good 58 = .ok (.aload_n 0, 1) := by decide +kernel
theorem dX13_good_59 : decode cX13_good 59 = .ok (.iload_n 2, 1) := by decide +kernel
theorem dX13_good_60 : decode cX13_good 60 = .ok (.invokevirtual 58, 3) := by decide +kernel
theorem dX13_good_63 : decode cX13_good 63 = .ok (.ireturn, 1) := by decide +kernel
theorem dX13_settled_0 : decode cX13_settled 0 = .ok (.aload_n 0, 1) := by decide +kernel
theorem dX13_settled_1 : decode cX13_settled 1 = .ok (.iconst 0, 1) := by decide +kernel
theorem dX13_settled_2 : decode cX13_settled 2 = .ok (.putfield 48, 3) := by decide +kernel
theorem dX13_settled_5 : decode cX13_settled 5 = .ok (.aload_n 0, 1) := by decide +kernel
theorem dX13_settled_6 : decode cX13_settled 6 = .ok (.getfield 338, 3) := by decide +kernel
theorem dX13_settled_9 : decode cX13_settled 9 = .ok (.ifnonnull 9, 3) := by decide +kernel
theorem dX13_settled_12 : decode cX13_settled 12 = .ok (.aload_n 0, 1) := by decide +kernel
theorem dX13_settled_13 : decode cX13_settled 13 = .ok (.iconst 1, 1) := by decide +kernel
theorem dX13_settled_14 : decode cX13_settled 14 = .ok (.invokevirtual 54, 3) := by decide +kernel
theorem dX13_settled_17 : decode cX13_settled 17 = .ok (.ireturn, 1) := by decide +kernel
theorem dX13_settled_18 : decode cX13_settled 18 = .ok (.aload_n 0, 1) := by decide +kernel
theorem dX13_settled_19 : decode cX13_settled 19 = .ok (.invokevirtual 441, 3) := by decide +kernel
theorem dX13_settled_22 : decode cX13_settled 22 = .ok (.istore_n 1, 1) := by decide +kernel
theorem dX13_settled_23 : decode cX13_settled 23 = .ok (.iconst 0, 1) := by decide +kernel
theorem dX13_settled_24 : decode cX13_settled 24 = .ok (.istore_n 2, 1) := by decide +kernel
theorem dX13_settled_25 : decode cX13_settled 25 = .ok (.iload_n 2, 1) := by decide +kernel
theorem dX13_settled_26 : decode cX13_settled 26 = .ok (.bipush 20, 2) := by decide +kernel
theorem dX13_settled_28 : decode cX13_settled 28 = .ok (.if_icmp .gt 30, 3) := by decide +kernel
theorem dX13_settled_31 : decode cX13_settled 31 = .ok (.aload_n 0, 1) := by decide +kernel
theorem dX13_settled_32 : decode cX13_settled 32 = .ok (.iload_n 1, 1) := by decide +kernel
theorem dX13_settled_33 : decode cX13_settled 33 = .ok (.invokevirtual 444, 3) := by decide +kernel
theorem dX13_settled_36 : decode cX13_settled 36 = .ok (.iload_n 1, 1) := by decide +kernel
theorem dX13_settled_37 : decode cX13_settled 37 = .ok (.if_icmp .ne 9, 3) := by decide +kernel
theorem dX13_settled_40 : decode cX13_settled 40 = .ok (.aload_n 0, 1) := by decide +kernel
theorem dX13_settled_41 : decode cX13_settled 41 = .ok (.iload_n 2, 1) := by decide +kernel
theorem dX13_settled_42 : decode cX13_settled 42 = .ok (.invokevirtual 58, 3) := by decide +kernel
theorem dX13_settled_45 : decode cX13_settled 45 = .ok (.ireturn, 1) := by decide +kernel
theorem dX13_settled_46 : decode cX13_settled 46 = .ok (.aload_n 0, 1) := by decide +kernel
theorem dX13_settled_47 : decode cX13_settled 47 = .ok (.iload_n 1, 1) := by decide +kernel
theorem dX13_settled_48 : decode cX13_settled 48 = .ok (.invokevirtual 444, 3) := by decide +kernel
theorem dX13_settled_51 : decode cX13_settled 51 = .ok (.istore_n 1, 1) := by decide +kernel
theorem dX13_settled_52 : decode cX13_settled 52 = .ok (.iinc 2 1, 3) := by decide +kernel
theorem dX13_settled_55 : decode cX13_settled 55 = .ok (.goto (-30), 3) := by decide +kernel
theorem dX13_settled_58 : decode cX13_settled 58 = .ok (.aload_n 0, 1) := by decide +kernel
theorem dX13_settled_59 : decode cX13_settled 59 = .ok (.bipush (-2), 2) := by decide +kernel
theorem dX13_settled_61 : decode cX13_settled 61 = .ok (.invokevirtual 58, 3) := by decide +kernel
theorem dX13_settled_64 : decode cX13_settled 64 = .ok (.ireturn, 1) := by decide +kernel
theorem dX13_steady_0 : decode cX13_steady 0 = .ok (.aload_n 0, 1) := by decide +kernel
theorem dX13_steady_1 : decode cX13_steady 1 = .ok (.iconst 0, 1) := by decide +kernel
theorem dX13_steady_2 : decode cX13_steady 2 = .ok (.putfield 48, 3) := by decide +kernel
theorem dX13_steady_5 : decode cX13_steady 5 = .ok (.aload_n 0, 1) := by decide +kernel
theorem dX13_steady_6 : decode cX13_steady 6 = .ok (.getfield 338, 3) := by decide +kernel
theorem dX13_steady_9 : decode cX13_steady 9 = .ok (.ifnonnull 9, 3) := by decide +kernel
theorem dX13_steady_12 : decode cX13_steady 12 = .ok (.aload_n 0, 1) := by decide +kernel
theorem dX13_steady_13 : decode cX13_steady 13 = .ok (.iconst 1, 1) := by decide +kernel
theorem dX13_steady_14 : decode cX13_steady 14 = .ok (.invokevirtual 54, 3) := by decide +kernel
theorem dX13_steady_17 : decode cX13_steady 17 = .ok (.ireturn, 1) := by decide +kernel
theorem dX13_steady_18 : decode cX13_steady 18 = .ok (.iconst 0, 1) := by decide +kernel
theorem dX13_steady_19 : decode cX13_steady 19 = .ok (.istore_n 1, 1) := by decide +kernel
theorem dX13_steady_20 : decode cX13_steady 20 = .ok (.iconst 0, 1) := by decide +kernel
theorem dX13_steady_21 : decode cX13_steady 21 = .ok (.istore_n 2, 1) := by decide +kernel
theorem dX13_steady_22 : decode cX13_steady 22 = .ok (.iload_n 2, 1) := by decide +kernel
theorem dX13_steady_23 : decode cX13_steady 23 = .ok (.aload_n 0, 1) := by decide +kernel
theorem dX13_steady_24 : decode cX13_steady 24 = .ok (.invokevirtual 441, 3) := by decide +kernel
theorem dX13_steady_27 : decode cX13_steady 27 = .ok (.if_icmp .gt 26, 3) := by decide +kernel
theorem dX13_steady_30 : decode cX13_steady 30 = .ok (.iload_n 1, 1) := by decide +kernel
theorem dX13_steady_31 : decode cX13_steady 31 = .ok (.aload_n 0, 1) := by decide +kernel
theorem dX13_steady_32 : decode cX13_steady 32 = .ok (.iload_n 2, 1) := by decide +kernel
theorem dX13_steady_33 : decode cX13_steady 33 = .ok (.invokevirtual 444, 3) := by decide +kernel
theorem dX13_steady_36 : decode cX13_steady 36 = .ok (.iload_n 2, 1) := by decide +kernel
theorem dX13_steady_37 : decode cX13_steady 37 = .ok (.if_icmp .ne 7, 3) := by decide +kernel
theorem dX13_steady_40 : decode cX13_steady 40 = .ok (.iconst 1, 1) := by decide +kernel
theorem dX13_steady_41 : decode cX13_steady 41 = .ok (.goto 4, 3) := by decide +kernel
theorem dX13_steady_44 : decode cX13_steady 44 = .ok (.iconst 0, 1) := by decide +kernel
theorem dX13_steady_45 : decode cX13_steady 45 = .ok (.iadd, 1) := by decide +kernel
theorem dX13_steady_46 : decode cX13_steady 46 = .ok (.istore_n 1, 1) := by decide +kernel
theorem dX13_steady_47 : decode cX13_steady 47 = .ok (.iinc 2 1, 3) := by decide +kernel
theorem dX13_steady_50 : decode cX13_steady 50 = .ok (.goto (-28), 3) := by decide +kernel
theorem dX13_steady_53 : decode cX13_steady 53 = .ok (.aload_n 0, 1) := by decide +kernel
theorem dX13_steady_54 : decode cX13_steady 54 = .ok (.iload_n 1, 1) := by decide +kernel
theorem dX13_steady_55 : decode cX13_steady 55 = .ok (.invokevirtual 58, 3) := by decide +kernel
theorem dX13_steady_58 : decode cX13_steady 58 = .ok (.ireturn, 1) := by decide +kernel
theorem dX13_hasBy_0 : decode cX13_hasBy 0 = .ok (.aload_n 0, 1) := by decide +kernel
theorem dX13_hasBy_1 : decode cX13_hasBy 1 = .ok (.iload_n 1, 1) := by decide +kernel
theorem dX13_hasBy_2 : decode cX13_hasBy 2 = .ok (.iload_n 2, 1) := by decide +kernel
theorem dX13_hasBy_3 : decode cX13_hasBy 3 = .ok (.invokevirtual 367, 3) := by decide +kernel
theorem dX13_hasBy_6 : decode cX13_hasBy 6 = .ok (.istore_n 3, 1) := by decide +kernel
theorem dX13_hasBy_7 : decode cX13_hasBy 7 = .ok (.iload_n 3, 1) := by decide +kernel
theorem dX13_hasBy_8 : decode cX13_hasBy 8 = .ok (.iconst 1, 1) := by decide +kernel
theorem dX13_hasBy_9 : decode cX13_hasBy 9 = .ok (.if_icmp .ne 15, 3) := by decide +kernel
theorem dX13_hasBy_12 : decode cX13_hasBy 12 = .ok (.aload_n 0, 1) := by decide +kernel
theorem dX13_hasBy_13 : decode cX13_hasBy 13 = .ok (.getfield 338, 3) := by decide +kernel
theorem dX13_hasBy_16 : decode cX13_hasBy 16 = .ok (.getfield 257, 3) := by decide +kernel
theorem dX13_hasBy_19 : decode cX13_hasBy 19 = .ok (.iload_n 2, 1) := by decide +kernel
theorem dX13_hasBy_20 : decode cX13_hasBy 20 = .ok (.iaload, 1) := by decide +kernel
theorem dX13_hasBy_21 : decode cX13_hasBy 21 = .ok (.goto 23, 3) := by decide +kernel
theorem dX13_hasBy_24 : decode cX13_hasBy 24 = .ok (.iload_n 3, 1) := by decide +kernel
theorem dX13_hasBy_25 : decode cX13_hasBy 25 = .ok (.iconst 2, 1) := by decide +kernel
theorem dX13_hasBy_26 : decode cX13_hasBy 26 = .ok (.if_icmp .ne 17, 3) := by decide +kernel
theorem dX13_hasBy_29 : decode cX13_hasBy 29 = .ok (.aload_n 0, 1) := by decide +kernel
theorem dX13_hasBy_30 : decode cX13_hasBy 30 = .ok (.getfield 338, 3) := by decide +kernel
theorem dX13_hasBy_33 : decode cX13_hasBy 33 = .ok (.getfield 257, 3) := by decide +kernel
theorem dX13_hasBy_36 : decode cX13_hasBy 36 = .ok (.iload_n 2, 1) := by decide +kernel
theorem dX13_hasBy_37 : decode cX13_hasBy 37 = .ok (.iaload, 1) := by decide +kernel
theorem dX13_hasBy_38 : decode cX13_hasBy 38 = .ok (.iconst 2, 1) := by decide +kernel
theorem dX13_hasBy_39 : decode cX13_hasBy 39 = .ok (.idiv, 1) := by decide +kernel
theorem dX13_hasBy_40 : decode cX13_hasBy 40 = .ok (.goto 4, 3) := by decide +kernel
theorem dX13_hasBy_43 : decode cX13_hasBy 43 = .ok (.iconst 0, 1) := by decide +kernel
theorem dX13_hasBy_44 : decode cX13_hasBy 44 = .ok (.ireturn, 1) := by decide +kernel
theorem dX13_has_0 : decode cX13_has 0 = .ok (.aload_n 0, 1) := by decide +kernel
theorem dX13_has_1 : decode cX13_has 1 = .ok (.iconst 0, 1) := by decide +kernel
theorem dX13_has_2 : decode cX13_has 2 = .ok (.putfield 48, 3) := by decide +kernel
theorem dX13_has_5 : decode cX13_has 5 = .ok (.aload_n 0, 1) := by decide +kernel
theorem dX13_has_6 : decode cX13_has 6 = .ok (.iload_n 1, 1) := by decide +kernel
theorem dX13_has_7 : decode cX13_has 7 = .ok (.invokevirtual 358, 3) := by decide +kernel
theorem dX13_has_10 : decode cX13_has 10 = .ok (.ifCond .eq 24, 3) := by decide +kernel
theorem dX13_has_13 : decode cX13_has 13 = .ok (.aload_n 0, 1) := by decide +kernel
theorem dX13_has_14 : decode cX13_has 14 = .ok (.iload_n 2, 1) := by decide +kernel
theorem dX13_has_15 : decode cX13_has 15 = .ok (.invokevirtual 355, 3) := by decide +kernel
theorem dX13_has_18 : decode cX13_has 18 = .ok (.ifCond .eq 16, 3) := by decide +kernel
theorem dX13_has_21 : decode cX13_has 21 = .ok (.aload_n 0, 1) := by decide +kernel
theorem dX13_has_22 : decode cX13_has 22 = .ok (.aload_n 0, 1) := by decide +kernel
theorem dX13_has_23 : decode cX13_has 23 = .ok (.iload_n 1, 1) := by decide +kernel
theorem dX13_has_24 : decode cX13_has 24 = .ok (.iload_n 2, 1) := by decide +kernel
theorem dX13_has_25 : decode cX13_has 25 = .ok (.invokevirtual 447, 3) := by decide +kernel
theorem dX13_has_28 : decode cX13_has 28 = .ok (.invokevirtual 58, 3) := by decide +kernel
theorem dX13_has_31 : decode cX13_has 31 = .ok (.goto 8, 3) := by decide +kernel
theorem dX13_has_34 : decode cX13_has 34 = .ok (.aload_n 0, 1) := by decide +kernel
theorem dX13_has_35 : decode cX13_has 35 = .ok (.iconst 1, 1) := by decide +kernel
theorem dX13_has_36 : decode cX13_has 36 = .ok (.invokevirtual 54, 3) := by decide +kernel
theorem dX13_has_39 : decode cX13_has 39 = .ok (.ireturn, 1) := by decide +kernel
theorem dX13_givesMost_0 : decode cX13_givesMost 0 = .ok (.iconst 0, 1) := by decide +kernel
theorem dX13_givesMost_1 : decode cX13_givesMost 1 = .ok (.istore_n 2, 1) := by decide +kernel
theorem dX13_givesMost_2 : decode cX13_givesMost 2 = .ok (.iconst 0, 1) := by decide +kernel
theorem dX13_givesMost_3 : decode cX13_givesMost 3 = .ok (.istore_n 3, 1) := by decide +kernel
theorem dX13_givesMost_4 : decode cX13_givesMost 4 = .ok (.iload_n 3, 1) := by decide +kernel
theorem dX13_givesMost_5 : decode cX13_givesMost 5 = .ok (.aload_n 0, 1) := by decide +kernel
theorem dX13_givesMost_6 : decode cX13_givesMost 6 = .ok (.getfield 338, 3) := by decide +kernel
theorem dX13_givesMost_9 : decode cX13_givesMost 9 = .ok (.getfield 206, 3) := by decide +kernel
theorem dX13_givesMost_12 : decode cX13_givesMost 12 = .ok (.if_icmp .ge 26, 3) := by decide +kernel
theorem dX13_givesMost_15 : decode cX13_givesMost 15 = .ok (.aload_n 0, 1) := by decide +kernel
theorem dX13_givesMost_16 : decode cX13_givesMost 16 = .ok (.iload_n 1, 1) := by decide +kernel
theorem dX13_givesMost_17 : decode cX13_givesMost 17 = .ok (.iload_n 3, 1) := by decide +kernel
theorem dX13_givesMost_18 : decode cX13_givesMost 18 = .ok (.invokevirtual 447, 3) := by decide +kernel
theorem dX13_givesMost_21 : decode cX13_givesMost 21 = .ok (.iload_n 2, 1) := by decide +kernel
theorem dX13_givesMost_22 : decode cX13_givesMost 22 = .ok (.if_icmp .le 10, 3) := by decide +kernel
theorem dX13_givesMost_25 : decode cX13_givesMost 25 = .ok (.aload_n 0, 1) := by decide +kernel
theorem dX13_givesMost_26 : decode cX13_givesMost 26 = .ok (.iload_n 1, 1) := by decide +kernel
theorem dX13_givesMost_27 : decode cX13_givesMost 27 = .ok (.iload_n 3, 1) := by decide +kernel
theorem dX13_givesMost_28 : decode cX13_givesMost 28 = .ok (.invokevirtual 447, 3) := by decide +kernel
theorem dX13_givesMost_31 : decode cX13_givesMost 31 = .ok (.istore_n 2, 1) := by decide +kernel
theorem dX13_givesMost_32 : decode cX13_givesMost 32 = .ok (.iinc 3 1, 3) := by decide +kernel
theorem dX13_givesMost_35 : decode cX13_givesMost 35 = .ok (.goto (-31), 3) := by decide +kernel
theorem dX13_givesMost_38 : decode cX13_givesMost 38 = .ok (.iload_n 2, 1) := by decide +kernel
theorem dX13_givesMost_39 : decode cX13_givesMost 39 = .ok (.ireturn, 1) := by decide +kernel
theorem dX13_hasLeast_0 : decode cX13_hasLeast 0 = .ok (.aload_n 0, 1) := by decide +kernel
theorem dX13_hasLeast_1 : decode cX13_hasLeast 1 = .ok (.iconst 0, 1) := by decide +kernel
theorem dX13_hasLeast_2 : decode cX13_hasLeast 2 = .ok (.iload_n 1, 1) := by decide +kernel
theorem dX13_hasLeast_3 : decode cX13_hasLeast 3 = .ok (.invokevirtual 447, 3) := by decide +kernel
theorem dX13_hasLeast_6 : decode cX13_hasLeast 6 = .ok (.istore_n 2, 1) := by decide +kernel
theorem dX13_hasLeast_7 : decode cX13_hasLeast 7 = .ok (.iconst 1, 1) := by decide +kernel
theorem dX13_hasLeast_8 : decode cX13_hasLeast 8 = .ok (.istore_n 3, 1) := by decide +kernel
theorem dX13_hasLeast_9 : decode cX13_hasLeast 9 = .ok (.iload_n 3, 1) := by decide +kernel
theorem dX13_hasLeast_10 : decode cX13_hasLeast 10 = .ok (.aload_n 0, 1) := by decide +kernel
theorem dX13_hasLeast_11 : decode cX13_hasLeast 11 = .ok (.getfield 338, 3) := by decide +kernel
theorem dX13_hasLeast_14 : decode cX13_hasLeast 14 = .ok (.getfield 262, 3) := by decide +kernel
theorem dX13_hasLeast_17 : decode cX13_hasLeast 17 = .ok (.if_icmp .ge 26, 3) := by decide +kernel
theorem dX13_hasLeast_20 : decode cX13_hasLeast 20 = .ok (.aload_n 0, 1) := by decide +kernel
theorem dX13_hasLeast_21 : decode cX13_hasLeast 21 = .ok (.iload_n 3, 1) := by decide +kernel
theorem dX13_hasLeast_22 : decode cX13_hasLeast 22 = .ok (.iload_n 1, 1) := by decide +kernel
theorem dX13_hasLeast_23 : decode cX13_hasLeast 23 = .ok (.invokevirtual 447, 3) := by decide +kernel
theorem dX13_hasLeast_26 : decode cX13_hasLeast 26 = .ok (.iload_n 2, 1) := by decide +kernel
theorem dX13_hasLeast_27 : decode cX13_hasLeast 27 = .ok (.if_icmp .ge 10, 3) := by decide +kernel
theorem dX13_hasLeast_30 : decode cX13_hasLeast 30 = .ok (.aload_n 0, 1) := by decide +kernel
theorem dX13_hasLeast_31 : decode cX13_hasLeast 31 = .ok (.iload_n 3, 1) := by decide +kernel
theorem dX13_hasLeast_32 : decode cX13_hasLeast 32 = .ok (.iload_n 1, 1) := by decide +kernel
theorem dX13_hasLeast_33 : decode cX13_hasLeast 33 = .ok (.invokevirtual 447, 3) := by decide +kernel
theorem dX13_hasLeast_36 : decode cX13_hasLeast 36 = .ok (.istore_n 2, 1) := by decide +kernel
theorem dX13_hasLeast_37 : decode cX13_hasLeast 37 = .ok (.iinc 3 1, 3) := by decide +kernel
theorem dX13_hasLeast_40 : decode cX13_hasLeast 40 = .ok (.goto (-31), 3) := by decide +kernel
theorem dX13_hasLeast_43 : decode cX13_hasLeast 43 = .ok (.iload_n 2, 1) := by decide +kernel
theorem dX13_hasLeast_44 : decode cX13_hasLeast 44 = .ok (.ireturn, 1) := by decide +kernel
theorem dX13_refusesGame_0 : decode cX13_refusesGame 0 = .ok (.aload_n 0, 1) := by decide +kernel
theorem dX13_refusesGame_1 : decode cX13_refusesGame 1 = .ok (.getfield 338, 3) := by decide +kernel
theorem dX13_refusesGame_4 : decode cX13_refusesGame 4 = .ok (.ifnonnull 7, 3) := by decide +kernel
theorem dX13_refusesGame_7 : decode cX13_refusesGame 7 = .ok (.iconst 1, 1) := by decide +kernel
theorem dX13_refusesGame_8 : decode cX13_refusesGame 8 = .ok (.goto 19, 3) := by decide +kernel
theorem dX13_refusesGame_11 : decode cX13_refusesGame 11 = .ok (.aload_n 0, 1) := by decide +kernel
theorem dX13_refusesGame_12 : decode cX13_refusesGame 12 = .ok (.getfield 338, 3) := by decide +kernel
theorem dX13_refusesGame_15 : decode cX13_refusesGame 15 = .ok (.getfield 262, 3) := by decide +kernel
theorem dX13_refusesGame_18 : decode cX13_refusesGame 18 = .ok (.ifCond .ne 8, 3) := by decide +kernel
theorem dX13_refusesGame_21 : decode cX13_refusesGame 21 = .ok (.bipush 6, 2) := by decide +kernel
theorem dX13_refusesGame_23 : decode cX13_refusesGame 23 = .ok (.goto 4, 3) := by decide +kernel
theorem dX13_refusesGame_26 : decode cX13_refusesGame 26 = .ok (.iconst 0, 1) := by decide +kernel
theorem dX13_refusesGame_27 : decode cX13_refusesGame 27 = .ok (.ireturn, 1) := by decide +kernel
theorem dX13_pick_0 : decode cX13_pick 0 = .ok (.iconst 0, 1) := by decide +kernel
theorem dX13_pick_1 : decode cX13_pick 1 = .ok (.istore_n 1, 1) := by decide +kernel
theorem dX13_pick_2 : decode cX13_pick 2 = .ok (.iconst 1, 1) := by decide +kernel
theorem dX13_pick_3 : decode cX13_pick 3 = .ok (.istore_n 2, 1) := by decide +kernel
theorem dX13_pick_4 : decode cX13_pick 4 = .ok (.iload_n 2, 1) := by decide +kernel
theorem dX13_pick_5 : decode cX13_pick 5 = .ok (.aload_n 0, 1) := by decide +kernel
theorem dX13_pick_6 : decode cX13_pick 6 = .ok (.getfield 338, 3) := by decide +kernel
theorem dX13_pick_9 : decode cX13_pick 9 = .ok (.getfield 262, 3) := by decide +kernel
theorem dX13_pick_12 : decode cX13_pick 12 = .ok (.if_icmp .ge 24, 3) := by decide +kernel
theorem dX13_pick_15 : decode cX13_pick 15 = .ok (.aload_n 0, 1) := by decide +kernel
theorem dX13_pick_16 : decode cX13_pick 16 = .ok (.iload_n 2, 1) := by decide +kernel
theorem dX13_pick_17 : decode cX13_pick 17 = .ok (.invokevirtual 450, 3) := by decide +kernel
theorem dX13_pick_20 : decode cX13_pick 20 = .ok (.aload_n 0, 1) := by decide +kernel
theorem dX13_pick_21 : decode cX13_pick 21 = .ok (.iload_n 1, 1) := by decide +kernel
theorem dX13_pick_22 : decode cX13_pick 22 = .ok (.invokevirtual 450, 3) := by decide +kernel
theorem dX13_pick_25 : decode cX13_pick 25 = .ok (.if_icmp .ge 5, 3) := by decide +kernel
theorem dX13_pick_28 : decode cX13_pick 28 = .ok (.iload_n 2, 1) := by decide +kernel
theorem dX13_pick_29 : decode cX13_pick 29 = .ok (.istore_n 1, 1) := by decide +kernel
theorem dX13_pick_30 : decode cX13_pick 30 = .ok (.iinc 2 1, 3) := by decide +kernel
theorem dX13_pick_33 : decode cX13_pick 33 = .ok (.goto (-29), 3) := by decide +kernel
theorem dX13_pick_36 : decode cX13_pick 36 = .ok (.iload_n 1, 1) := by decide +kernel
theorem dX13_pick_37 : decode cX13_pick 37 = .ok (.ireturn, 1) := by decide +kernel
theorem dX13_clerks_0 : decode cX13_clerks 0 = .ok (.aload_n 0, 1) := by decide +kernel
theorem dX13_clerks_1 : decode cX13_clerks 1 = .ok (.iconst 0, 1) := by decide +kernel
theorem dX13_clerks_2 : decode cX13_clerks 2 = .ok (.putfield 48, 3) := by decide +kernel
theorem dX13_clerks_5 : decode cX13_clerks 5 = .ok (.aload_n 0, 1) := by decide +kernel
theorem dX13_clerks_6 : decode cX13_clerks 6 = .ok (.invokevirtual 453, 3) := by decide +kernel
theorem dX13_clerks_9 : decode cX13_clerks 9 = .ok (.istore_n 1, 1) := by decide +kernel
theorem dX13_clerks_10 : decode cX13_clerks 10 = .ok (.iload_n 1, 1) := by decide +kernel
theorem dX13_clerks_11 : decode cX13_clerks 11 = .ok (.ifCond .le 11, 3) := by decide +kernel
theorem dX13_clerks_14 : decode cX13_clerks 14 = .ok (.aload_n 0, 1) := by decide +kernel
theorem dX13_clerks_15 : decode cX13_clerks 15 = .ok (.iload_n 1, 1) := by decide +kernel
theorem dX13_clerks_16 : decode cX13_clerks 16 = .ok (.invokevirtual 54, 3) := by decide +kernel
theorem dX13_clerks_19 : decode cX13_clerks 19 = .ok (.goto 15, 3) := by decide +kernel
theorem dX13_clerks_22 : decode cX13_clerks 22 = .ok (.aload_n 0, 1) := by decide +kernel
theorem dX13_clerks_23 : decode cX13_clerks 23 = .ok (.aload_n 0, 1) := by decide +kernel
theorem dX13_clerks_24 : decode cX13_clerks 24 = .ok (.aload_n 0, 1) := by decide +kernel
theorem dX13_clerks_25 : decode cX13_clerks 25 = .ok (.invokevirtual 456, 3) := by decide +kernel
theorem dX13_clerks_28 : decode cX13_clerks 28 = .ok (.invokevirtual 450, 3) := by decide +kernel
theorem dX13_clerks_31 : decode cX13_clerks 31 = .ok (.invokevirtual 58, 3) := by decide +kernel
theorem dX13_clerks_34 : decode cX13_clerks 34 = .ok (.ireturn, 1) := by decide +kernel
theorem dX13_applicants_0 : decode cX13_applicants 0 = .ok (.aload_n 0, 1) := by decide +kernel
theorem dX13_applicants_1 : decode cX13_applicants 1 = .ok (.iconst 0, 1) := by decide +kernel
theorem dX13_applicants_2 : decode cX13_applicants 2 = .ok (.putfield 48, 3) := by decide +kernel
theorem dX13_applicants_5 : decode cX13_applicants 5 = .ok (.aload_n 0, 1) := by decide +kernel
theorem dX13_applicants_6 : decode cX13_applicants 6 = .ok (.invokevirtual 453, 3) := by decide +kernel
theorem dX13_applicants_9 : decode cX13_applicants 9 = .ok (.istore_n 1, 1) := by decide +kernel
theorem dX13_applicants_10 : decode cX13_applicants 10 = .ok (.iload_n 1, 1) := by decide +kernel
theorem dX13_applicants_11 : decode cX13_applicants 11 = .ok (.ifCond .le 9, 3) := by decide +kernel
theorem dX13_applicants_14 : decode cX13_applicants 14 = .ok (.aload_n 0, 1) := by decide +kernel
theorem dX13_applicants_15 : decode cX13_applicants 15 = .ok (.iload_n 1, 1) := by decide +kernel
theorem dX13_applicants_16 : decode cX13_applicants 16 = .ok (.invokevirtual 54, 3) := by decide +kernel
theorem dX13_applicants_19 : decode cX13_applicants 19 = .ok (.ireturn, 1) := by decide +kernel
theorem dX13_applicants_20 : decode cX13_applicants 20 = .ok (.iconst 0, 1) := by decide +kernel
theorem dX13_applicants_21 : decode cX13_applicants 21 = .ok (.istore_n 2, 1) := by decide +kernel
theorem dX13_applicants_22 : decode cX13_applicants 22 = .ok (.iconst 0, 1) := by decide +kernel
theorem dX13_applicants_23 : decode cX13_applicants 23 = .ok (.istore_n 3, 1) := by decide +kernel
theorem dX13_applicants_24 : decode cX13_applicants 24 = .ok (.iload_n 3, 1) := by decide +kernel
theorem dX13_applicants_25 : decode cX13_applicants 25 = .ok (.aload_n 0, 1) := by decide +kernel
theorem dX13_applicants_26 : decode cX13_applicants 26 = .ok (.getfield 338, 3) := by decide +kernel
theorem dX13_applicants_29 : decode cX13_applicants 29 = .ok (.getfield 206, 3) := by decide +kernel
theorem dX13_applicants_32 : decode cX13_applicants 32 = .ok (.if_icmp .ge 24, 3) := by decide +kernel
theorem dX13_applicants_35 : decode cX13_applicants 35 = .ok (.aload_n 0, 1) := by decide +kernel
theorem dX13_applicants_36 : decode cX13_applicants 36 = .ok (.iload_n 3, 1) := by decide +kernel
theorem dX13_applicants_37 : decode cX13_applicants 37 = .ok (.invokevirtual 459, 3) := by decide +kernel
theorem dX13_applicants_40 : decode cX13_applicants 40 = .ok (.iload_n 2, 1) := by decide +kernel
theorem dX13_applicants_41 : decode cX13_applicants 41 = .ok (.if_icmp .le 9, 3) := by decide +kernel
theorem dX13_applicants_44 : decode cX13_applicants 44 = .ok (.aload_n 0, 1) := by decide +kernel
theorem dX13_applicants_45 : decode cX13_applicants 45 = .ok (.iload_n 3, 1) := by decide +kernel
theorem dX13_applicants_46 : decode cX13_applicants 46 = .ok (.invokevirtual 459, 3) := by decide +kernel
theorem dX13_applicants_49 : decode cX13_applicants 49 = .ok (.istore_n 2, 1) := by decide +kernel
theorem dX13_applicants_50 : decode cX13_applicants 50 = .ok (.iinc 3 1, 3) := by decide +kernel
theorem dX13_applicants_53 : decode cX13_applicants 53 = .ok (.goto (-29), 3) := by decide +kernel
theorem dX13_applicants_56 : decode cX13_applicants 56 = .ok (.aload_n 0, 1) := by decide +kernel
theorem dX13_applicants_57 : decode cX13_applicants 57 = .ok (.iload_n 2, 1) := by decide +kernel
theorem dX13_applicants_58 : decode cX13_applicants 58 = .ok (.invokevirtual 58, 3) := by decide +kernel
theorem dX13_applicants_61 : decode cX13_applicants 61 = .ok (.ireturn, 1) := by decide +kernel
theorem dX13_clerkPicks_0 : decode cX13_clerkPicks 0 = .ok (.aload_n 0, 1) := by decide +kernel
theorem dX13_clerkPicks_1 : decode cX13_clerkPicks 1 = .ok (.iconst 0, 1) := by decide +kernel
theorem dX13_clerkPicks_2 : decode cX13_clerkPicks 2 = .ok (.putfield 48, 3) := by decide +kernel
theorem dX13_clerkPicks_5 : decode cX13_clerkPicks 5 = .ok (.aload_n 0, 1) := by decide +kernel
theorem dX13_clerkPicks_6 : decode cX13_clerkPicks 6 = .ok (.invokevirtual 453, 3) := by decide +kernel
theorem dX13_clerkPicks_9 : decode cX13_clerkPicks 9 = .ok (.istore_n 1, 1) := by decide +kernel
theorem dX13_clerkPicks_10 : decode cX13_clerkPicks 10 = .ok (.iload_n 1, 1) := by decide +kernel
theorem dX13_clerkPicks_11 : decode cX13_clerkPicks 11 = .ok (.ifCond .le 11, 3) := by decide +kernel
theorem dX13_clerkPicks_14 : decode cX13_clerkPicks 14 = .ok (.aload_n 0, 1) := by decide +kernel
theorem dX13_clerkPicks_15 : decode cX13_clerkPicks 15 = .ok (.iload_n 1, 1) := by decide +kernel
theorem dX13_clerkPicks_16 : decode cX13_clerkPicks 16 = .ok (.invokevirtual 54, 3) := by decide +kernel
theorem dX13_clerkPicks_19 : decode cX13_clerkPicks 19 = .ok (.goto 11, 3) := by decide +kernel
theorem dX13_clerkPicks_22 : decode cX13_clerkPicks 22 = .ok (.aload_n 0, 1) := by decide +kernel
theorem dX13_clerkPicks_23 : decode cX13_clerkPicks 23 = .ok (.aload_n 0, 1) := by decide +kernel
theorem dX13_clerkPicks_24 : decode cX13_clerkPicks 24 = .ok (.invokevirtual 456, 3) := by decide +kernel
theorem dX13_clerkPicks_27 : decode cX13_clerkPicks 27 = .ok (.invokevirtual 58, 3) := by decide +kernel
theorem dX13_clerkPicks_30 : decode cX13_clerkPicks 30 = .ok (.ireturn, 1) := by decide +kernel
theorem dX13_even_0 : decode cX13_even 0 = .ok (.aload_n 0, 1) := by decide +kernel
theorem dX13_even_1 : decode cX13_even 1 = .ok (.iconst 0, 1) := by decide +kernel
theorem dX13_even_2 : decode cX13_even 2 = .ok (.putfield 48, 3) := by decide +kernel
theorem dX13_even_5 : decode cX13_even 5 = .ok (.aload_n 0, 1) := by decide +kernel
theorem dX13_even_6 : decode cX13_even 6 = .ok (.invokevirtual 453, 3) := by decide +kernel
theorem dX13_even_9 : decode cX13_even 9 = .ok (.istore_n 1, 1) := by decide +kernel
theorem dX13_even_10 : decode cX13_even 10 = .ok (.iload_n 1, 1) := by decide +kernel
theorem dX13_even_11 : decode cX13_even 11 = .ok (.ifCond .le 9, 3) := by decide +kernel
theorem dX13_even_14 : decode cX13_even 14 = .ok (.aload_n 0, 1) := by decide +kernel
theorem dX13_even_15 : decode cX13_even 15 = .ok (.iload_n 1, 1) := by decide +kernel
theorem dX13_even_16 : decode cX13_even 16 = .ok (.invokevirtual 54, 3) := by decide +kernel
theorem dX13_even_19 : decode cX13_even 19 = .ok (.ireturn, 1) := by decide +kernel
theorem dX13_even_20 : decode cX13_even 20 = .ok (.iconst 0, 1) := by decide +kernel
theorem dX13_even_21 : decode cX13_even 21 = .ok (.istore_n 2, 1) := by decide +kernel
theorem dX13_even_22 : decode cX13_even 22 = .ok (.iconst 0, 1) := by decide +kernel
theorem dX13_even_23 : decode cX13_even 23 = .ok (.istore_n 3, 1) := by decide +kernel
theorem dX13_even_24 : decode cX13_even 24 = .ok (.iload_n 3, 1) := by decide +kernel
theorem dX13_even_25 : decode cX13_even 25 = .ok (.aload_n 0, 1) := by decide +kernel
theorem dX13_even_26 : decode cX13_even 26 = .ok (.getfield 338, 3) := by decide +kernel
theorem dX13_even_29 : decode cX13_even 29 = .ok (.getfield 262, 3) := by decide +kernel
theorem dX13_even_32 : decode cX13_even 32 = .ok (.if_icmp .ge 69, 3) := by decide +kernel
theorem dX13_even_35 : decode cX13_even 35 = .ok (.iconst 0, 1) := by decide +kernel
theorem dX13_even_36 : decode cX13_even 36 = .ok (.istore 4, 2) := by decide +kernel
theorem dX13_even_38 : decode cX13_even 38 = .ok (.iload 4, 2) := by decide +kernel
theorem dX13_even_40 : decode cX13_even 40 = .ok (.aload_n 0, 1) := by decide +kernel
theorem dX13_even_41 : decode cX13_even 41 = .ok (.getfield 338, 3) := by decide +kernel
theorem dX13_even_44 : decode cX13_even 44 = .ok (.getfield 206, 3) := by decide +kernel
theorem dX13_even_47 : decode cX13_even 47 = .ok (.if_icmp .ge 48, 3) := by decide +kernel
theorem dX13_even_50 : decode cX13_even 50 = .ok (.iload_n 2, 1) := by decide +kernel
theorem dX13_even_51 : decode cX13_even 51 = .ok (.aload_n 0, 1) := by decide +kernel
theorem dX13_even_52 : decode cX13_even 52 = .ok (.iload_n 3, 1) := by decide +kernel
theorem dX13_even_53 : decode cX13_even 53 = .ok (.iload 4, 2) := by decide +kernel
theorem dX13_even_55 : decode cX13_even 55 = .ok (.invokevirtual 447, 3) := by decide +kernel
theorem dX13_even_58 : decode cX13_even 58 = .ok (.aload_n 0, 1) := by decide +kernel
theorem dX13_even_59 : decode cX13_even 59 = .ok (.iload 4, 2) := by decide +kernel
theorem dX13_even_61 : decode cX13_even 61 = .ok (.invokevirtual 459, 3) := by decide +kernel
theorem dX13_even_64 : decode cX13_even 64 = .ok (.if_icmp .ne 22, 3) := by decide +kernel
theorem dX13_even_67 : decode cX13_even 67 = .ok (.aload_n 0, 1) := by decide +kernel
theorem dX13_even_68 : decode cX13_even 68 = .ok (.iload_n 3, 1) := by decide +kernel
theorem dX13_even_69 : decode cX13_even 69 = .ok (.iload 4, 2) := by decide +kernel
theorem dX13_even_71 : decode cX13_even 71 = .ok (.invokevirtual 447, 3) := by decide +kernel
theorem dX13_even_74 : decode cX13_even 74 = .ok (.aload_n 0, 1) := by decide +kernel
theorem dX13_even_75 : decode cX13_even 75 = .ok (.iload_n 3, 1) := by decide +kernel
theorem dX13_even_76 : decode cX13_even 76 = .ok (.invokevirtual 450, 3) := by decide +kernel
theorem dX13_even_79 : decode cX13_even 79 = .ok (.if_icmp .ne 7, 3) := by decide +kernel
theorem dX13_even_82 : decode cX13_even 82 = .ok (.iconst 1, 1) := by decide +kernel
theorem dX13_even_83 : decode cX13_even 83 = .ok (.goto 4, 3) := by decide +kernel
theorem dX13_even_86 : decode cX13_even 86 = .ok (.iconst 0, 1) := by decide +kernel
theorem dX13_even_87 : decode cX13_even 87 = .ok (.iadd, 1) := by decide +kernel
theorem dX13_even_88 : decode cX13_even 88 = .ok (.istore_n 2, 1) := by decide +kernel
theorem dX13_even_89 : decode cX13_even 89 = .ok (.iinc 4 1, 3) := by decide +kernel
theorem dX13_even_92 : decode cX13_even 92 = .ok (.goto (-54), 3) := by decide +kernel
theorem dX13_even_95 : decode cX13_even 95 = .ok (.iinc 3 1, 3) := by decide +kernel
theorem dX13_even_98 : decode cX13_even 98 = .ok (.goto (-74), 3) := by decide +kernel
theorem dX13_even_101 : decode cX13_even 101 = .ok (.aload_n 0, 1) := by decide +kernel
theorem dX13_even_102 : decode cX13_even 102 = .ok (.iload_n 2, 1) := by decide +kernel
theorem dX13_even_103 : decode cX13_even 103 = .ok (.invokevirtual 58, 3) := by decide +kernel
theorem dX13_even_106 : decode cX13_even 106 = .ok (.ireturn, 1) := by decide +kernel
theorem dX13_sure_0 : decode cX13_sure 0 = .ok (.aload_n 0, 1) := by decide +kernel
theorem dX13_sure_1 : decode cX13_sure 1 = .ok (.iconst 0, 1) := by decide +kernel
theorem dX13_sure_2 : decode cX13_sure 2 = .ok (.putfield 48, 3) := by decide +kernel
theorem dX13_sure_5 : decode cX13_sure 5 = .ok (.aload_n 0, 1) := by decide +kernel
theorem dX13_sure_6 : decode cX13_sure 6 = .ok (.iload_n 1, 1) := by decide +kernel
theorem dX13_sure_7 : decode cX13_sure 7 = .ok (.invokevirtual 358, 3) := by decide +kernel
theorem dX13_sure_10 : decode cX13_sure 10 = .ok (.ifCond .eq 19, 3) := by decide +kernel
theorem dX13_sure_13 : decode cX13_sure 13 = .ok (.aload_n 0, 1) := by decide +kernel
theorem dX13_sure_14 : decode cX13_sure 14 = .ok (.iload_n 2, 1) := by decide +kernel
theorem dX13_sure_15 : decode cX13_sure 15 = .ok (.invokevirtual 361, 3) := by decide +kernel
theorem dX13_sure_18 : decode cX13_sure 18 = .ok (.ifCond .eq 11, 3) := by decide +kernel
theorem dX13_sure_21 : decode cX13_sure 21 = .ok (.aload_n 0, 1) := by decide +kernel
theorem dX13_sure_22 : decode cX13_sure 22 = .ok (.iload_n 3, 1) := by decide +kernel
theorem dX13_sure_23 : decode cX13_sure 23 = .ok (.invokevirtual 355, 3) := by decide +kernel
theorem dX13_sure_26 : decode cX13_sure 26 = .ok (.ifCond .ne 10, 3) := by decide +kernel
theorem dX13_sure_29 : decode cX13_sure 29 = .ok (.aload_n 0, 1) := by decide +kernel
theorem dX13_sure_30 : decode cX13_sure 30 = .ok (.iconst 1, 1) := by decide +kernel
theorem dX13_sure_31 : decode cX13_sure 31 = .ok (.invokevirtual 54, 3) := by decide +kernel
theorem dX13_sure_34 : decode cX13_sure 34 = .ok (.i2l, 1) := by decide +kernel
theorem dX13_sure_35 : decode cX13_sure 35 = .ok (.lreturn, 1) := by decide +kernel
theorem dX13_sure_36 : decode cX13_sure 36 = .ok (.iload 4, 2) := by decide +kernel
theorem dX13_sure_38 : decode cX13_sure 38 = .ok (.invokestatic 373, 3) := by decide +kernel
theorem dX13_sure_41 : decode cX13_sure 41 = .ok (.ifCond .ne 10, 3) := by decide +kernel
theorem dX13_sure_44 : decode cX13_sure 44 = .ok (.aload_n 0, 1) := by decide +kernel
theorem dX13_sure_45 : decode cX13_sure 45 = .ok (.iconst 2, 1) := by decide +kernel
theorem dX13_sure_46 : decode cX13_sure 46 = .ok (.invokevirtual 54, 3) := by decide +kernel
theorem dX13_sure_49 : decode cX13_sure 49 = .ok (.i2l, 1) := by decide +kernel
theorem dX13_sure_50 : decode cX13_sure 50 = .ok (.lreturn, 1) := by decide +kernel
theorem dX13_sure_51 : decode cX13_sure 51 = .ok (.aload_n 0, 1) := by decide +kernel
theorem dX13_sure_52 : decode cX13_sure 52 = .ok (.aload_n 0, 1) := by decide +kernel
theorem dX13_sure_53 : decode cX13_sure 53 = .ok (.iload_n 2, 1) := by decide +kernel
theorem dX13_sure_54 : decode cX13_sure 54 = .ok (.aload_n 0, 1) := by decide +kernel
theorem dX13_sure_55 : decode cX13_sure 55 = .ok (.iload_n 1, 1) := by decide +kernel
theorem dX13_sure_56 : decode cX13_sure 56 = .ok (.iload_n 3, 1) := by decide +kernel
theorem dX13_sure_57 : decode cX13_sure 57 = .ok (.invokevirtual 367, 3) := by decide +kernel
theorem dX13_sure_60 : decode cX13_sure 60 = .ok (.iload 4, 2) := by decide +kernel
theorem dX13_sure_62 : decode cX13_sure 62 = .ok (.invokevirtual 406, 3) := by decide +kernel
theorem dX13_sure_65 : decode cX13_sure 65 = .ok (.i2l, 1) := by decide +kernel
theorem dX13_sure_66 : decode cX13_sure 66 = .ok (.ldc2_w 421, 3) := by decide +kernel
theorem dX13_sure_69 : decode cX13_sure 69 = .ok (.iload 5, 2) := by decide +kernel
theorem dX13_sure_71 : decode cX13_sure 71 = .ok (.invokevirtual 417, 3) := by decide +kernel
theorem dX13_sure_74 : decode cX13_sure 74 = .ok (.lreturn, 1) := by decide +kernel
theorem dX13_mean_0 : decode cX13_mean 0 = .ok (.aload_n 0, 1) := by decide +kernel
theorem dX13_mean_1 : decode cX13_mean 1 = .ok (.iconst 0, 1) := by decide +kernel
theorem dX13_mean_2 : decode cX13_mean 2 = .ok (.putfield 48, 3) := by decide +kernel
theorem dX13_mean_5 : decode cX13_mean 5 = .ok (.aload_n 0, 1) := by decide +kernel
theorem dX13_mean_6 : decode cX13_mean 6 = .ok (.iload_n 1, 1) := by decide +kernel
theorem dX13_mean_7 : decode cX13_mean 7 = .ok (.invokevirtual 358, 3) := by decide +kernel
theorem dX13_mean_10 : decode cX13_mean 10 = .ok (.ifCond .eq 11, 3) := by decide +kernel
theorem dX13_mean_13 : decode cX13_mean 13 = .ok (.aload_n 0, 1) := by decide +kernel
theorem dX13_mean_14 : decode cX13_mean 14 = .ok (.iload_n 2, 1) := by decide +kernel
theorem dX13_mean_15 : decode cX13_mean 15 = .ok (.invokevirtual 361, 3) := by decide +kernel
theorem dX13_mean_18 : decode cX13_mean 18 = .ok (.ifCond .ne 10, 3) := by decide +kernel
theorem dX13_mean_21 : decode cX13_mean 21 = .ok (.aload_n 0, 1) := by decide +kernel
theorem dX13_mean_22 : decode cX13_mean 22 = .ok (.iconst 1, 1) := by decide +kernel
theorem dX13_mean_23 : decode cX13_mean 23 = .ok (.invokevirtual 54, 3) := by decide +kernel
theorem dX13_mean_26 : decode cX13_mean 26 = .ok (.i2l, 1) := by decide +kernel
theorem dX13_mean_27 : decode cX13_mean 27 = .ok (.lreturn, 1) := by decide +kernel
theorem dX13_mean_28 : decode cX13_mean 28 = .ok (.lconst 0, 1) := by decide +kernel
theorem dX13_mean_29 : decode cX13_mean 29 = .ok (.lstore 4, 2) := by decide +kernel
theorem dX13_mean_31 : decode cX13_mean 31 = .ok (.iconst 0, 1) := by decide +kernel
theorem dX13_mean_32 : decode cX13_mean 32 = .ok (.istore 6, 2) := by decide +kernel
theorem dX13_mean_34 : decode cX13_mean 34 = .ok (.iload 6, 2) := by decide +kernel
theorem dX13_mean_36 : decode cX13_mean 36 = .ok (.aload_n 0, 1) := by decide +kernel
theorem dX13_mean_37 : decode cX13_mean 37 = .ok (.getfield 338, 3) := by decide +kernel
theorem dX13_mean_40 : decode cX13_mean 40 = .ok (.getfield 206, 3) := by decide +kernel
theorem dX13_mean_43 : decode cX13_mean 43 = .ok (.if_icmp .ge 39, 3) := by decide +kernel
theorem dX13_mean_46 : decode cX13_mean 46 = .ok (.lload 4, 2) := by decide +kernel
theorem dX13_mean_48 : decode cX13_mean 48 = .ok (.aload_n 0, 1) := by decide +kernel
theorem dX13_mean_49 : decode cX13_mean 49 = .ok (.getfield 338, 3) := by decide +kernel
theorem dX13_mean_52 : decode cX13_mean 52 = .ok (.getfield 257, 3) := by decide +kernel
theorem dX13_mean_55 : decode cX13_mean 55 = .ok (.iload 6, 2) := by decide +kernel
theorem dX13_mean_57 : decode cX13_mean 57 = .ok (.iaload, 1) := by decide +kernel
theorem dX13_mean_58 : decode cX13_mean 58 = .ok (.aload_n 0, 1) := by decide +kernel
theorem dX13_mean_59 : decode cX13_mean 59 = .ok (.iload_n 2, 1) := by decide +kernel
theorem dX13_mean_60 : decode cX13_mean 60 = .ok (.aload_n 0, 1) := by decide +kernel
theorem dX13_mean_61 : decode cX13_mean 61 = .ok (.iload_n 1, 1) := by decide +kernel
theorem dX13_mean_62 : decode cX13_mean 62 = .ok (.iload 6, 2) := by decide +kernel
theorem dX13_mean_64 : decode cX13_mean 64 = .ok (.invokevirtual 367, 3) := by decide +kernel
theorem dX13_mean_67 : decode cX13_mean 67 = .ok (.iconst 1, 1) := by decide +kernel
theorem dX13_mean_68 : decode cX13_mean 68 = .ok (.invokevirtual 406, 3) := by decide +kernel
theorem dX13_mean_71 : decode cX13_mean 71 = .ok (.imul, 1) := by decide +kernel
theorem dX13_mean_72 : decode cX13_mean 72 = .ok (.i2l, 1) := by decide +kernel
theorem dX13_mean_73 : decode cX13_mean 73 = .ok (.ladd, 1) := by decide +kernel
theorem dX13_mean_74 : decode cX13_mean 74 = .ok (.lstore 4, 2) := by decide +kernel
theorem dX13_mean_76 : decode cX13_mean 76 = .ok (.iinc 6 1, 3) := by decide +kernel
theorem dX13_mean_79 : decode cX13_mean 79 = .ok (.goto (-45), 3) := by decide +kernel
theorem dX13_mean_82 : decode cX13_mean 82 = .ok (.aload_n 0, 1) := by decide +kernel
theorem dX13_mean_83 : decode cX13_mean 83 = .ok (.lload 4, 2) := by decide +kernel
theorem dX13_mean_85 : decode cX13_mean 85 = .ok (.ldc2_w 421, 3) := by decide +kernel
theorem dX13_mean_88 : decode cX13_mean 88 = .ok (.iload_n 3, 1) := by decide +kernel
theorem dX13_mean_89 : decode cX13_mean 89 = .ok (.invokevirtual 417, 3) := by decide +kernel
theorem dX13_mean_92 : decode cX13_mean 92 = .ok (.lreturn, 1) := by decide +kernel
theorem dX13_refusesPresses_0 : decode cX13_refusesPresses 0 = .ok (.aload_n 0, 1) := by decide +kernel
theorem dX13_refusesPresses_1 : decode cX13_refusesPresses 1 = .ok (.getfield 338, 3) := by decide +kernel
theorem dX13_refusesPresses_4 : decode cX13_refusesPresses 4 = .ok (.ifnonnull 5, 3) := by decide +kernel
theorem dX13_refusesPresses_7 : decode cX13_refusesPresses 7 = .ok (.iconst 1, 1) := by decide +kernel
theorem dX13_refusesPresses_8 : decode cX13_refusesPresses 8 = .ok (.ireturn, 1) := by decide +kernel
theorem dX13_refusesPresses_9 : decode cX13_refusesPresses 9 = .ok (.iload_n 1, 1) := by decide +kernel
theorem dX13_refusesPresses_10 : decode cX13_refusesPresses 10 = .ok (.iconst 0, 1) := by decide +kernel
theorem dX13_refusesPresses_11 : decode cX13_refusesPresses 11 = .ok (.ldc_w 462, 3) := by decide +kernel
theorem dX13_refusesPresses_14 : decode cX13_refusesPresses 14 = .ok (.invokestatic 127, 3) := by decide +kernel
theorem dX13_refusesPresses_17 : decode cX13_refusesPresses 17 = .ok (.ifCond .eq 13, 3) := by decide +kernel
theorem dX13_refusesPresses_20 : decode cX13_refusesPresses 20 = .ok (.iload_n 2, 1) := by decide +kernel
theorem dX13_refusesPresses_21 : decode cX13_refusesPresses 21 = .ok (.iconst 0, 1) := by decide +kernel
theorem dX13_refusesPresses_22 : decode cX13_refusesPresses 22 = .ok (.bipush 90, 2) := by decide +kernel
theorem dX13_refusesPresses_24 : decode cX13_refusesPresses 24 = .ok (.invokestatic 127, 3) := by decide +kernel
theorem dX13_refusesPresses_27 : decode cX13_refusesPresses 27 = .ok (.ifCond .ne 5, 3) := by decide +kernel
theorem dX13_refusesPresses_30 : decode cX13_refusesPresses 30 = .ok (.iconst 2, 1) := by decide +kernel
theorem dX13_refusesPresses_31 : decode cX13_refusesPresses 31 = .ok (.ireturn, 1) := by decide +kernel
theorem dX13_refusesPresses_32 : decode cX13_refusesPresses 32 = .ok (.aload_n 0, 1) := by decide +kernel
theorem dX13_refusesPresses_33 : decode cX13_refusesPresses 33 = .ok (.getfield 338, 3) := by decide +kernel
theorem dX13_refusesPresses_36 : decode cX13_refusesPresses 36 = .ok (.getfield 262, 3) := by decide +kernel
theorem dX13_refusesPresses_39 : decode cX13_refusesPresses 39 = .ok (.ifCond .eq 13, 3) := by decide +kernel
theorem dX13_refusesPresses_42 : decode cX13_refusesPresses 42 = .ok (.aload_n 0, 1) := by decide +kernel
theorem dX13_refusesPresses_43 : decode cX13_refusesPresses 43 = .ok (.getfield 338, 3) := by decide +kernel
theorem dX13_refusesPresses_46 : decode cX13_refusesPresses 46 = .ok (.getfield 298, 3) := by decide +kernel
theorem dX13_refusesPresses_49 : decode cX13_refusesPresses 49 = .ok (.ifCond .ne 8, 3) := by decide +kernel
theorem dX13_refusesPresses_52 : decode cX13_refusesPresses 52 = .ok (.bipush 6, 2) := by decide +kernel
theorem dX13_refusesPresses_54 : decode cX13_refusesPresses 54 = .ok (.goto 4, 3) := by decide +kernel
theorem dX13_refusesPresses_57 : decode cX13_refusesPresses 57 = .ok (.iconst 0, 1) := by decide +kernel
theorem dX13_refusesPresses_58 : decode cX13_refusesPresses 58 = .ok (.ireturn, 1) := by decide +kernel
theorem dX13_drawn_0 : decode cX13_drawn 0 = .ok (.aload_n 0, 1) := by decide +kernel
theorem dX13_drawn_1 : decode cX13_drawn 1 = .ok (.ldc2_w 463, 3) := by decide +kernel
theorem dX13_drawn_4 : decode cX13_drawn 4 = .ok (.aload_n 0, 1) := by decide +kernel
theorem dX13_drawn_5 : decode cX13_drawn 5 = .ok (.getfield 465, 3) := by decide +kernel
theorem dX13_drawn_8 : decode cX13_drawn 8 = .ok (.i2l, 1) := by decide +kernel
theorem dX13_drawn_9 : decode cX13_drawn 9 = .ok (.lmul, 1) := by decide +kernel
theorem dX13_drawn_10 : decode cX13_drawn 10 = .ok (.ldc2_w 468, 3) := by decide +kernel
theorem dX13_drawn_13 : decode cX13_drawn 13 = .ok (.ladd, 1) := by decide +kernel
theorem dX13_drawn_14 : decode cX13_drawn 14 = .ok (.ldc2_w 470, 3) := by decide +kernel
theorem dX13_drawn_17 : decode cX13_drawn 17 = .ok (.lrem, 1) := by decide +kernel
theorem dX13_drawn_18 : decode cX13_drawn 18 = .ok (.l2i, 1) := by decide +kernel
theorem dX13_drawn_19 : decode cX13_drawn 19 = .ok (.putfield 465, 3) := by decide +kernel
theorem dX13_drawn_22 : decode cX13_drawn 22 = .ok (.aload_n 0, 1) := by decide +kernel
theorem dX13_drawn_23 : decode cX13_drawn 23 = .ok (.getfield 465, 3) := by decide +kernel
theorem dX13_drawn_26 : decode cX13_drawn 26 = .ok (.iload_n 1, 1) := by decide +kernel
theorem dX13_drawn_27 : decode cX13_drawn 27 = .ok (.irem, 1) := by decide +kernel
theorem dX13_drawn_28 : decode cX13_drawn 28 = .ok (.ireturn, 1) := by decide +kernel
theorem dX13_pressesAll_0 : decode cX13_pressesAll 0 = .ok (.aload_n 0, 1) := by decide +kernel
theorem dX13_pressesAll_1 : decode cX13_pressesAll 1 = .ok (.iload_n 1, 1) := by decide +kernel
theorem dX13_pressesAll_2 : decode cX13_pressesAll 2 = .ok (.putfield 465, 3) := by decide +kernel
theorem dX13_pressesAll_5 : decode cX13_pressesAll 5 = .ok (.aload_n 0, 1) := by decide +kernel
theorem dX13_pressesAll_6 : decode cX13_pressesAll 6 = .ok (.iconst 0, 1) := by decide +kernel
theorem dX13_pressesAll_7 : decode cX13_pressesAll 7 = .ok (.putfield 472, 3) := by decide +kernel
theorem dX13_pressesAll_10 : decode cX13_pressesAll 10 = .ok (.iconst 0, 1) := by decide +kernel
theorem dX13_pressesAll_11 : decode cX13_pressesAll 11 = .ok (.istore_n 3, 1) := by decide +kernel
theorem dX13_pressesAll_12 : decode cX13_pressesAll 12 = .ok (.iload_n 3, 1) := by decide +kernel
theorem dX13_pressesAll_13 : decode cX13_pressesAll 13 = .ok (.iconst 3, 1) := by decide +kernel
theorem dX13_pressesAll_14 : decode cX13_pressesAll 14 = .ok (.if_icmp .ge 16, 3) := by decide +kernel
theorem dX13_pressesAll_17 : decode cX13_pressesAll 17 = .ok (.aload_n 0, 1) := by decide +kernel
theorem dX13_pressesAll_18 : decode cX13_pressesAll 18 = .ok (.getfield 42, 3) := by decide +kernel
theorem dX13_pressesAll_21 : decode cX13_pressesAll 21 = .ok (.iload_n 3, 1) := by decide +kernel
theorem dX13_pressesAll_22 : decode cX13_pressesAll 22 = .ok (.iconst 0, 1) := by decide +kernel
theorem dX13_pressesAll_23 : decode cX13_pressesAll 23 = .ok (.iastore, 1) := by decide +kernel
theorem dX13_pressesAll_24 : decode cX13_pressesAll 24 = .ok (.iinc 3 1, 3) := by decide +kernel
theorem dX13_pressesAll_27 : decode cX13_pressesAll 27 = .ok (.goto (-15), 3) := by decide +kernel
theorem dX13_pressesAll_30 : decode cX13_pressesAll 30 = .ok (.iconst 0, 1) := by decide +kernel
theorem dX13_pressesAll_31 : decode cX13_pressesAll 31 = .ok (.istore_n 3, 1) := by decide +kernel
theorem dX13_pressesAll_32 : decode cX13_pressesAll 32 = .ok (.iload_n 3, 1) := by decide +kernel
theorem dX13_pressesAll_33 : decode cX13_pressesAll 33 = .ok (.iconst 5, 1) := by decide +kernel
theorem dX13_pressesAll_34 : decode cX13_pressesAll 34 = .ok (.if_icmp .ge 17, 3) := by decide +kernel
theorem dX13_pressesAll_37 : decode cX13_pressesAll 37 = .ok (.aload_n 0, 1) := by decide +kernel
theorem dX13_pressesAll_38 : decode cX13_pressesAll 38 = .ok (.getfield 45, 3) := by decide +kernel
theorem dX13_pressesAll_41 : decode cX13_pressesAll 41 = .ok (.iload_n 3, 1) := by decide +kernel
theorem dX13_pressesAll_42 : decode cX13_pressesAll 42 = .ok (.bipush (-2), 2) := by decide +kernel
theorem dX13_pressesAll_44 : decode cX13_pressesAll 44 = .ok (.iastore, 1) := by decide +kernel
theorem dX13_pressesAll_45 : decode cX13_pressesAll 45 = .ok (.iinc 3 1, 3) := by decide +kernel
theorem dX13_pressesAll_48 : decode cX13_pressesAll 48 = .ok (.goto (-16), 3) := by decide +kernel
theorem dX13_pressesAll_51 : decode cX13_pressesAll 51 = .ok (.iconst 0, 1) := by decide +kernel
theorem dX13_pressesAll_52 : decode cX13_pressesAll 52 = .ok (.istore_n 3, 1) := by decide +kernel
theorem dX13_pressesAll_53 : decode cX13_pressesAll 53 = .ok (.iload_n 3, 1) := by decide +kernel
theorem dX13_pressesAll_54 : decode cX13_pressesAll 54 = .ok (.iload_n 2, 1) := by decide +kernel
theorem dX13_pressesAll_55 : decode cX13_pressesAll 55 = .ok (.if_icmp .ge 139, 3) := by decide +kernel
theorem dX13_pressesAll_58 : decode cX13_pressesAll 58 = .ok (.aload_n 0, 1) := by decide +kernel
theorem dX13_pressesAll_59 : decode cX13_pressesAll 59 = .ok (.aload_n 0, 1) := by decide +kernel
theorem dX13_pressesAll_60 : decode cX13_pressesAll 60 = .ok (.getfield 338, 3) := by decide +kernel
theorem dX13_pressesAll_63 : decode cX13_pressesAll 63 = .ok (.getfield 262, 3) := by decide +kernel
theorem dX13_pressesAll_66 : decode cX13_pressesAll 66 = .ok (.invokevirtual 475, 3) := by decide +kernel
theorem dX13_pressesAll_69 : decode cX13_pressesAll 69 = .ok (.istore 4, 2) := by decide +kernel
theorem dX13_pressesAll_71 : decode cX13_pressesAll 71 = .ok (.aload_n 0, 1) := by decide +kernel
theorem dX13_pressesAll_72 : decode cX13_pressesAll 72 = .ok (.aload_n 0, 1) := by decide +kernel
theorem dX13_pressesAll_73 : decode cX13_pressesAll 73 = .ok (.getfield 338, 3) := by decide +kernel
theorem dX13_pressesAll_76 : decode cX13_pressesAll 76 = .ok (.getfield 298, 3) := by decide +kernel
theorem dX13_pressesAll_79 : decode cX13_pressesAll 79 = .ok (.invokevirtual 475, 3) := by decide +kernel
theorem dX13_pressesAll_82 : decode cX13_pressesAll 82 = .ok (.istore 5, 2) := by decide +kernel
theorem dX13_pressesAll_84 : decode cX13_pressesAll 84 = .ok (.aload_n 0, 1) := by decide +kernel
theorem dX13_pressesAll_85 : decode cX13_pressesAll 85 = .ok (.aload_n 0, 1) := by decide +kernel
theorem dX13_pressesAll_86 : decode cX13_pressesAll 86 = .ok (.getfield 338, 3) := by decide +kernel
theorem dX13_pressesAll_89 : decode cX13_pressesAll 89 = .ok (.getfield 206, 3) := by decide +kernel
theorem dX13_pressesAll_92 : decode cX13_pressesAll 92 = .ok (.invokevirtual 475, 3) := by decide +kernel
theorem dX13_pressesAll_95 : decode cX13_pressesAll 95 = .ok (.istore 6, 2) := by decide +kernel
theorem dX13_pressesAll_97 : decode cX13_pressesAll 97 = .ok (.aload_n 0, 1) := by decide +kernel
theorem dX13_pressesAll_98 : decode cX13_pressesAll 98 = .ok (.bipush 100, 2) := by decide +kernel
theorem dX13_pressesAll_100 : decode cX13_pressesAll 100 = .ok (.invokevirtual 475, 3) := by decide +kernel
theorem dX13_pressesAll_103 : decode cX13_pressesAll 103 = .ok (.aload_n 0, 1) := by decide +kernel
theorem dX13_pressesAll_104 : decode cX13_pressesAll 104 = .ok (.getfield 338, 3) := by decide +kernel
theorem dX13_pressesAll_107 : decode cX13_pressesAll 107 = .ok (.getfield 313, 3) := by decide +kernel
theorem dX13_pressesAll_110 : decode cX13_pressesAll 110 = .ok (.iload 5, 2) := by decide +kernel
theorem dX13_pressesAll_112 : decode cX13_pressesAll 112 = .ok (.iaload, 1) := by decide +kernel
theorem dX13_pressesAll_113 : decode cX13_pressesAll 113 = .ok (.if_icmp .ge 7, 3) := by decide +kernel
theorem dX13_pressesAll_116 : decode cX13_pressesAll 116 = .ok (.iconst 2, 1) := by decide +kernel
theorem dX13_pressesAll_117 : decode cX13_pressesAll 117 = .ok (.goto 17, 3) := by decide +kernel
theorem dX13_pressesAll_120 : decode cX13_pressesAll 120 = .ok (.aload_n 0, 1) := by decide +kernel
theorem dX13_pressesAll_121 : decode cX13_pressesAll 121 = .ok (.iload 5, 2) := by decide +kernel
theorem dX13_pressesAll_123 : decode cX13_pressesAll 123 = .ok (.aload_n 0, 1) := by decide +kernel
theorem dX13_pressesAll_124 : decode cX13_pressesAll 124 = .ok (.iload 4, 2) := by decide +kernel
theorem dX13_pressesAll_126 : decode cX13_pressesAll 126 = .ok (.iload 6, 2) := by decide +kernel
theorem dX13_pressesAll_128 : decode cX13_pressesAll 128 = .ok (.invokevirtual 367, 3) := by decide +kernel
theorem dX13_pressesAll_131 : decode cX13_pressesAll 131 = .ok (.invokevirtual 352, 3) := by decide +kernel
theorem dX13_pressesAll_134 : decode cX13_pressesAll 134 = .ok (.istore 7, 2) := by decide +kernel
theorem dX13_pressesAll_136 : decode cX13_pressesAll 136 = .ok (.aload_n 0, 1) := by decide +kernel
theorem dX13_pressesAll_137 : decode cX13_pressesAll 137 = .ok (.getfield 42, 3) := by decide +kernel
theorem dX13_pressesAll_140 : decode cX13_pressesAll 140 = .ok (.iload 7, 2) := by decide +kernel
theorem dX13_pressesAll_142 : decode cX13_pressesAll 142 = .ok (.dup2, 1) := by decide +kernel
theorem dX13_pressesAll_143 : decode cX13_pressesAll 143 = .ok (.iaload, 1) := by decide +kernel
theorem dX13_pressesAll_144 : decode cX13_pressesAll 144 = .ok (.iconst 1, 1) := by decide +kernel
theorem dX13_pressesAll_145 : decode cX13_pressesAll 145 = .ok (.iadd, 1) := by decide +kernel
theorem dX13_pressesAll_146 : decode cX13_pressesAll 146 = .ok (.iastore, 1) := by decide +kernel
theorem dX13_pressesAll_147 : decode cX13_pressesAll 147 = .ok (.aload_n 0, 1) := by decide +kernel
theorem dX13_pressesAll_148 : decode cX13_pressesAll 148 = .ok (.getfield 45, 3) := by decide +kernel
theorem dX13_pressesAll_151 : decode cX13_pressesAll 151 = .ok (.iload 6, 2) := by decide +kernel
theorem dX13_pressesAll_153 : decode cX13_pressesAll 153 = .ok (.iload 7, 2) := by decide +kernel
theorem dX13_pressesAll_155 : decode cX13_pressesAll 155 = .ok (.iastore, 1) := by decide +kernel
theorem dX13_pressesAll_156 : decode cX13_pressesAll 156 = .ok (.iload 7, 2) := by decide +kernel
theorem dX13_pressesAll_158 : decode cX13_pressesAll 158 = .ok (.iconst 2, 1) := by decide +kernel
theorem dX13_pressesAll_159 : decode cX13_pressesAll 159 = .ok (.if_icmp .ne 29, 3) := by decide +kernel
theorem dX13_pressesAll_162 : decode cX13_pressesAll 162 = .ok (.aload_n 0, 1) := by decide +kernel
theorem dX13_pressesAll_163 : decode cX13_pressesAll 163 = .ok (.bipush 100, 2) := by decide +kernel
theorem dX13_pressesAll_165 : decode cX13_pressesAll 165 = .ok (.invokevirtual 475, 3) := by decide +kernel
theorem dX13_pressesAll_168 : decode cX13_pressesAll 168 = .ok (.aload_n 0, 1) := by decide +kernel
theorem dX13_pressesAll_169 : decode cX13_pressesAll 169 = .ok (.getfield 338, 3) := by decide +kernel
theorem dX13_pressesAll_172 : decode cX13_pressesAll 172 = .ok (.getfield 161, 3) := by decide +kernel
theorem dX13_pressesAll_175 : decode cX13_pressesAll 175 = .ok (.if_icmp .ge 13, 3) := by decide +kernel
theorem dX13_pressesAll_178 : decode cX13_pressesAll 178 = .ok (.aload_n 0, 1) := by decide +kernel
theorem dX13_pressesAll_179 : decode cX13_pressesAll 179 = .ok (.dup, 1) := by decide +kernel
theorem dX13_pressesAll_180 : decode cX13_pressesAll 180 = .ok (.getfield 472, 3) := by decide +kernel
theorem dX13_pressesAll_183 : decode cX13_pressesAll 183 = .ok (.iconst 1, 1) := by decide +kernel
theorem dX13_pressesAll_184 : decode cX13_pressesAll 184 = .ok (.iadd, 1) := by decide +kernel
theorem dX13_pressesAll_185 : decode cX13_pressesAll 185 = .ok (.putfield 472, 3) := by decide +kernel
theorem dX13_pressesAll_188 : decode cX13_pressesAll 188 = .ok (.iinc 3 1, 3) := by decide +kernel
theorem dX13_pressesAll_191 : decode cX13_pressesAll 191 = .ok (.goto (-138), 3) := by decide +kernel
theorem dX13_pressesAll_194 : decode cX13_pressesAll 194 = .ok (.return_, 1) := by decide +kernel
theorem dX13_presses_0 : decode cX13_presses 0 = .ok (.aload_n 0, 1) := by decide +kernel
theorem dX13_presses_1 : decode cX13_presses 1 = .ok (.iconst 0, 1) := by decide +kernel
theorem dX13_presses_2 : decode cX13_presses 2 = .ok (.putfield 48, 3) := by decide +kernel
theorem dX13_presses_5 : decode cX13_presses 5 = .ok (.aload_n 0, 1) := by decide +kernel
theorem dX13_presses_6 : decode cX13_presses 6 = .ok (.getfield 338, 3) := by decide +kernel
theorem dX13_presses_9 : decode cX13_presses 9 = .ok (.ifnull 16, 3) := by decide +kernel
theorem dX13_presses_12 : decode cX13_presses 12 = .ok (.iload_n 1, 1) := by decide +kernel
theorem dX13_presses_13 : decode cX13_presses 13 = .ok (.invokestatic 373, 3) := by decide +kernel
theorem dX13_presses_16 : decode cX13_presses 16 = .ok (.ifCond .ne 9, 3) := by decide +kernel
theorem dX13_presses_19 : decode cX13_presses 19 = .ok (.aload_n 0, 1) := by decide +kernel
theorem dX13_presses_20 : decode cX13_presses 20 = .ok (.iconst 2, 1) := by decide +kernel
theorem dX13_presses_21 : decode cX13_presses 21 = .ok (.invokevirtual 54, 3) := by decide +kernel
theorem dX13_presses_24 : decode cX13_presses 24 = .ok (.ireturn, 1) := by decide +kernel
theorem dX13_presses_25 : decode cX13_presses 25 = .ok (.aload_n 0, 1) := by decide +kernel
theorem dX13_presses_26 : decode cX13_presses 26 = .ok (.iload_n 2, 1) := by decide +kernel
theorem dX13_presses_27 : decode cX13_presses 27 = .ok (.iload_n 3, 1) := by decide +kernel
theorem dX13_presses_28 : decode cX13_presses 28 = .ok (.invokevirtual 478, 3) := by decide +kernel
theorem dX13_presses_31 : decode cX13_presses 31 = .ok (.istore 4, 2) := by decide +kernel
theorem dX13_presses_33 : decode cX13_presses 33 = .ok (.iload 4, 2) := by decide +kernel
theorem dX13_presses_35 : decode cX13_presses 35 = .ok (.ifCond .le 10, 3) := by decide +kernel
theorem dX13_presses_38 : decode cX13_presses 38 = .ok (.aload_n 0, 1) := by decide +kernel
theorem dX13_presses_39 : decode cX13_presses 39 = .ok (.iload 4, 2) := by decide +kernel
theorem dX13_presses_41 : decode cX13_presses 41 = .ok (.invokevirtual 54, 3) := by decide +kernel
theorem dX13_presses_44 : decode cX13_presses 44 = .ok (.ireturn, 1) := by decide +kernel
theorem dX13_presses_45 : decode cX13_presses 45 = .ok (.aload_n 0, 1) := by decide +kernel
theorem dX13_presses_46 : decode cX13_presses 46 = .ok (.iload_n 2, 1) := by decide +kernel
theorem dX13_presses_47 : decode cX13_presses 47 = .ok (.iload_n 3, 1) := by decide +kernel
theorem dX13_presses_48 : decode cX13_presses 48 = .ok (.invokevirtual 481, 3) := by decide +kernel
theorem dX13_presses_51 : decode cX13_presses 51 = .ok (.aload_n 0, 1) := by decide +kernel
theorem dX13_presses_52 : decode cX13_presses 52 = .ok (.aload_n 0, 1) := by decide +kernel
theorem dX13_presses_53 : decode cX13_presses 53 = .ok (.getfield 42, 3) := by decide +kernel
theorem dX13_presses_56 : decode cX13_presses 56 = .ok (.iload_n 1, 1) := by decide +kernel
theorem dX13_presses_57 : decode cX13_presses 57 = .ok (.iaload, 1) := by decide +kernel
theorem dX13_presses_58 : decode cX13_presses 58 = .ok (.invokevirtual 58, 3) := by decide +kernel
theorem dX13_presses_61 : decode cX13_presses 61 = .ok (.ireturn, 1) := by decide +kernel
theorem dX13_birds_0 : decode cX13_birds 0 = .ok (.aload_n 0, 1) := by decide +kernel
theorem dX13_birds_1 : decode cX13_birds 1 = .ok (.iconst 0, 1) := by decide +kernel
theorem dX13_birds_2 : decode cX13_birds 2 = .ok (.putfield 48, 3) := by decide +kernel
theorem dX13_birds_5 : decode cX13_birds 5 = .ok (.aload_n 0, 1) := by decide +kernel
theorem dX13_birds_6 : decode cX13_birds 6 = .ok (.iload_n 1, 1) := by decide +kernel
theorem dX13_birds_7 : decode cX13_birds 7 = .ok (.iload_n 2, 1) := by decide +kernel
theorem dX13_birds_8 : decode cX13_birds 8 = .ok (.invokevirtual 478, 3) := by decide +kernel
theorem dX13_birds_11 : decode cX13_birds 11 = .ok (.istore_n 3, 1) := by decide +kernel
theorem dX13_birds_12 : decode cX13_birds 12 = .ok (.iload_n 3, 1) := by decide +kernel
theorem dX13_birds_13 : decode cX13_birds 13 = .ok (.ifCond .le 9, 3) := by decide +kernel
theorem dX13_birds_16 : decode cX13_birds 16 = .ok (.aload_n 0, 1) := by decide +kernel
theorem dX13_birds_17 : decode cX13_birds 17 = .ok (.iload_n 3, 1) := by decide +kernel
theorem dX13_birds_18 : decode cX13_birds 18 = .ok (.invokevirtual 54, 3) := by decide +kernel
theorem dX13_birds_21 : decode cX13_birds 21 = .ok (.ireturn, 1) := by decide +kernel
theorem dX13_birds_22 : decode cX13_birds 22 = .ok (.aload_n 0, 1) := by decide +kernel
theorem dX13_birds_23 : decode cX13_birds 23 = .ok (.iload_n 1, 1) := by decide +kernel
theorem dX13_birds_24 : decode cX13_birds 24 = .ok (.iload_n 2, 1) := by decide +kernel
theorem dX13_birds_25 : decode cX13_birds 25 = .ok (.invokevirtual 481, 3) := by decide +kernel
theorem dX13_birds_28 : decode cX13_birds 28 = .ok (.aload_n 0, 1) := by decide +kernel
theorem dX13_birds_29 : decode cX13_birds 29 = .ok (.aload_n 0, 1) := by decide +kernel
theorem dX13_birds_30 : decode cX13_birds 30 = .ok (.getfield 472, 3) := by decide +kernel
theorem dX13_birds_33 : decode cX13_birds 33 = .ok (.invokevirtual 58, 3) := by decide +kernel
theorem dX13_birds_36 : decode cX13_birds 36 = .ok (.ireturn, 1) := by decide +kernel
theorem dX13_printed_0 : decode cX13_printed 0 = .ok (.aload_n 0, 1) := by decide +kernel
theorem dX13_printed_1 : decode cX13_printed 1 = .ok (.iconst 0, 1) := by decide +kernel
theorem dX13_printed_2 : decode cX13_printed 2 = .ok (.putfield 48, 3) := by decide +kernel
theorem dX13_printed_5 : decode cX13_printed 5 = .ok (.aload_n 0, 1) := by decide +kernel
theorem dX13_printed_6 : decode cX13_printed 6 = .ok (.iload_n 1, 1) := by decide +kernel
theorem dX13_printed_7 : decode cX13_printed 7 = .ok (.invokevirtual 355, 3) := by decide +kernel
theorem dX13_printed_10 : decode cX13_printed 10 = .ok (.ifCond .ne 9, 3) := by decide +kernel
theorem dX13_printed_13 : decode cX13_printed 13 = .ok (.aload_n 0, 1) := by decide +kernel
theorem dX13_printed_14 : decode cX13_printed 14 = .ok (.iconst 1, 1) := by decide +kernel
theorem dX13_printed_15 : decode cX13_printed 15 = .ok (.invokevirtual 54, 3) := by decide +kernel
theorem dX13_printed_18 : decode cX13_printed 18 = .ok (.ireturn, 1) := by decide +kernel
theorem dX13_printed_19 : decode cX13_printed 19 = .ok (.aload_n 0, 1) := by decide +kernel
theorem dX13_printed_20 : decode cX13_printed 20 = .ok (.iload_n 2, 1) := by decide +kernel
theorem dX13_printed_21 : decode cX13_printed 21 = .ok (.iload_n 3, 1) := by decide +kernel
theorem dX13_printed_22 : decode cX13_printed 22 = .ok (.invokevirtual 478, 3) := by decide +kernel
theorem dX13_printed_25 : decode cX13_printed 25 = .ok (.istore 4, 2) := by decide +kernel
theorem dX13_printed_27 : decode cX13_printed 27 = .ok (.iload 4, 2) := by decide +kernel
theorem dX13_printed_29 : decode cX13_printed 29 = .ok (.ifCond .le 10, 3) := by decide +kernel
theorem dX13_printed_32 : decode cX13_printed 32 = .ok (.aload_n 0, 1) := by decide +kernel
theorem dX13_printed_33 : decode cX13_printed 33 = .ok (.iload 4, 2) := by decide +kernel
theorem dX13_printed_35 : decode cX13_printed 35 = .ok (.invokevirtual 54, 3) := by decide +kernel
theorem dX13_printed_38 : decode cX13_printed 38 = .ok (.ireturn, 1) := by decide +kernel
theorem dX13_printed_39 : decode cX13_printed 39 = .ok (.aload_n 0, 1) := by decide +kernel
theorem dX13_printed_40 : decode cX13_printed 40 = .ok (.iload_n 2, 1) := by decide +kernel
theorem dX13_printed_41 : decode cX13_printed 41 = .ok (.iload_n 3, 1) := by decide +kernel
theorem dX13_printed_42 : decode cX13_printed 42 = .ok (.invokevirtual 481, 3) := by decide +kernel
theorem dX13_printed_45 : decode cX13_printed 45 = .ok (.aload_n 0, 1) := by decide +kernel
theorem dX13_printed_46 : decode cX13_printed 46 = .ok (.aload_n 0, 1) := by decide +kernel
theorem dX13_printed_47 : decode cX13_printed 47 = .ok (.getfield 45, 3) := by decide +kernel
theorem dX13_printed_50 : decode cX13_printed 50 = .ok (.iload_n 1, 1) := by decide +kernel
theorem dX13_printed_51 : decode cX13_printed 51 = .ok (.iaload, 1) := by decide +kernel
theorem dX13_printed_52 : decode cX13_printed 52 = .ok (.invokevirtual 58, 3) := by decide +kernel
theorem dX13_printed_55 : decode cX13_printed 55 = .ok (.ireturn, 1) := by decide +kernel
theorem dX13_remembers_0 : decode cX13_remembers 0 = .ok (.aload_n 0, 1) := by decide +kernel
theorem dX13_remembers_1 : decode cX13_remembers 1 = .ok (.getfield 340, 3) := by decide +kernel
theorem dX13_remembers_4 : decode cX13_remembers 4 = .ok (.bipush 16, 2) := by decide +kernel
theorem dX13_remembers_6 : decode cX13_remembers 6 = .ok (.if_icmp .ne 43, 3) := by decide +kernel
theorem dX13_remembers_9 : decode cX13_remembers 9 = .ok (.iconst 0, 1) := by decide +kernel
theorem dX13_remembers_10 : decode cX13_remembers 10 = .ok (.istore_n 1, 1) := by decide +kernel
theorem dX13_remembers_11 : decode cX13_remembers 11 = .ok (.iload_n 1, 1) := by decide +kernel
theorem dX13_remembers_12 : decode cX13_remembers 12 = .ok (.sipush 465, 3) := by decide +kernel
theorem dX13_remembers_15 : decode cX13_remembers 15 = .ok (.if_icmp .ge 24, 3) := by decide +kernel
theorem dX13_remembers_18 : decode cX13_remembers 18 = .ok (.aload_n 0, 1) := by decide +kernel
theorem dX13_remembers_19 : decode cX13_remembers 19 = .ok (.getfield 21, 3) := by decide +kernel
theorem dX13_remembers_22 : decode cX13_remembers 22 = .ok (.iload_n 1, 1) := by decide +kernel
theorem dX13_remembers_23 : decode cX13_remembers 23 = .ok (.aload_n 0, 1) := by decide +kernel
theorem dX13_remembers_24 : decode cX13_remembers 24 = .ok (.getfield 21, 3) := by decide +kernel
theorem dX13_remembers_27 : decode cX13_remembers 27 = .ok (.iload_n 1, 1) := by decide +kernel
theorem dX13_remembers_28 : decode cX13_remembers 28 = .ok (.bipush 31, 2) := by decide +kernel
theorem dX13_remembers_30 : decode cX13_remembers 30 = .ok (.iadd, 1) := by decide +kernel
theorem dX13_remembers_31 : decode cX13_remembers 31 = .ok (.iaload, 1) := by decide +kernel
theorem dX13_remembers_32 : decode cX13_remembers 32 = .ok (.iastore, 1) := by decide +kernel
theorem dX13_remembers_33 : decode cX13_remembers 33 = .ok (.iinc 1 1, 3) := by decide +kernel
theorem dX13_remembers_36 : decode cX13_remembers 36 = .ok (.goto (-25), 3) := by decide +kernel
theorem dX13_remembers_39 : decode cX13_remembers 39 = .ok (.aload_n 0, 1) := by decide +kernel
theorem dX13_remembers_40 : decode cX13_remembers 40 = .ok (.dup, 1) := by decide +kernel
theorem dX13_remembers_41 : decode cX13_remembers 41 = .ok (.getfield 340, 3) := by decide +kernel
theorem dX13_remembers_44 : decode cX13_remembers 44 = .ok (.iconst 1, 1) := by decide +kernel
theorem dX13_remembers_45 : decode cX13_remembers 45 = .ok (.isub, 1) := by decide +kernel
theorem dX13_remembers_46 : decode cX13_remembers 46 = .ok (.putfield 340, 3) := by decide +kernel
theorem dX13_remembers_49 : decode cX13_remembers 49 = .ok (.iconst 0, 1) := by decide +kernel
theorem dX13_remembers_50 : decode cX13_remembers 50 = .ok (.istore_n 1, 1) := by decide +kernel
theorem dX13_remembers_51 : decode cX13_remembers 51 = .ok (.iload_n 1, 1) := by decide +kernel
theorem dX13_remembers_52 : decode cX13_remembers 52 = .ok (.bipush 31, 2) := by decide +kernel
theorem dX13_remembers_54 : decode cX13_remembers 54 = .ok (.if_icmp .ge 29, 3) := by decide +kernel
theorem dX13_remembers_57 : decode cX13_remembers 57 = .ok (.aload_n 0, 1) := by decide +kernel
theorem dX13_remembers_58 : decode cX13_remembers 58 = .ok (.getfield 21, 3) := by decide +kernel
theorem dX13_remembers_61 : decode cX13_remembers 61 = .ok (.bipush 31, 2) := by decide +kernel
theorem dX13_remembers_63 : decode cX13_remembers 63 = .ok (.aload_n 0, 1) := by decide +kernel
theorem dX13_remembers_64 : decode cX13_remembers 64 = .ok (.getfield 340, 3) := by decide +kernel
theorem dX13_remembers_67 : decode cX13_remembers 67 = .ok (.imul, 1) := by decide +kernel
theorem dX13_remembers_68 : decode cX13_remembers 68 = .ok (.iload_n 1, 1) := by decide +kernel
theorem dX13_remembers_69 : decode cX13_remembers 69 = .ok (.iadd, 1) := by decide +kernel
theorem dX13_remembers_70 : decode cX13_remembers 70 = .ok (.aload_n 0, 1) := by decide +kernel
theorem dX13_remembers_71 : decode cX13_remembers 71 = .ok (.getfield 17, 3) := by decide +kernel
theorem dX13_remembers_74 : decode cX13_remembers 74 = .ok (.iload_n 1, 1) := by decide +kernel
theorem dX13_remembers_75 : decode cX13_remembers 75 = .ok (.iaload, 1) := by decide +kernel
theorem dX13_remembers_76 : decode cX13_remembers 76 = .ok (.iastore, 1) := by decide +kernel
theorem dX13_remembers_77 : decode cX13_remembers 77 = .ok (.iinc 1 1, 3) := by decide +kernel
theorem dX13_remembers_80 : decode cX13_remembers 80 = .ok (.goto (-29), 3) := by decide +kernel
theorem dX13_remembers_83 : decode cX13_remembers 83 = .ok (.aload_n 0, 1) := by decide +kernel
theorem dX13_remembers_84 : decode cX13_remembers 84 = .ok (.dup, 1) := by decide +kernel
theorem dX13_remembers_85 : decode cX13_remembers 85 = .ok (.getfield 340, 3) := by decide +kernel
theorem dX13_remembers_88 : decode cX13_remembers 88 = .ok (.iconst 1, 1) := by decide +kernel
theorem dX13_remembers_89 : decode cX13_remembers 89 = .ok (.iadd, 1) := by decide +kernel
theorem dX13_remembers_90 : decode cX13_remembers 90 = .ok (.putfield 340, 3) := by decide +kernel
theorem dX13_remembers_93 : decode cX13_remembers 93 = .ok (.return_, 1) := by decide +kernel
theorem dX13_press_0 : decode cX13_press 0 = .ok (.aload_n 0, 1) := by decide +kernel
theorem dX13_press_1 : decode cX13_press 1 = .ok (.iconst 0, 1) := by decide +kernel
theorem dX13_press_2 : decode cX13_press 2 = .ok (.putfield 48, 3) := by decide +kernel
theorem dX13_press_5 : decode cX13_press 5 = .ok (.aload_n 0, 1) := by decide +kernel
theorem dX13_press_6 : decode cX13_press 6 = .ok (.iload_n 1, 1) := by decide +kernel
theorem dX13_press_7 : decode cX13_press 7 = .ok (.invokevirtual 358, 3) := by decide +kernel
theorem dX13_press_10 : decode cX13_press 10 = .ok (.ifCond .eq 19, 3) := by decide +kernel
theorem dX13_press_13 : decode cX13_press 13 = .ok (.aload_n 0, 1) := by decide +kernel
theorem dX13_press_14 : decode cX13_press 14 = .ok (.iload_n 2, 1) := by decide +kernel
theorem dX13_press_15 : decode cX13_press 15 = .ok (.invokevirtual 361, 3) := by decide +kernel
theorem dX13_press_18 : decode cX13_press 18 = .ok (.ifCond .eq 11, 3) := by decide +kernel
theorem dX13_press_21 : decode cX13_press 21 = .ok (.aload_n 0, 1) := by decide +kernel
theorem dX13_press_22 : decode cX13_press 22 = .ok (.iload_n 3, 1) := by decide +kernel
theorem dX13_press_23 : decode cX13_press 23 = .ok (.invokevirtual 355, 3) := by decide +kernel
theorem dX13_press_26 : decode cX13_press 26 = .ok (.ifCond .ne 9, 3) := by decide +kernel
theorem dX13_press_29 : decode cX13_press 29 = .ok (.aload_n 0, 1) := by decide +kernel
theorem dX13_press_30 : decode cX13_press 30 = .ok (.iconst 1, 1) := by decide +kernel
theorem dX13_press_31 : decode cX13_press 31 = .ok (.invokevirtual 54, 3) := by decide +kernel
theorem dX13_press_34 : decode cX13_press 34 = .ok (.ireturn, 1) := by decide +kernel
theorem dX13_press_35 : decode cX13_press 35 = .ok (.aload_n 0, 1) := by decide +kernel
theorem dX13_press_36 : decode cX13_press 36 = .ok (.getfield 17, 3) := by decide +kernel
theorem dX13_press_39 : decode cX13_press 39 = .ok (.iconst 0, 1) := by decide +kernel
theorem dX13_press_40 : decode cX13_press 40 = .ok (.iload_n 1, 1) := by decide +kernel
theorem dX13_press_41 : decode cX13_press 41 = .ok (.iadd, 1) := by decide +kernel
theorem dX13_press_42 : decode cX13_press 42 = .ok (.iaload, 1) := by decide +kernel
theorem dX13_press_43 : decode cX13_press 43 = .ok (.ifCond .ne 10, 3) := by decide +kernel
theorem dX13_press_46 : decode cX13_press 46 = .ok (.aload_n 0, 1) := by decide +kernel
theorem dX13_press_47 : decode cX13_press 47 = .ok (.bipush 6, 2) := by decide +kernel
theorem dX13_press_49 : decode cX13_press 49 = .ok (.invokevirtual 54, 3) := by decide +kernel
theorem dX13_press_52 : decode cX13_press 52 = .ok (.ireturn, 1) := by decide +kernel
theorem dX13_press_53 : decode cX13_press 53 = .ok (.aload_n 0, 1) := by decide +kernel
theorem dX13_press_54 : decode cX13_press 54 = .ok (.invokevirtual 484, 3) := by decide +kernel
theorem dX13_press_57 : decode cX13_press 57 = .ok (.aload_n 0, 1) := by decide +kernel
theorem dX13_press_58 : decode cX13_press 58 = .ok (.getfield 17, 3) := by decide +kernel
theorem dX13_press_61 : decode cX13_press 61 = .ok (.iconst 0, 1) := by decide +kernel
theorem dX13_press_62 : decode cX13_press 62 = .ok (.iload_n 1, 1) := by decide +kernel
theorem dX13_press_63 : decode cX13_press 63 = .ok (.iadd, 1) := by decide +kernel
theorem dX13_press_64 : decode cX13_press 64 = .ok (.dup2, 1) := by decide +kernel
theorem dX13_press_65 : decode cX13_press 65 = .ok (.iaload, 1) := by decide +kernel
theorem dX13_press_66 : decode cX13_press 66 = .ok (.iconst 1, 1) := by decide +kernel
theorem dX13_press_67 : decode cX13_press 67 = .ok (.isub, 1) := by decide +kernel
theorem dX13_press_68 : decode cX13_press 68 = .ok (.iastore, 1) := by decide +kernel
theorem dX13_press_69 : decode cX13_press 69 = .ok (.aload_n 0, 1) := by decide +kernel
theorem dX13_press_70 : decode cX13_press 70 = .ok (.getfield 17, 3) := by decide +kernel
theorem dX13_press_73 : decode cX13_press 73 = .ok (.iconst 4, 1) := by decide +kernel
theorem dX13_press_74 : decode cX13_press 74 = .ok (.iload_n 1, 1) := by decide +kernel
theorem dX13_press_75 : decode cX13_press 75 = .ok (.iadd, 1) := by decide +kernel
theorem dX13_press_76 : decode cX13_press 76 = .ok (.dup2, 1) := by decide +kernel
theorem dX13_press_77 : decode cX13_press 77 = .ok (.iaload, 1) := by decide +kernel
theorem dX13_press_78 : decode cX13_press 78 = .ok (.iconst 1, 1) := by decide +kernel
theorem dX13_press_79 : decode cX13_press 79 = .ok (.iadd, 1) := by decide +kernel
theorem dX13_press_80 : decode cX13_press 80 = .ok (.iastore, 1) := by decide +kernel
theorem dX13_press_81 : decode cX13_press 81 = .ok (.aload_n 0, 1) := by decide +kernel
theorem dX13_press_82 : decode cX13_press 82 = .ok (.getfield 17, 3) := by decide +kernel
theorem dX13_press_85 : decode cX13_press 85 = .ok (.bipush 8, 2) := by decide +kernel
theorem dX13_press_87 : decode cX13_press 87 = .ok (.iload_n 2, 1) := by decide +kernel
theorem dX13_press_88 : decode cX13_press 88 = .ok (.iadd, 1) := by decide +kernel
theorem dX13_press_89 : decode cX13_press 89 = .ok (.dup2, 1) := by decide +kernel
theorem dX13_press_90 : decode cX13_press 90 = .ok (.iaload, 1) := by decide +kernel
theorem dX13_press_91 : decode cX13_press 91 = .ok (.iconst 1, 1) := by decide +kernel
theorem dX13_press_92 : decode cX13_press 92 = .ok (.iadd, 1) := by decide +kernel
theorem dX13_press_93 : decode cX13_press 93 = .ok (.iastore, 1) := by decide +kernel
theorem dX13_press_94 : decode cX13_press 94 = .ok (.aload_n 0, 1) := by decide +kernel
theorem dX13_press_95 : decode cX13_press 95 = .ok (.getfield 17, 3) := by decide +kernel
theorem dX13_press_98 : decode cX13_press 98 = .ok (.bipush 16, 2) := by decide +kernel
theorem dX13_press_100 : decode cX13_press 100 = .ok (.iload_n 3, 1) := by decide +kernel
theorem dX13_press_101 : decode cX13_press 101 = .ok (.iadd, 1) := by decide +kernel
theorem dX13_press_102 : decode cX13_press 102 = .ok (.aload_n 0, 1) := by decide +kernel
theorem dX13_press_103 : decode cX13_press 103 = .ok (.iload_n 2, 1) := by decide +kernel
theorem dX13_press_104 : decode cX13_press 104 = .ok (.aload_n 0, 1) := by decide +kernel
theorem dX13_press_105 : decode cX13_press 105 = .ok (.iload_n 1, 1) := by decide +kernel
theorem dX13_press_106 : decode cX13_press 106 = .ok (.iload_n 3, 1) := by decide +kernel
theorem dX13_press_107 : decode cX13_press 107 = .ok (.invokevirtual 367, 3) := by decide +kernel
theorem dX13_press_110 : decode cX13_press 110 = .ok (.invokevirtual 352, 3) := by decide +kernel
theorem dX13_press_113 : decode cX13_press 113 = .ok (.iastore, 1) := by decide +kernel
theorem dX13_press_114 : decode cX13_press 114 = .ok (.aload_n 0, 1) := by decide +kernel
theorem dX13_press_115 : decode cX13_press 115 = .ok (.aload_n 0, 1) := by decide +kernel
theorem dX13_press_116 : decode cX13_press 116 = .ok (.getfield 17, 3) := by decide +kernel
theorem dX13_press_119 : decode cX13_press 119 = .ok (.bipush 16, 2) := by decide +kernel
theorem dX13_press_121 : decode cX13_press 121 = .ok (.iload_n 3, 1) := by decide +kernel
theorem dX13_press_122 : decode cX13_press 122 = .ok (.iadd, 1) := by decide +kernel
theorem dX13_press_123 : decode cX13_press 123 = .ok (.iaload, 1) := by decide +kernel
theorem dX13_press_124 : decode cX13_press 124 = .ok (.invokevirtual 58, 3) := by decide +kernel
theorem dX13_press_127 : decode cX13_press 127 = .ok (.ireturn, 1) := by decide +kernel
theorem dX13_carve_0 : decode cX13_carve 0 = .ok (.aload_n 0, 1) := by decide +kernel
theorem dX13_carve_1 : decode cX13_carve 1 = .ok (.iconst 0, 1) := by decide +kernel
theorem dX13_carve_2 : decode cX13_carve 2 = .ok (.putfield 48, 3) := by decide +kernel
theorem dX13_carve_5 : decode cX13_carve 5 = .ok (.aload_n 0, 1) := by decide +kernel
theorem dX13_carve_6 : decode cX13_carve 6 = .ok (.iload_n 1, 1) := by decide +kernel
theorem dX13_carve_7 : decode cX13_carve 7 = .ok (.invokevirtual 364, 3) := by decide +kernel
theorem dX13_carve_10 : decode cX13_carve 10 = .ok (.ifCond .ne 9, 3) := by decide +kernel
theorem dX13_carve_13 : decode cX13_carve 13 = .ok (.aload_n 0, 1) := by decide +kernel
theorem dX13_carve_14 : decode cX13_carve 14 = .ok (.iconst 1, 1) := by decide +kernel
theorem dX13_carve_15 : decode cX13_carve 15 = .ok (.invokevirtual 487, 3) := by decide +kernel
theorem dX13_carve_18 : decode cX13_carve 18 = .ok (.ireturn, 1) := by decide +kernel
theorem dX13_carve_19 : decode cX13_carve 19 = .ok (.iload_n 2, 1) := by decide +kernel
theorem dX13_carve_20 : decode cX13_carve 20 = .ok (.invokestatic 373, 3) := by decide +kernel
theorem dX13_carve_23 : decode cX13_carve 23 = .ok (.ifCond .ne 9, 3) := by decide +kernel
theorem dX13_carve_26 : decode cX13_carve 26 = .ok (.aload_n 0, 1) := by decide +kernel
theorem dX13_carve_27 : decode cX13_carve 27 = .ok (.iconst 2, 1) := by decide +kernel
theorem dX13_carve_28 : decode cX13_carve 28 = .ok (.invokevirtual 487, 3) := by decide +kernel
theorem dX13_carve_31 : decode cX13_carve 31 = .ok (.ireturn, 1) := by decide +kernel
theorem dX13_carve_32 : decode cX13_carve 32 = .ok (.aload_n 0, 1) := by decide +kernel
theorem dX13_carve_33 : decode cX13_carve 33 = .ok (.getfield 17, 3) := by decide +kernel
theorem dX13_carve_36 : decode cX13_carve 36 = .ok (.bipush 21, 2) := by decide +kernel
theorem dX13_carve_38 : decode cX13_carve 38 = .ok (.iload_n 1, 1) := by decide +kernel
theorem dX13_carve_39 : decode cX13_carve 39 = .ok (.iadd, 1) := by decide +kernel
theorem dX13_carve_40 : decode cX13_carve 40 = .ok (.iaload, 1) := by decide +kernel
theorem dX13_carve_41 : decode cX13_carve 41 = .ok (.iload_n 2, 1) := by decide +kernel
theorem dX13_carve_42 : decode cX13_carve 42 = .ok (.if_icmp .ne 9, 3) := by decide +kernel
theorem dX13_carve_45 : decode cX13_carve 45 = .ok (.aload_n 0, 1) := by decide +kernel
theorem dX13_carve_46 : decode cX13_carve 46 = .ok (.iconst 5, 1) := by decide +kernel
theorem dX13_carve_47 : decode cX13_carve 47 = .ok (.invokevirtual 487, 3) := by decide +kernel
theorem dX13_carve_50 : decode cX13_carve 50 = .ok (.ireturn, 1) := by decide +kernel
theorem dX13_carve_51 : decode cX13_carve 51 = .ok (.aload_n 0, 1) := by decide +kernel
theorem dX13_carve_52 : decode cX13_carve 52 = .ok (.invokevirtual 484, 3) := by decide +kernel
theorem dX13_carve_55 : decode cX13_carve 55 = .ok (.aload_n 0, 1) := by decide +kernel
theorem dX13_carve_56 : decode cX13_carve 56 = .ok (.getfield 17, 3) := by decide +kernel
theorem dX13_carve_59 : decode cX13_carve 59 = .ok (.bipush 21, 2) := by decide +kernel
theorem dX13_carve_61 : decode cX13_carve 61 = .ok (.iload_n 1, 1) := by decide +kernel
theorem dX13_carve_62 : decode cX13_carve 62 = .ok (.iadd, 1) := by decide +kernel
theorem dX13_carve_63 : decode cX13_carve 63 = .ok (.iload_n 2, 1) := by decide +kernel
theorem dX13_carve_64 : decode cX13_carve 64 = .ok (.iastore, 1) := by decide +kernel
theorem dX13_carve_65 : decode cX13_carve 65 = .ok (.aload_n 0, 1) := by decide +kernel
theorem dX13_carve_66 : decode cX13_carve 66 = .ok (.invokevirtual 490, 3) := by decide +kernel
theorem dX13_carve_69 : decode cX13_carve 69 = .ok (.ireturn, 1) := by decide +kernel
theorem dX13_mark_0 : decode cX13_mark 0 = .ok (.aload_n 0, 1) := by decide +kernel
theorem dX13_mark_1 : decode cX13_mark 1 = .ok (.iconst 0, 1) := by decide +kernel
theorem dX13_mark_2 : decode cX13_mark 2 = .ok (.putfield 48, 3) := by decide +kernel
theorem dX13_mark_5 : decode cX13_mark 5 = .ok (.aload_n 0, 1) := by decide +kernel
theorem dX13_mark_6 : decode cX13_mark 6 = .ok (.iload_n 1, 1) := by decide +kernel
theorem dX13_mark_7 : decode cX13_mark 7 = .ok (.invokevirtual 355, 3) := by decide +kernel
theorem dX13_mark_10 : decode cX13_mark 10 = .ok (.ifCond .eq 18, 3) := by decide +kernel
theorem dX13_mark_13 : decode cX13_mark 13 = .ok (.iload_n 2, 1) := by decide +kernel
theorem dX13_mark_14 : decode cX13_mark 14 = .ok (.ifCond .lt 14, 3) := by decide +kernel
theorem dX13_mark_17 : decode cX13_mark 17 = .ok (.iload_n 2, 1) := by decide +kernel
theorem dX13_mark_18 : decode cX13_mark 18 = .ok (.aload_n 0, 1) := by decide +kernel
theorem dX13_mark_19 : decode cX13_mark 19 = .ok (.getfield 338, 3) := by decide +kernel
theorem dX13_mark_22 : decode cX13_mark 22 = .ok (.getfield 238, 3) := by decide +kernel
theorem dX13_mark_25 : decode cX13_mark 25 = .ok (.if_icmp .lt 9, 3) := by decide +kernel
theorem dX13_mark_28 : decode cX13_mark 28 = .ok (.aload_n 0, 1) := by decide +kernel
theorem dX13_mark_29 : decode cX13_mark 29 = .ok (.iconst 1, 1) := by decide +kernel
theorem dX13_mark_30 : decode cX13_mark 30 = .ok (.invokevirtual 487, 3) := by decide +kernel
theorem dX13_mark_33 : decode cX13_mark 33 = .ok (.ireturn, 1) := by decide +kernel
theorem dX13_mark_34 : decode cX13_mark 34 = .ok (.aload_n 0, 1) := by decide +kernel
theorem dX13_mark_35 : decode cX13_mark 35 = .ok (.getfield 17, 3) := by decide +kernel
theorem dX13_mark_38 : decode cX13_mark 38 = .ok (.bipush 11, 2) := by decide +kernel
theorem dX13_mark_40 : decode cX13_mark 40 = .ok (.iload_n 1, 1) := by decide +kernel
theorem dX13_mark_41 : decode cX13_mark 41 = .ok (.iadd, 1) := by decide +kernel
theorem dX13_mark_42 : decode cX13_mark 42 = .ok (.iaload, 1) := by decide +kernel
theorem dX13_mark_43 : decode cX13_mark 43 = .ok (.iload_n 2, 1) := by decide +kernel
theorem dX13_mark_44 : decode cX13_mark 44 = .ok (.invokestatic 199, 3) := by decide +kernel
theorem dX13_mark_47 : decode cX13_mark 47 = .ok (.iload_n 3, 1) := by decide +kernel
theorem dX13_mark_48 : decode cX13_mark 48 = .ok (.if_icmp .ne 9, 3) := by decide +kernel
theorem dX13_mark_51 : decode cX13_mark 51 = .ok (.aload_n 0, 1) := by decide +kernel
theorem dX13_mark_52 : decode cX13_mark 52 = .ok (.iconst 5, 1) := by decide +kernel
theorem dX13_mark_53 : decode cX13_mark 53 = .ok (.invokevirtual 487, 3) := by decide +kernel
theorem dX13_mark_56 : decode cX13_mark 56 = .ok (.ireturn, 1) := by decide +kernel
theorem dX13_mark_57 : decode cX13_mark 57 = .ok (.aload_n 0, 1) := by decide +kernel
theorem dX13_mark_58 : decode cX13_mark 58 = .ok (.invokevirtual 484, 3) := by decide +kernel
theorem dX13_mark_61 : decode cX13_mark 61 = .ok (.aload_n 0, 1) := by decide +kernel
theorem dX13_mark_62 : decode cX13_mark 62 = .ok (.getfield 17, 3) := by decide +kernel
theorem dX13_mark_65 : decode cX13_mark 65 = .ok (.bipush 11, 2) := by decide +kernel
theorem dX13_mark_67 : decode cX13_mark 67 = .ok (.iload_n 1, 1) := by decide +kernel
theorem dX13_mark_68 : decode cX13_mark 68 = .ok (.iadd, 1) := by decide +kernel
theorem dX13_mark_69 : decode cX13_mark 69 = .ok (.dup2, 1) := by decide +kernel
theorem dX13_mark_70 : decode cX13_mark 70 = .ok (.iaload, 1) := by decide +kernel
theorem dX13_mark_71 : decode cX13_mark 71 = .ok (.iconst 1, 1) := by decide +kernel
theorem dX13_mark_72 : decode cX13_mark 72 = .ok (.iload_n 2, 1) := by decide +kernel
theorem dX13_mark_73 : decode cX13_mark 73 = .ok (.ishl, 1) := by decide +kernel
theorem dX13_mark_74 : decode cX13_mark 74 = .ok (.ixor, 1) := by decide +kernel
theorem dX13_mark_75 : decode cX13_mark 75 = .ok (.iastore, 1) := by decide +kernel
theorem dX13_mark_76 : decode cX13_mark 76 = .ok (.aload_n 0, 1) := by decide +kernel
theorem dX13_mark_77 : decode cX13_mark 77 = .ok (.invokevirtual 490, 3) := by decide +kernel
theorem dX13_mark_80 : decode cX13_mark 80 = .ok (.ireturn, 1) := by decide +kernel
theorem dX13_fill_0 : decode cX13_fill 0 = .ok (.aload_n 0, 1) := by decide +kernel
theorem dX13_fill_1 : decode cX13_fill 1 = .ok (.iconst 0, 1) := by decide +kernel
theorem dX13_fill_2 : decode cX13_fill 2 = .ok (.putfield 48, 3) := by decide +kernel
theorem dX13_fill_5 : decode cX13_fill 5 = .ok (.aload_n 0, 1) := by decide +kernel
theorem dX13_fill_6 : decode cX13_fill 6 = .ok (.iload_n 1, 1) := by decide +kernel
theorem dX13_fill_7 : decode cX13_fill 7 = .ok (.invokevirtual 358, 3) := by decide +kernel
theorem dX13_fill_10 : decode cX13_fill 10 = .ok (.ifCond .ne 9, 3) := by decide +kernel
theorem dX13_fill_13 : decode cX13_fill 13 = .ok (.aload_n 0, 1) := by decide +kernel
theorem dX13_fill_14 : decode cX13_fill 14 = .ok (.iconst 1, 1) := by decide +kernel
theorem dX13_fill_15 : decode cX13_fill 15 = .ok (.invokevirtual 487, 3) := by decide +kernel
theorem dX13_fill_18 : decode cX13_fill 18 = .ok (.ireturn, 1) := by decide +kernel
theorem dX13_fill_19 : decode cX13_fill 19 = .ok (.iload_n 2, 1) := by decide +kernel
theorem dX13_fill_20 : decode cX13_fill 20 = .ok (.iconst 1, 1) := by decide +kernel
theorem dX13_fill_21 : decode cX13_fill 21 = .ok (.bipush 9, 2) := by decide +kernel
theorem dX13_fill_23 : decode cX13_fill 23 = .ok (.invokestatic 127, 3) := by decide +kernel
theorem dX13_fill_26 : decode cX13_fill 26 = .ok (.ifCond .ne 9, 3) := by decide +kernel
theorem dX13_fill_29 : decode cX13_fill 29 = .ok (.aload_n 0, 1) := by decide +kernel
theorem dX13_fill_30 : decode cX13_fill 30 = .ok (.iconst 2, 1) := by decide +kernel
theorem dX13_fill_31 : decode cX13_fill 31 = .ok (.invokevirtual 487, 3) := by decide +kernel
theorem dX13_fill_34 : decode cX13_fill 34 = .ok (.ireturn, 1) := by decide +kernel
theorem dX13_fill_35 : decode cX13_fill 35 = .ok (.aload_n 0, 1) := by decide +kernel
theorem dX13_fill_36 : decode cX13_fill 36 = .ok (.getfield 17, 3) := by decide +kernel
theorem dX13_fill_39 : decode cX13_fill 39 = .ok (.iconst 0, 1) := by decide +kernel
theorem dX13_fill_40 : decode cX13_fill 40 = .ok (.iload_n 1, 1) := by decide +kernel
theorem dX13_fill_41 : decode cX13_fill 41 = .ok (.iadd, 1) := by decide +kernel
theorem dX13_fill_42 : decode cX13_fill 42 = .ok (.iaload, 1) := by decide +kernel
theorem dX13_fill_43 : decode cX13_fill 43 = .ok (.iload_n 2, 1) := by decide +kernel
theorem dX13_fill_44 : decode cX13_fill 44 = .ok (.if_icmp .lt 9, 3) := by decide +kernel
theorem dX13_fill_47 : decode cX13_fill 47 = .ok (.aload_n 0, 1) := by decide +kernel
theorem dX13_fill_48 : decode cX13_fill 48 = .ok (.iconst 5, 1) := by decide +kernel
theorem dX13_fill_49 : decode cX13_fill 49 = .ok (.invokevirtual 487, 3) := by decide +kernel
theorem dX13_fill_52 : decode cX13_fill 52 = .ok (.ireturn, 1) := by decide +kernel
theorem dX13_fill_53 : decode cX13_fill 53 = .ok (.aload_n 0, 1) := by decide +kernel
theorem dX13_fill_54 : decode cX13_fill 54 = .ok (.invokevirtual 484, 3) := by decide +kernel
theorem dX13_fill_57 : decode cX13_fill 57 = .ok (.aload_n 0, 1) := by decide +kernel
theorem dX13_fill_58 : decode cX13_fill 58 = .ok (.getfield 17, 3) := by decide +kernel
theorem dX13_fill_61 : decode cX13_fill 61 = .ok (.iconst 0, 1) := by decide +kernel
theorem dX13_fill_62 : decode cX13_fill 62 = .ok (.iload_n 1, 1) := by decide +kernel
theorem dX13_fill_63 : decode cX13_fill 63 = .ok (.iadd, 1) := by decide +kernel
theorem dX13_fill_64 : decode cX13_fill 64 = .ok (.iload_n 2, 1) := by decide +kernel
theorem dX13_fill_65 : decode cX13_fill 65 = .ok (.iastore, 1) := by decide +kernel
theorem dX13_fill_66 : decode cX13_fill 66 = .ok (.aload_n 0, 1) := by decide +kernel
theorem dX13_fill_67 : decode cX13_fill 67 = .ok (.invokevirtual 490, 3) := by decide +kernel
theorem dX13_fill_70 : decode cX13_fill 70 = .ok (.ireturn, 1) := by decide +kernel
theorem dX13_undo_0 : decode cX13_undo 0 = .ok (.aload_n 0, 1) := by decide +kernel
theorem dX13_undo_1 : decode cX13_undo 1 = .ok (.iconst 0, 1) := by decide +kernel
theorem dX13_undo_2 : decode cX13_undo 2 = .ok (.putfield 48, 3) := by decide +kernel
theorem dX13_undo_5 : decode cX13_undo 5 = .ok (.aload_n 0, 1) := by decide +kernel
theorem dX13_undo_6 : decode cX13_undo 6 = .ok (.getfield 338, 3) := by decide +kernel
theorem dX13_undo_9 : decode cX13_undo 9 = .ok (.ifnull 10, 3) := by decide +kernel
theorem dX13_undo_12 : decode cX13_undo 12 = .ok (.aload_n 0, 1) := by decide +kernel
theorem dX13_undo_13 : decode cX13_undo 13 = .ok (.getfield 340, 3) := by decide +kernel
theorem dX13_undo_16 : decode cX13_undo 16 = .ok (.ifCond .ne 10, 3) := by decide +kernel
theorem dX13_undo_19 : decode cX13_undo 19 = .ok (.aload_n 0, 1) := by decide +kernel
theorem dX13_undo_20 : decode cX13_undo 20 = .ok (.bipush 6, 2) := by decide +kernel
theorem dX13_undo_22 : decode cX13_undo 22 = .ok (.invokevirtual 487, 3) := by decide +kernel
theorem dX13_undo_25 : decode cX13_undo 25 = .ok (.ireturn, 1) := by decide +kernel
theorem dX13_undo_26 : decode cX13_undo 26 = .ok (.aload_n 0, 1) := by decide +kernel
theorem dX13_undo_27 : decode cX13_undo 27 = .ok (.dup, 1) := by decide +kernel
theorem dX13_undo_28 : decode cX13_undo 28 = .ok (.getfield 340, 3) := by decide +kernel
theorem dX13_undo_31 : decode cX13_undo 31 = .ok (.iconst 1, 1) := by decide +kernel
theorem dX13_undo_32 : decode cX13_undo 32 = .ok (.isub, 1) := by decide +kernel
theorem dX13_undo_33 : decode cX13_undo 33 = .ok (.putfield 340, 3) := by decide +kernel
theorem dX13_undo_36 : decode cX13_undo 36 = .ok (.iconst 0, 1) := by decide +kernel
theorem dX13_undo_37 : decode cX13_undo 37 = .ok (.istore_n 1, 1) := by decide +kernel
theorem dX13_undo_38 : decode cX13_undo 38 = .ok (.iload_n 1, 1) := by decide +kernel
theorem dX13_undo_39 : decode cX13_undo 39 = .ok (.bipush 31, 2) := by decide +kernel
theorem dX13_undo_41 : decode cX13_undo 41 = .ok (.if_icmp .ge 29, 3) := by decide +kernel
theorem dX13_undo_44 : decode cX13_undo 44 = .ok (.aload_n 0, 1) := by decide +kernel
theorem dX13_undo_45 : decode cX13_undo 45 = .ok (.getfield 17, 3) := by decide +kernel
theorem dX13_undo_48 : decode cX13_undo 48 = .ok (.iload_n 1, 1) := by decide +kernel
theorem dX13_undo_49 : decode cX13_undo 49 = .ok (.aload_n 0, 1) := by decide +kernel
theorem dX13_undo_50 : decode cX13_undo 50 = .ok (.getfield 21, 3) := by decide +kernel
theorem dX13_undo_53 : decode cX13_undo 53 = .ok (.bipush 31, 2) := by decide +kernel
theorem dX13_undo_55 : decode cX13_undo 55 = .ok (.aload_n 0, 1) := by decide +kernel
theorem dX13_undo_56 : decode cX13_undo 56 = .ok (.getfield 340, 3) := by decide +kernel
theorem dX13_undo_59 : decode cX13_undo 59 = .ok (.imul, 1) := by decide +kernel
theorem dX13_undo_60 : decode cX13_undo 60 = .ok (.iload_n 1, 1) := by decide +kernel
theorem dX13_undo_61 : decode cX13_undo 61 = .ok (.iadd, 1) := by decide +kernel
theorem dX13_undo_62 : decode cX13_undo 62 = .ok (.iaload, 1) := by decide +kernel
theorem dX13_undo_63 : decode cX13_undo 63 = .ok (.iastore, 1) := by decide +kernel
theorem dX13_undo_64 : decode cX13_undo 64 = .ok (.iinc 1 1, 3) := by decide +kernel
theorem dX13_undo_67 : decode cX13_undo 67 = .ok (.goto (-29), 3) := by decide +kernel
theorem dX13_undo_70 : decode cX13_undo 70 = .ok (.aload_n 0, 1) := by decide +kernel
theorem dX13_undo_71 : decode cX13_undo 71 = .ok (.invokevirtual 490, 3) := by decide +kernel
theorem dX13_undo_74 : decode cX13_undo 74 = .ok (.ireturn, 1) := by decide +kernel
theorem dX13_image_0 : decode cX13_image 0 = .ok (.aload_n 0, 1) := by decide +kernel
theorem dX13_image_1 : decode cX13_image 1 = .ok (.iconst 0, 1) := by decide +kernel
theorem dX13_image_2 : decode cX13_image 2 = .ok (.putfield 48, 3) := by decide +kernel
theorem dX13_image_5 : decode cX13_image 5 = .ok (.aload_n 0, 1) := by decide +kernel
theorem dX13_image_6 : decode cX13_image 6 = .ok (.getfield 338, 3) := by decide +kernel
theorem dX13_image_9 : decode cX13_image 9 = .ok (.ifnonnull 9, 3) := by decide +kernel
theorem dX13_image_12 : decode cX13_image 12 = .ok (.aload_n 0, 1) := by decide +kernel
theorem dX13_image_13 : decode cX13_image 13 = .ok (.iconst 1, 1) := by decide +kernel
theorem dX13_image_14 : decode cX13_image 14 = .ok (.invokevirtual 54, 3) := by decide +kernel
theorem dX13_image_17 : decode cX13_image 17 = .ok (.ireturn, 1) := by decide +kernel
theorem dX13_image_18 : decode cX13_image 18 = .ok (.aload_n 0, 1) := by decide +kernel
theorem dX13_image_19 : decode cX13_image 19 = .ok (.getfield 343, 3) := by decide +kernel
theorem dX13_image_22 : decode cX13_image 22 = .ok (.iconst 3, 1) := by decide +kernel
theorem dX13_image_23 : decode cX13_image 23 = .ok (.if_icmp .ne 9, 3) := by decide +kernel
theorem dX13_image_26 : decode cX13_image 26 = .ok (.aload_n 0, 1) := by decide +kernel
theorem dX13_image_27 : decode cX13_image 27 = .ok (.iconst 3, 1) := by decide +kernel
theorem dX13_image_28 : decode cX13_image 28 = .ok (.invokevirtual 54, 3) := by decide +kernel
theorem dX13_image_31 : decode cX13_image 31 = .ok (.ireturn, 1) := by decide +kernel
theorem dX13_image_32 : decode cX13_image 32 = .ok (.iconst 0, 1) := by decide +kernel
theorem dX13_image_33 : decode cX13_image 33 = .ok (.istore_n 1, 1) := by decide +kernel
theorem dX13_image_34 : decode cX13_image 34 = .ok (.iload_n 1, 1) := by decide +kernel
theorem dX13_image_35 : decode cX13_image 35 = .ok (.bipush 31, 2) := by decide +kernel
theorem dX13_image_37 : decode cX13_image 37 = .ok (.if_icmp .ge 29, 3) := by decide +kernel
theorem dX13_image_40 : decode cX13_image 40 = .ok (.aload_n 0, 1) := by decide +kernel
theorem dX13_image_41 : decode cX13_image 41 = .ok (.getfield 24, 3) := by decide +kernel
theorem dX13_image_44 : decode cX13_image 44 = .ok (.bipush 31, 2) := by decide +kernel
theorem dX13_image_46 : decode cX13_image 46 = .ok (.aload_n 0, 1) := by decide +kernel
theorem dX13_image_47 : decode cX13_image 47 = .ok (.getfield 343, 3) := by decide +kernel
theorem dX13_image_50 : decode cX13_image 50 = .ok (.imul, 1) := by decide +kernel
theorem dX13_image_51 : decode cX13_image 51 = .ok (.iload_n 1, 1) := by decide +kernel
theorem dX13_image_52 : decode cX13_image 52 = .ok (.iadd, 1) := by decide +kernel
theorem dX13_image_53 : decode cX13_image 53 = .ok (.aload_n 0, 1) := by decide +kernel
theorem dX13_image_54 : decode cX13_image 54 = .ok (.getfield 17, 3) := by decide +kernel
theorem dX13_image_57 : decode cX13_image 57 = .ok (.iload_n 1, 1) := by decide +kernel
theorem dX13_image_58 : decode cX13_image 58 = .ok (.iaload, 1) := by decide +kernel
theorem dX13_image_59 : decode cX13_image 59 = .ok (.iastore, 1) := by decide +kernel
theorem dX13_image_60 : decode cX13_image 60 = .ok (.iinc 1 1, 3) := by decide +kernel
theorem dX13_image_63 : decode cX13_image 63 = .ok (.goto (-29), 3) := by decide +kernel
theorem dX13_image_66 : decode cX13_image 66 = .ok (.aload_n 0, 1) := by decide +kernel
theorem dX13_image_67 : decode cX13_image 67 = .ok (.dup, 1) := by decide +kernel
theorem dX13_image_68 : decode cX13_image 68 = .ok (.getfield 343, 3) := by decide +kernel
theorem dX13_image_71 : decode cX13_image 71 = .ok (.iconst 1, 1) := by decide +kernel
theorem dX13_image_72 : decode cX13_image 72 = .ok (.iadd, 1) := by decide +kernel
theorem dX13_image_73 : decode cX13_image 73 = .ok (.putfield 343, 3) := by decide +kernel
theorem dX13_image_76 : decode cX13_image 76 = .ok (.aload_n 0, 1) := by decide +kernel
theorem dX13_image_77 : decode cX13_image 77 = .ok (.aload_n 0, 1) := by decide +kernel
theorem dX13_image_78 : decode cX13_image 78 = .ok (.getfield 343, 3) := by decide +kernel
theorem dX13_image_81 : decode cX13_image 81 = .ok (.iconst 1, 1) := by decide +kernel
theorem dX13_image_82 : decode cX13_image 82 = .ok (.isub, 1) := by decide +kernel
theorem dX13_image_83 : decode cX13_image 83 = .ok (.invokevirtual 58, 3) := by decide +kernel
theorem dX13_image_86 : decode cX13_image 86 = .ok (.ireturn, 1) := by decide +kernel
theorem dX13_back_0 : decode cX13_back 0 = .ok (.aload_n 0, 1) := by decide +kernel
theorem dX13_back_1 : decode cX13_back 1 = .ok (.iconst 0, 1) := by decide +kernel
theorem dX13_back_2 : decode cX13_back 2 = .ok (.putfield 48, 3) := by decide +kernel
theorem dX13_back_5 : decode cX13_back 5 = .ok (.aload_n 0, 1) := by decide +kernel
theorem dX13_back_6 : decode cX13_back 6 = .ok (.getfield 338, 3) := by decide +kernel
theorem dX13_back_9 : decode cX13_back 9 = .ok (.ifnull 15, 3) := by decide +kernel
theorem dX13_back_12 : decode cX13_back 12 = .ok (.iload_n 1, 1) := by decide +kernel
theorem dX13_back_13 : decode cX13_back 13 = .ok (.ifCond .lt 11, 3) := by decide +kernel
theorem dX13_back_16 : decode cX13_back 16 = .ok (.iload_n 1, 1) := by decide +kernel
theorem dX13_back_17 : decode cX13_back 17 = .ok (.aload_n 0, 1) := by decide +kernel
theorem dX13_back_18 : decode cX13_back 18 = .ok (.getfield 343, 3) := by decide +kernel
theorem dX13_back_21 : decode cX13_back 21 = .ok (.if_icmp .lt 9, 3) := by decide +kernel
theorem dX13_back_24 : decode cX13_back 24 = .ok (.aload_n 0, 1) := by decide +kernel
theorem dX13_back_25 : decode cX13_back 25 = .ok (.iconst 1, 1) := by decide +kernel
theorem dX13_back_26 : decode cX13_back 26 = .ok (.invokevirtual 487, 3) := by decide +kernel
theorem dX13_back_29 : decode cX13_back 29 = .ok (.ireturn, 1) := by decide +kernel
theorem dX13_back_30 : decode cX13_back 30 = .ok (.iconst 0, 1) := by decide +kernel
theorem dX13_back_31 : decode cX13_back 31 = .ok (.istore_n 2, 1) := by decide +kernel
theorem dX13_back_32 : decode cX13_back 32 = .ok (.iload_n 2, 1) := by decide +kernel
theorem dX13_back_33 : decode cX13_back 33 = .ok (.bipush 31, 2) := by decide +kernel
theorem dX13_back_35 : decode cX13_back 35 = .ok (.if_icmp .ge 26, 3) := by decide +kernel
theorem dX13_back_38 : decode cX13_back 38 = .ok (.aload_n 0, 1) := by decide +kernel
theorem dX13_back_39 : decode cX13_back 39 = .ok (.getfield 17, 3) := by decide +kernel
theorem dX13_back_42 : decode cX13_back 42 = .ok (.iload_n 2, 1) := by decide +kernel
theorem dX13_back_43 : decode cX13_back 43 = .ok (.aload_n 0, 1) := by decide +kernel
theorem dX13_back_44 : decode cX13_back 44 = .ok (.getfield 24, 3) := by decide +kernel
theorem dX13_back_47 : decode cX13_back 47 = .ok (.bipush 31, 2) := by decide +kernel
theorem dX13_back_49 : decode cX13_back 49 = .ok (.iload_n 1, 1) := by decide +kernel
theorem dX13_back_50 : decode cX13_back 50 = .ok (.imul, 1) := by decide +kernel
theorem dX13_back_51 : decode cX13_back 51 = .ok (.iload_n 2, 1) := by decide +kernel
theorem dX13_back_52 : decode cX13_back 52 = .ok (.iadd, 1) := by decide +kernel
theorem dX13_back_53 : decode cX13_back 53 = .ok (.iaload, 1) := by decide +kernel
theorem dX13_back_54 : decode cX13_back 54 = .ok (.iastore, 1) := by decide +kernel
theorem dX13_back_55 : decode cX13_back 55 = .ok (.iinc 2 1, 3) := by decide +kernel
theorem dX13_back_58 : decode cX13_back 58 = .ok (.goto (-26), 3) := by decide +kernel
theorem dX13_back_61 : decode cX13_back 61 = .ok (.aload_n 0, 1) := by decide +kernel
theorem dX13_back_62 : decode cX13_back 62 = .ok (.iconst 0, 1) := by decide +kernel
theorem dX13_back_63 : decode cX13_back 63 = .ok (.putfield 340, 3) := by decide +kernel
theorem dX13_back_66 : decode cX13_back 66 = .ok (.aload_n 0, 1) := by decide +kernel
theorem dX13_back_67 : decode cX13_back 67 = .ok (.invokevirtual 490, 3) := by decide +kernel
theorem dX13_back_70 : decode cX13_back 70 = .ok (.ireturn, 1) := by decide +kernel
theorem dX13_led_0 : decode cX13_led 0 = .ok (.aload_n 0, 1) := by decide +kernel
theorem dX13_led_1 : decode cX13_led 1 = .ok (.iconst 0, 1) := by decide +kernel
theorem dX13_led_2 : decode cX13_led 2 = .ok (.putfield 48, 3) := by decide +kernel
theorem dX13_led_5 : decode cX13_led 5 = .ok (.iconst 0, 1) := by decide +kernel
theorem dX13_led_6 : decode cX13_led 6 = .ok (.istore_n 2, 1) := by decide +kernel
theorem dX13_led_7 : decode cX13_led 7 = .ok (.iconst 0, 1) := by decide +kernel
theorem dX13_led_8 : decode cX13_led 8 = .ok (.istore_n 3, 1) := by decide +kernel
theorem dX13_led_9 : decode cX13_led 9 = .ok (.aload_n 0, 1) := by decide +kernel
theorem dX13_led_10 : decode cX13_led 10 = .ok (.getfield 338, 3) := by decide +kernel
theorem dX13_led_13 : decode cX13_led 13 = .ok (.ifnull 46, 3) := by decide +kernel
theorem dX13_led_16 : decode cX13_led 16 = .ok (.iload_n 3, 1) := by decide +kernel
theorem dX13_led_17 : decode cX13_led 17 = .ok (.aload_n 0, 1) := by decide +kernel
theorem dX13_led_18 : decode cX13_led 18 = .ok (.getfield 338, 3) := by decide +kernel
theorem dX13_led_21 : decode cX13_led 21 = .ok (.getfield 206, 3) := by decide +kernel
theorem dX13_led_24 : decode cX13_led 24 = .ok (.if_icmp .ge 35, 3) := by decide +kernel
theorem dX13_led_27 : decode cX13_led 27 = .ok (.aload_n 0, 1) := by decide +kernel
theorem dX13_led_28 : decode cX13_led 28 = .ok (.getfield 17, 3) := by decide +kernel
theorem dX13_led_31 : decode cX13_led 31 = .ok (.bipush 16, 2) := by decide +kernel
theorem dX13_led_33 : decode cX13_led 33 = .ok (.iload_n 3, 1) := by decide +kernel
theorem dX13_led_34 : decode cX13_led 34 = .ok (.iadd, 1) := by decide +kernel
theorem dX13_led_35 : decode cX13_led 35 = .ok (.iaload, 1) := by decide +kernel
theorem dX13_led_36 : decode cX13_led 36 = .ok (.iconst 1, 1) := by decide +kernel
theorem dX13_led_37 : decode cX13_led 37 = .ok (.if_icmp .eq 6, 3) := by decide +kernel
theorem dX13_led_40 : decode cX13_led 40 = .ok (.goto 13, 3) := by decide +kernel
theorem dX13_led_43 : decode cX13_led 43 = .ok (.iload_n 2, 1) := by decide +kernel
theorem dX13_led_44 : decode cX13_led 44 = .ok (.iload_n 1, 1) := by decide +kernel
theorem dX13_led_45 : decode cX13_led 45 = .ok (.if_icmp .ne 5, 3) := by decide +kernel
theorem dX13_led_48 : decode cX13_led 48 = .ok (.iload_n 3, 1) := by decide +kernel
theorem dX13_led_49 : decode cX13_led 49 = .ok (.ireturn, 1) := by decide +kernel
theorem dX13_led_50 : decode cX13_led 50 = .ok (.iinc 2 1, 3) := by decide +kernel
theorem dX13_led_53 : decode cX13_led 53 = .ok (.iinc 3 1, 3) := by decide +kernel
theorem dX13_led_56 : decode cX13_led 56 = .ok (.goto (-47), 3) := by decide +kernel
theorem dX13_led_59 : decode cX13_led 59 = .ok (.aload_n 0, 1) := by decide +kernel
theorem dX13_led_60 : decode cX13_led 60 = .ok (.iconst 1, 1) := by decide +kernel
theorem dX13_led_61 : decode cX13_led 61 = .ok (.putfield 48, 3) := by decide +kernel
theorem dX13_led_64 : decode cX13_led 64 = .ok (.iconst 0, 1) := by decide +kernel
theorem dX13_led_65 : decode cX13_led 65 = .ok (.ireturn, 1) := by decide +kernel
theorem dX13_pressedAll_0 : decode cX13_pressedAll 0 = .ok (.iconst 0, 1) := by decide +kernel
theorem dX13_pressedAll_1 : decode cX13_pressedAll 1 = .ok (.istore_n 1, 1) := by decide +kernel
theorem dX13_pressedAll_2 : decode cX13_pressedAll 2 = .ok (.iconst 0, 1) := by decide +kernel
theorem dX13_pressedAll_3 : decode cX13_pressedAll 3 = .ok (.istore_n 2, 1) := by decide +kernel
theorem dX13_pressedAll_4 : decode cX13_pressedAll 4 = .ok (.iload_n 2, 1) := by decide +kernel
theorem dX13_pressedAll_5 : decode cX13_pressedAll 5 = .ok (.iconst 4, 1) := by decide +kernel
theorem dX13_pressedAll_6 : decode cX13_pressedAll 6 = .ok (.if_icmp .ge 20, 3) := by decide +kernel
theorem dX13_pressedAll_9 : decode cX13_pressedAll 9 = .ok (.iload_n 1, 1) := by decide +kernel
theorem dX13_pressedAll_10 : decode cX13_pressedAll 10 = .ok (.aload_n 0, 1) := by decide +kernel
theorem dX13_pressedAll_11 : decode cX13_pressedAll 11 = .ok (.getfield 17, 3) := by decide +kernel
theorem dX13_pressedAll_14 : decode cX13_pressedAll 14 = .ok (.iconst 4, 1) := by decide +kernel
theorem dX13_pressedAll_15 : decode cX13_pressedAll 15 = .ok (.iload_n 2, 1) := by decide +kernel
theorem dX13_pressedAll_16 : decode cX13_pressedAll 16 = .ok (.iadd, 1) := by decide +kernel
theorem dX13_pressedAll_17 : decode cX13_pressedAll 17 = .ok (.iaload, 1) := by decide +kernel
theorem dX13_pressedAll_18 : decode cX13_pressedAll 18 = .ok (.iadd, 1) := by decide +kernel
theorem dX13_pressedAll_19 : decode cX13_pressedAll 19 = .ok (.istore_n 1, 1) := by decide +kernel
theorem dX13_pressedAll_20 : decode cX13_pressedAll 20 = .ok (.iinc 2 1, 3) := by decide +kernel
theorem dX13_pressedAll_23 : decode cX13_pressedAll 23 = .ok (.goto (-19), 3) := by decide +kernel
theorem dX13_pressedAll_26 : decode cX13_pressedAll 26 = .ok (.iload_n 1, 1) := by decide +kernel
theorem dX13_pressedAll_27 : decode cX13_pressedAll 27 = .ok (.ireturn, 1) := by decide +kernel
theorem dX13_size_0 : decode cX13_size 0 = .ok (.aload_n 0, 1) := by decide +kernel
theorem dX13_size_1 : decode cX13_size 1 = .ok (.iconst 0, 1) := by decide +kernel
theorem dX13_size_2 : decode cX13_size 2 = .ok (.putfield 48, 3) := by decide +kernel
theorem dX13_size_5 : decode cX13_size 5 = .ok (.iload_n 1, 1) := by decide +kernel
theorem dX13_size_6 : decode cX13_size 6 = .ok (.bipush 11, 2) := by decide +kernel
theorem dX13_size_8 : decode cX13_size 8 = .ok (.if_icmp .ne 8, 3) := by decide +kernel
theorem dX13_size_11 : decode cX13_size 11 = .ok (.aload_n 0, 1) := by decide +kernel
theorem dX13_size_12 : decode cX13_size 12 = .ok (.getfield 331, 3) := by decide +kernel
theorem dX13_size_15 : decode cX13_size 15 = .ok (.ireturn, 1) := by decide +kernel
theorem dX13_size_16 : decode cX13_size 16 = .ok (.iload_n 1, 1) := by decide +kernel
theorem dX13_size_17 : decode cX13_size 17 = .ok (.iconst 0, 1) := by decide +kernel
theorem dX13_size_18 : decode cX13_size 18 = .ok (.bipush 10, 2) := by decide +kernel
theorem dX13_size_20 : decode cX13_size 20 = .ok (.invokestatic 127, 3) := by decide +kernel
theorem dX13_size_23 : decode cX13_size 23 = .ok (.ifCond .ne 5, 3) := by decide +kernel
theorem dX13_size_26 : decode cX13_size 26 = .ok (.iconst (-1), 1) := by decide +kernel
theorem dX13_size_27 : decode cX13_size 27 = .ok (.ireturn, 1) := by decide +kernel
theorem dX13_size_28 : decode cX13_size 28 = .ok (.aload_n 0, 1) := by decide +kernel
theorem dX13_size_29 : decode cX13_size 29 = .ok (.getfield 338, 3) := by decide +kernel
theorem dX13_size_32 : decode cX13_size 32 = .ok (.ifnonnull 5, 3) := by decide +kernel
theorem dX13_size_35 : decode cX13_size 35 = .ok (.iconst 0, 1) := by decide +kernel
theorem dX13_size_36 : decode cX13_size 36 = .ok (.ireturn, 1) := by decide +kernel
theorem dX13_size_37 : decode cX13_size 37 = .ok (.iload_n 1, 1) := by decide +kernel
theorem dX13_size_38 : decode cX13_size 38 = .ok (.tableswitch 128 0 9 #[54, 62, 70, 78, 86, 94, 102, 110, 118, 123], 54) := by decide +kernel
theorem dX13_size_92 : decode cX13_size 92 = .ok (.aload_n 0, 1) := by decide +kernel
theorem dX13_size_93 : decode cX13_size 93 = .ok (.getfield 338, 3) := by decide +kernel
theorem dX13_size_96 : decode cX13_size 96 = .ok (.getfield 161, 3) := by decide +kernel
theorem dX13_size_99 : decode cX13_size 99 = .ok (.ireturn, 1) := by decide +kernel
theorem dX13_size_100 : decode cX13_size 100 = .ok (.aload_n 0, 1) := by decide +kernel
theorem dX13_size_101 : decode cX13_size 101 = .ok (.getfield 338, 3) := by decide +kernel
theorem dX13_size_104 : decode cX13_size 104 = .ok (.getfield 238, 3) := by decide +kernel
theorem dX13_size_107 : decode cX13_size 107 = .ok (.ireturn, 1) := by decide +kernel
theorem dX13_size_108 : decode cX13_size 108 = .ok (.aload_n 0, 1) := by decide +kernel
theorem dX13_size_109 : decode cX13_size 109 = .ok (.getfield 338, 3) := by decide +kernel
theorem dX13_size_112 : decode cX13_size 112 = .ok (.getfield 206, 3) := by decide +kernel
theorem dX13_size_115 : decode cX13_size 115 = .ok (.ireturn, 1) := by decide +kernel
theorem dX13_size_116 : decode cX13_size 116 = .ok (.aload_n 0, 1) := by decide +kernel
theorem dX13_size_117 : decode cX13_size 117 = .ok (.getfield 338, 3) := by decide +kernel
theorem dX13_size_120 : decode cX13_size 120 = .ok (.getfield 262, 3) := by decide +kernel
theorem dX13_size_123 : decode cX13_size 123 = .ok (.ireturn, 1) := by decide +kernel
theorem dX13_size_124 : decode cX13_size 124 = .ok (.aload_n 0, 1) := by decide +kernel
theorem dX13_size_125 : decode cX13_size 125 = .ok (.getfield 338, 3) := by decide +kernel
theorem dX13_size_128 : decode cX13_size 128 = .ok (.getfield 280, 3) := by decide +kernel
theorem dX13_size_131 : decode cX13_size 131 = .ok (.ireturn, 1) := by decide +kernel
theorem dX13_size_132 : decode cX13_size 132 = .ok (.aload_n 0, 1) := by decide +kernel
theorem dX13_size_133 : decode cX13_size 133 = .ok (.getfield 338, 3) := by decide +kernel
theorem dX13_size_136 : decode cX13_size 136 = .ok (.getfield 298, 3) := by decide +kernel
theorem dX13_size_139 : decode cX13_size 139 = .ok (.ireturn, 1) := by decide +kernel
theorem dX13_size_140 : decode cX13_size 140 = .ok (.aload_n 0, 1) := by decide +kernel
theorem dX13_size_141 : decode cX13_size 141 = .ok (.getfield 338, 3) := by decide +kernel
theorem dX13_size_144 : decode cX13_size 144 = .ok (.getfield 317, 3) := by decide +kernel
theorem dX13_size_147 : decode cX13_size 147 = .ok (.ireturn, 1) := by decide +kernel
theorem dX13_size_148 : decode cX13_size 148 = .ok (.aload_n 0, 1) := by decide +kernel
theorem dX13_size_149 : decode cX13_size 149 = .ok (.getfield 338, 3) := by decide +kernel
theorem dX13_size_152 : decode cX13_size 152 = .ok (.getfield 320, 3) := by decide +kernel
theorem dX13_size_155 : decode cX13_size 155 = .ok (.ireturn, 1) := by decide +kernel
theorem dX13_size_156 : decode cX13_size 156 = .ok (.aload_n 0, 1) := by decide +kernel
theorem dX13_size_157 : decode cX13_size 157 = .ok (.invokevirtual 493, 3) := by decide +kernel
theorem dX13_size_160 : decode cX13_size 160 = .ok (.ireturn, 1) := by decide +kernel
theorem dX13_size_161 : decode cX13_size 161 = .ok (.aload_n 0, 1) := by decide +kernel
theorem dX13_size_162 : decode cX13_size 162 = .ok (.getfield 340, 3) := by decide +kernel
theorem dX13_size_165 : decode cX13_size 165 = .ok (.ireturn, 1) := by decide +kernel
theorem dX13_size_166 : decode cX13_size 166 = .ok (.aload_n 0, 1) := by decide +kernel
theorem dX13_size_167 : decode cX13_size 167 = .ok (.getfield 343, 3) := by decide +kernel
theorem dX13_size_170 : decode cX13_size 170 = .ok (.ireturn, 1) := by decide +kernel
theorem dX13_trouble_0 : decode cX13_trouble 0 = .ok (.aload_n 0, 1) := by decide +kernel
theorem dX13_trouble_1 : decode cX13_trouble 1 = .ok (.iconst 0, 1) := by decide +kernel
theorem dX13_trouble_2 : decode cX13_trouble 2 = .ok (.putfield 48, 3) := by decide +kernel
theorem dX13_trouble_5 : decode cX13_trouble 5 = .ok (.aload_n 0, 1) := by decide +kernel
theorem dX13_trouble_6 : decode cX13_trouble 6 = .ok (.getfield 51, 3) := by decide +kernel
theorem dX13_trouble_9 : decode cX13_trouble 9 = .ok (.ireturn, 1) := by decide +kernel
