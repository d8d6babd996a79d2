theorem dX11_init_0 : decode cX11_init 0 = .ok (.aload_n 0, 1) := by decide +kernel
theorem dX11_init_1 : decode cX11_init 1 = .ok (.invokespecial 1, 3) := by decide +kernel
theorem dX11_init_4 : decode cX11_init 4 = .ok (.aload_n 0, 1) := by decide +kernel
theorem dX11_init_5 : decode cX11_init 5 = .ok (.new 7, 3) := by decide +kernel
theorem dX11_init_8 : decode cX11_init 8 = .ok (.dup, 1) := by decide +kernel
theorem dX11_init_9 : decode cX11_init 9 = .ok (.invokespecial 9, 3) := by decide +kernel
theorem dX11_init_12 : decode cX11_init 12 = .ok (.putfield 10, 3) := by decide +kernel
theorem dX11_init_15 : decode cX11_init 15 = .ok (.aload_n 0, 1) := by decide +kernel
theorem dX11_init_16 : decode cX11_init 16 = .ok (.new 16, 3) := by decide +kernel
theorem dX11_init_19 : decode cX11_init 19 = .ok (.dup, 1) := by decide +kernel
theorem dX11_init_20 : decode cX11_init 20 = .ok (.aload_n 0, 1) := by decide +kernel
theorem dX11_init_21 : decode cX11_init 21 = .ok (.getfield 10, 3) := by decide +kernel
theorem dX11_init_24 : decode cX11_init 24 = .ok (.invokespecial 18, 3) := by decide +kernel
theorem dX11_init_27 : decode cX11_init 27 = .ok (.putfield 21, 3) := by decide +kernel
theorem dX11_init_30 : decode cX11_init 30 = .ok (.aload_n 0, 1) := by decide +kernel
theorem dX11_init_31 : decode cX11_init 31 = .ok (.new 25, 3) := by decide +kernel
theorem dX11_init_34 : decode cX11_init 34 = .ok (.dup, 1) := by decide +kernel
theorem dX11_init_35 : decode cX11_init 35 = .ok (.invokespecial 27, 3) := by decide +kernel
theorem dX11_init_38 : decode cX11_init 38 = .ok (.putfield 28, 3) := by decide +kernel
theorem dX11_init_41 : decode cX11_init 41 = .ok (.aload_n 0, 1) := by decide +kernel
theorem dX11_init_42 : decode cX11_init 42 = .ok (.new 32, 3) := by decide +kernel
theorem dX11_init_45 : decode cX11_init 45 = .ok (.dup, 1) := by decide +kernel
theorem dX11_init_46 : decode cX11_init 46 = .ok (.invokespecial 34, 3) := by decide +kernel
theorem dX11_init_49 : decode cX11_init 49 = .ok (.putfield 35, 3) := by decide +kernel
theorem dX11_init_52 : decode cX11_init 52 = .ok (.aload_n 0, 1) := by decide +kernel
theorem dX11_init_53 : decode cX11_init 53 = .ok (.new 39, 3) := by decide +kernel
theorem dX11_init_56 : decode cX11_init 56 = .ok (.dup, 1) := by decide +kernel
theorem dX11_init_57 : decode cX11_init 57 = .ok (.aload_n 0, 1) := by decide +kernel
theorem dX11_init_58 : decode cX11_init 58 = .ok (.getfield 28, 3) := by decide +kernel
theorem dX11_init_61 : decode cX11_init 61 = .ok (.invokespecial 41, 3) := by decide +kernel
theorem dX11_init_64 : decode cX11_init 64 = .ok (.putfield 44, 3) := by decide +kernel
theorem dX11_init_67 : decode cX11_init 67 = .ok (.aload_n 0, 1) := by decide +kernel
theorem dX11_init_68 : decode cX11_init 68 = .ok (.new 48, 3) := by decide +kernel
theorem dX11_init_71 : decode cX11_init 71 = .ok (.dup, 1) := by decide +kernel
theorem dX11_init_72 : decode cX11_init 72 = .ok (.aload_n 0, 1) := by decide +kernel
theorem dX11_init_73 : decode cX11_init 73 = .ok (.getfield 28, 3) := by decide +kernel
theorem dX11_init_76 : decode cX11_init 76 = .ok (.invokespecial 50, 3) := by decide +kernel
theorem dX11_init_79 : decode cX11_init 79 = .ok (.putfield 51, 3) := by decide +kernel
theorem dX11_init_82 : decode cX11_init 82 = .ok (.aload_n 0, 1) := by decide +kernel
theorem dX11_init_83 : decode cX11_init 83 = .ok (.new 55, 3) := by decide +kernel
theorem dX11_init_86 : decode cX11_init 86 = .ok (.dup, 1) := by decide +kernel
theorem dX11_init_87 : decode cX11_init 87 = .ok (.aload_n 0, 1) := by decide +kernel
theorem dX11_init_88 : decode cX11_init 88 = .ok (.getfield 28, 3) := by decide +kernel
theorem dX11_init_91 : decode cX11_init 91 = .ok (.invokespecial 57, 3) := by decide +kernel
theorem dX11_init_94 : decode cX11_init 94 = .ok (.putfield 58, 3) := by decide +kernel
theorem dX11_init_97 : decode cX11_init 97 = .ok (.aload_n 0, 1) := by decide +kernel
theorem dX11_init_98 : decode cX11_init 98 = .ok (.new 62, 3) := by decide +kernel
theorem dX11_init_101 : decode cX11_init 101 = .ok (.dup, 1) := by decide +kernel
theorem dX11_init_102 : decode cX11_init 102 = .ok (.aload_n 0, 1) := by decide +kernel
theorem dX11_init_103 : decode cX11_init 103 = .ok (.getfield 28, 3) := by decide +kernel
theorem dX11_init_106 : decode cX11_init 106 = .ok (.invokespecial 64, 3) := by decide +kernel
theorem dX11_init_109 : decode cX11_init 109 = .ok (.putfield 65, 3) := by decide +kernel
theorem dX11_init_112 : decode cX11_init 112 = .ok (.aload_n 0, 1) := by decide +kernel
theorem dX11_init_113 : decode cX11_init 113 = .ok (.new 69, 3) := by decide +kernel
theorem dX11_init_116 : decode cX11_init 116 = .ok (.dup, 1) := by decide +kernel
theorem dX11_init_117 : decode cX11_init 117 = .ok (.aload_n 0, 1) := by decide +kernel
theorem dX11_init_118 : decode cX11_init 118 = .ok (.getfield 28, 3) := by decide +kernel
theorem dX11_init_121 : decode cX11_init 121 = .ok (.invokespecial 71, 3) := by decide +kernel
theorem dX11_init_124 : decode cX11_init 124 = .ok (.putfield 72, 3) := by decide +kernel
theorem dX11_init_127 : decode cX11_init 127 = .ok (.aload_n 0, 1) := by decide +kernel
theorem dX11_init_128 : decode cX11_init 128 = .ok (.iconst 0, 1) := by decide +kernel
theorem dX11_init_129 : decode cX11_init 129 = .ok (.putfield 76, 3) := by decide +kernel
theorem dX11_init_132 : decode cX11_init 132 = .ok (.aload_n 0, 1) := by decide +kernel
theorem dX11_init_133 : decode cX11_init 133 = .ok (.iconst 0, 1) := by decide +kernel
theorem dX11_init_134 : decode cX11_init 134 = .ok (.putfield 80, 3) := by decide +kernel
theorem dX11_init_137 : decode cX11_init 137 = .ok (.aload_n 0, 1) := by decide +kernel
theorem dX11_init_138 : decode cX11_init 138 = .ok (.iconst 0, 1) := by decide +kernel
theorem dX11_init_139 : decode cX11_init 139 = .ok (.putfield 84, 3) := by decide +kernel
theorem dX11_init_142 : decode cX11_init 142 = .ok (.aload_n 0, 1) := by decide +kernel
theorem dX11_init_143 : decode cX11_init 143 = .ok (.iconst (-1), 1) := by decide +kernel
theorem dX11_init_144 : decode cX11_init 144 = .ok (.putfield 87, 3) := by decide +kernel
theorem dX11_init_147 : decode cX11_init 147 = .ok (.return_, 1) := by decide +kernel
theorem dX11_feed_0 : decode cX11_feed 0 = .ok (.aload_n 0, 1) := by decide +kernel
theorem dX11_feed_1 : decode cX11_feed 1 = .ok (.getfield 10, 3) := by decide +kernel
theorem dX11_feed_4 : decode cX11_feed 4 = .ok (.invokevirtual 90, 3) := by decide +kernel
theorem dX11_feed_7 : decode cX11_feed 7 = .ok (.ifCond .ne 5, 3) := by decide +kernel
theorem dX11_feed_10 : decode cX11_feed 10 = .ok (.iconst (-1), 1) := by decide +kernel
theorem dX11_feed_11 : decode cX11_feed 11 = .ok (.ireturn, 1) := by decide +kernel
theorem dX11_feed_12 : decode cX11_feed 12 = .ok (.aload_n 0, 1) := by decide +kernel
theorem dX11_feed_13 : decode cX11_feed 13 = .ok (.getfield 10, 3) := by decide +kernel
theorem dX11_feed_16 : decode cX11_feed 16 = .ok (.iload_n 1, 1) := by decide +kernel
theorem dX11_feed_17 : decode cX11_feed 17 = .ok (.invokevirtual 94, 3) := by decide +kernel
theorem dX11_feed_20 : decode cX11_feed 20 = .ok (.aload_n 0, 1) := by decide +kernel
theorem dX11_feed_21 : decode cX11_feed 21 = .ok (.getfield 10, 3) := by decide +kernel
theorem dX11_feed_24 : decode cX11_feed 24 = .ok (.iload_n 2, 1) := by decide +kernel
theorem dX11_feed_25 : decode cX11_feed 25 = .ok (.invokevirtual 94, 3) := by decide +kernel
theorem dX11_feed_28 : decode cX11_feed 28 = .ok (.aload_n 0, 1) := by decide +kernel
theorem dX11_feed_29 : decode cX11_feed 29 = .ok (.getfield 10, 3) := by decide +kernel
theorem dX11_feed_32 : decode cX11_feed 32 = .ok (.iload_n 3, 1) := by decide +kernel
theorem dX11_feed_33 : decode cX11_feed 33 = .ok (.invokevirtual 94, 3) := by decide +kernel
theorem dX11_feed_36 : decode cX11_feed 36 = .ok (.aload_n 0, 1) := by decide +kernel
theorem dX11_feed_37 : decode cX11_feed 37 = .ok (.getfield 10, 3) := by decide +kernel
theorem dX11_feed_40 : decode cX11_feed 40 = .ok (.iload 4, 2) := by decide +kernel
theorem dX11_feed_42 : decode cX11_feed 42 = .ok (.invokevirtual 94, 3) := by decide +kernel
theorem dX11_feed_45 : decode cX11_feed 45 = .ok (.aload_n 0, 1) := by decide +kernel
theorem dX11_feed_46 : decode cX11_feed 46 = .ok (.getfield 10, 3) := by decide +kernel
theorem dX11_feed_49 : decode cX11_feed 49 = .ok (.iload 5, 2) := by decide +kernel
theorem dX11_feed_51 : decode cX11_feed 51 = .ok (.invokevirtual 94, 3) := by decide +kernel
theorem dX11_feed_54 : decode cX11_feed 54 = .ok (.aload_n 0, 1) := by decide +kernel
theorem dX11_feed_55 : decode cX11_feed 55 = .ok (.getfield 10, 3) := by decide +kernel
theorem dX11_feed_58 : decode cX11_feed 58 = .ok (.getfield 98, 3) := by decide +kernel
theorem dX11_feed_61 : decode cX11_feed 61 = .ok (.ireturn, 1) := by decide +kernel
theorem dX11_office_0 : decode cX11_office 0 = .ok (.iload_n 1, 1) := by decide +kernel
theorem dX11_office_1 : decode cX11_office 1 = .ok (.ifCond .lt 14, 3) := by decide +kernel
theorem dX11_office_4 : decode cX11_office 4 = .ok (.iload_n 1, 1) := by decide +kernel
theorem dX11_office_5 : decode cX11_office 5 = .ok (.aload_n 0, 1) := by decide +kernel
theorem dX11_office_6 : decode cX11_office 6 = .ok (.getfield 10, 3) := by decide +kernel
theorem dX11_office_9 : decode cX11_office 9 = .ok (.getfield 98, 3) := by decide +kernel
theorem dX11_office_12 : decode cX11_office 12 = .ok (.if_icmp .le 9, 3) := by decide +kernel
theorem dX11_office_15 : decode cX11_office 15 = .ok (.aload_n 0, 1) := by decide +kernel
theorem dX11_office_16 : decode cX11_office 16 = .ok (.iconst 2, 1) := by decide +kernel
theorem dX11_office_17 : decode cX11_office 17 = .ok (.invokevirtual 101, 3) := by decide +kernel
theorem dX11_office_20 : decode cX11_office 20 = .ok (.ireturn, 1) := by decide +kernel
theorem dX11_office_21 : decode cX11_office 21 = .ok (.aload_n 0, 1) := by decide +kernel
theorem dX11_office_22 : decode cX11_office 22 = .ok (.getfield 21, 3) := by decide +kernel
theorem dX11_office_25 : decode cX11_office 25 = .ok (.iload_n 1, 1) := by decide +kernel
theorem dX11_office_26 : decode cX11_office 26 = .ok (.invokevirtual 105, 3) := by decide +kernel
theorem dX11_office_29 : decode cX11_office 29 = .ok (.istore_n 2, 1) := by decide +kernel
theorem dX11_office_30 : decode cX11_office 30 = .ok (.aload_n 0, 1) := by decide +kernel
theorem dX11_office_31 : decode cX11_office 31 = .ok (.getfield 10, 3) := by decide +kernel
theorem dX11_office_34 : decode cX11_office 34 = .ok (.iconst 0, 1) := by decide +kernel
theorem dX11_office_35 : decode cX11_office 35 = .ok (.putfield 98, 3) := by decide +kernel
theorem dX11_office_38 : decode cX11_office 38 = .ok (.aload_n 0, 1) := by decide +kernel
theorem dX11_office_39 : decode cX11_office 39 = .ok (.aload_n 0, 1) := by decide +kernel
theorem dX11_office_40 : decode cX11_office 40 = .ok (.getfield 21, 3) := by decide +kernel
theorem dX11_office_43 : decode cX11_office 43 = .ok (.getfield 109, 3) := by decide +kernel
theorem dX11_office_46 : decode cX11_office 46 = .ok (.putfield 84, 3) := by decide +kernel
theorem dX11_office_49 : decode cX11_office 49 = .ok (.aload_n 0, 1) := by decide +kernel
theorem dX11_office_50 : decode cX11_office 50 = .ok (.aload_n 0, 1) := by decide +kernel
theorem dX11_office_51 : decode cX11_office 51 = .ok (.getfield 21, 3) := by decide +kernel
theorem dX11_office_54 : decode cX11_office 54 = .ok (.getfield 112, 3) := by decide +kernel
theorem dX11_office_57 : decode cX11_office 57 = .ok (.putfield 87, 3) := by decide +kernel
theorem dX11_office_60 : decode cX11_office 60 = .ok (.iload_n 2, 1) := by decide +kernel
theorem dX11_office_61 : decode cX11_office 61 = .ok (.ifCond .ne 9, 3) := by decide +kernel
theorem dX11_office_64 : decode cX11_office 64 = .ok (.aload_n 0, 1) := by decide +kernel
theorem dX11_office_65 : decode cX11_office 65 = .ok (.iconst 4, 1) := by decide +kernel
theorem dX11_office_66 : decode cX11_office 66 = .ok (.invokevirtual 101, 3) := by decide +kernel
theorem dX11_office_69 : decode cX11_office 69 = .ok (.ireturn, 1) := by decide +kernel
theorem dX11_office_70 : decode cX11_office 70 = .ok (.aload_n 0, 1) := by decide +kernel
theorem dX11_office_71 : decode cX11_office 71 = .ok (.invokevirtual 115, 3) := by decide +kernel
theorem dX11_office_74 : decode cX11_office 74 = .ok (.aload_n 0, 1) := by decide +kernel
theorem dX11_office_75 : decode cX11_office 75 = .ok (.aload_n 0, 1) := by decide +kernel
theorem dX11_office_76 : decode cX11_office 76 = .ok (.getfield 28, 3) := by decide +kernel
theorem dX11_office_79 : decode cX11_office 79 = .ok (.getfield 118, 3) := by decide +kernel
theorem dX11_office_82 : decode cX11_office 82 = .ok (.getfield 122, 3) := by decide +kernel
theorem dX11_office_85 : decode cX11_office 85 = .ok (.invokevirtual 127, 3) := by decide +kernel
theorem dX11_office_88 : decode cX11_office 88 = .ok (.ireturn, 1) := by decide +kernel
theorem dX11_fault_0 : decode cX11_fault 0 = .ok (.aload_n 0, 1) := by decide +kernel
theorem dX11_fault_1 : decode cX11_fault 1 = .ok (.getfield 84, 3) := by decide +kernel
theorem dX11_fault_4 : decode cX11_fault 4 = .ok (.ireturn, 1) := by decide +kernel
theorem dX11_where_0 : decode cX11_where 0 = .ok (.aload_n 0, 1) := by decide +kernel
theorem dX11_where_1 : decode cX11_where 1 = .ok (.getfield 80, 3) := by decide +kernel
theorem dX11_where_4 : decode cX11_where 4 = .ok (.iconst 4, 1) := by decide +kernel
theorem dX11_where_5 : decode cX11_where 5 = .ok (.if_icmp .ne 10, 3) := by decide +kernel
theorem dX11_where_8 : decode cX11_where 8 = .ok (.aload_n 0, 1) := by decide +kernel
theorem dX11_where_9 : decode cX11_where 9 = .ok (.getfield 87, 3) := by decide +kernel
theorem dX11_where_12 : decode cX11_where 12 = .ok (.goto 4, 3) := by decide +kernel
theorem dX11_where_15 : decode cX11_where 15 = .ok (.iconst (-1), 1) := by decide +kernel
theorem dX11_where_16 : decode cX11_where 16 = .ok (.ireturn, 1) := by decide +kernel
theorem dX11_paper_0 : decode cX11_paper 0 = .ok (.aload_n 0, 1) := by decide +kernel
theorem dX11_paper_1 : decode cX11_paper 1 = .ok (.getfield 28, 3) := by decide +kernel
theorem dX11_paper_4 : decode cX11_paper 4 = .ok (.iload_n 1, 1) := by decide +kernel
theorem dX11_paper_5 : decode cX11_paper 5 = .ok (.invokevirtual 130, 3) := by decide +kernel
theorem dX11_paper_8 : decode cX11_paper 8 = .ok (.ifCond .eq 12, 3) := by decide +kernel
theorem dX11_paper_11 : decode cX11_paper 11 = .ok (.iload_n 2, 1) := by decide +kernel
theorem dX11_paper_12 : decode cX11_paper 12 = .ok (.ifCond .lt 8, 3) := by decide +kernel
theorem dX11_paper_15 : decode cX11_paper 15 = .ok (.iload_n 2, 1) := by decide +kernel
theorem dX11_paper_16 : decode cX11_paper 16 = .ok (.iconst 3, 1) := by decide +kernel
theorem dX11_paper_17 : decode cX11_paper 17 = .ok (.if_icmp .le 9, 3) := by decide +kernel
theorem dX11_paper_20 : decode cX11_paper 20 = .ok (.aload_n 0, 1) := by decide +kernel
theorem dX11_paper_21 : decode cX11_paper 21 = .ok (.iconst 1, 1) := by decide +kernel
theorem dX11_paper_22 : decode cX11_paper 22 = .ok (.invokevirtual 101, 3) := by decide +kernel
theorem dX11_paper_25 : decode cX11_paper 25 = .ok (.ireturn, 1) := by decide +kernel
theorem dX11_paper_26 : decode cX11_paper 26 = .ok (.iload_n 2, 1) := by decide +kernel
theorem dX11_paper_27 : decode cX11_paper 27 = .ok (.tableswitch 75 0 2 #[25, 42, 58], 25) := by decide +kernel
theorem dX11_paper_52 : decode cX11_paper 52 = .ok (.aload_n 0, 1) := by decide +kernel
theorem dX11_paper_53 : decode cX11_paper 53 = .ok (.aload_n 0, 1) := by decide +kernel
theorem dX11_paper_54 : decode cX11_paper 54 = .ok (.getfield 28, 3) := by decide +kernel
theorem dX11_paper_57 : decode cX11_paper 57 = .ok (.getfield 118, 3) := by decide +kernel
theorem dX11_paper_60 : decode cX11_paper 60 = .ok (.getfield 133, 3) := by decide +kernel
theorem dX11_paper_63 : decode cX11_paper 63 = .ok (.iload_n 1, 1) := by decide +kernel
theorem dX11_paper_64 : decode cX11_paper 64 = .ok (.iaload, 1) := by decide +kernel
theorem dX11_paper_65 : decode cX11_paper 65 = .ok (.invokevirtual 127, 3) := by decide +kernel
theorem dX11_paper_68 : decode cX11_paper 68 = .ok (.ireturn, 1) := by decide +kernel
theorem dX11_paper_69 : decode cX11_paper 69 = .ok (.aload_n 0, 1) := by decide +kernel
theorem dX11_paper_70 : decode cX11_paper 70 = .ok (.aload_n 0, 1) := by decide +kernel
theorem dX11_paper_71 : decode cX11_paper 71 = .ok (.getfield 28, 3) := by decide +kernel
theorem dX11_paper_74 : decode cX11_paper 74 = .ok (.getfield 137, 3) := by decide +kernel
theorem dX11_paper_77 : decode cX11_paper 77 = .ok (.iload_n 1, 1) := by decide +kernel
theorem dX11_paper_78 : decode cX11_paper 78 = .ok (.invokevirtual 141, 3) := by decide +kernel
theorem dX11_paper_81 : decode cX11_paper 81 = .ok (.invokevirtual 127, 3) := by decide +kernel
theorem dX11_paper_84 : decode cX11_paper 84 = .ok (.ireturn, 1) := by decide +kernel
theorem dX11_paper_85 : decode cX11_paper 85 = .ok (.aload_n 0, 1) := by decide +kernel
theorem dX11_paper_86 : decode cX11_paper 86 = .ok (.aload_n 0, 1) := by decide +kernel
theorem dX11_paper_87 : decode cX11_paper 87 = .ok (.getfield 28, 3) := by decide +kernel
theorem dX11_paper_90 : decode cX11_paper 90 = .ok (.getfield 118, 3) := by decide +kernel
theorem dX11_paper_93 : decode cX11_paper 93 = .ok (.getfield 146, 3) := by decide +kernel
theorem dX11_paper_96 : decode cX11_paper 96 = .ok (.iload_n 1, 1) := by decide +kernel
theorem dX11_paper_97 : decode cX11_paper 97 = .ok (.iaload, 1) := by decide +kernel
theorem dX11_paper_98 : decode cX11_paper 98 = .ok (.invokevirtual 127, 3) := by decide +kernel
theorem dX11_paper_101 : decode cX11_paper 101 = .ok (.ireturn, 1) := by decide +kernel
theorem dX11_paper_102 : decode cX11_paper 102 = .ok (.aload_n 0, 1) := by decide +kernel
theorem dX11_paper_103 : decode cX11_paper 103 = .ok (.aload_n 0, 1) := by decide +kernel
theorem dX11_paper_104 : decode cX11_paper 104 = .ok (.getfield 28, 3) := by decide +kernel
theorem dX11_paper_107 : decode cX11_paper 107 = .ok (.getfield 137, 3) := by decide +kernel
theorem dX11_paper_110 : decode cX11_paper 110 = .ok (.iload_n 1, 1) := by decide +kernel
theorem dX11_paper_111 : decode cX11_paper 111 = .ok (.invokevirtual 149, 3) := by decide +kernel
theorem dX11_paper_114 : decode cX11_paper 114 = .ok (.invokevirtual 127, 3) := by decide +kernel
theorem dX11_paper_117 : decode cX11_paper 117 = .ok (.ireturn, 1) := by decide +kernel
theorem dX11_stamp_0 : decode cX11_stamp 0 = .ok (.aload_n 0, 1) := by decide +kernel
theorem dX11_stamp_1 : decode cX11_stamp 1 = .ok (.getfield 28, 3) := by decide +kernel
theorem dX11_stamp_4 : decode cX11_stamp 4 = .ok (.iload_n 1, 1) := by decide +kernel
theorem dX11_stamp_5 : decode cX11_stamp 5 = .ok (.invokevirtual 152, 3) := by decide +kernel
theorem dX11_stamp_8 : decode cX11_stamp 8 = .ok (.ifCond .eq 12, 3) := by decide +kernel
theorem dX11_stamp_11 : decode cX11_stamp 11 = .ok (.iload_n 2, 1) := by decide +kernel
theorem dX11_stamp_12 : decode cX11_stamp 12 = .ok (.ifCond .lt 8, 3) := by decide +kernel
theorem dX11_stamp_15 : decode cX11_stamp 15 = .ok (.iload_n 2, 1) := by decide +kernel
theorem dX11_stamp_16 : decode cX11_stamp 16 = .ok (.iconst 4, 1) := by decide +kernel
theorem dX11_stamp_17 : decode cX11_stamp 17 = .ok (.if_icmp .le 9, 3) := by decide +kernel
theorem dX11_stamp_20 : decode cX11_stamp 20 = .ok (.aload_n 0, 1) := by decide +kernel
theorem dX11_stamp_21 : decode cX11_stamp 21 = .ok (.iconst 1, 1) := by decide +kernel
theorem dX11_stamp_22 : decode cX11_stamp 22 = .ok (.invokevirtual 101, 3) := by decide +kernel
theorem dX11_stamp_25 : decode cX11_stamp 25 = .ok (.ireturn, 1) := by decide +kernel
theorem dX11_stamp_26 : decode cX11_stamp 26 = .ok (.iload_n 2, 1) := by decide +kernel
theorem dX11_stamp_27 : decode cX11_stamp 27 = .ok (.tableswitch 95 0 3 #[29, 45, 62, 79], 29) := by decide +kernel
theorem dX11_stamp_56 : decode cX11_stamp 56 = .ok (.aload_n 0, 1) := by decide +kernel
theorem dX11_stamp_57 : decode cX11_stamp 57 = .ok (.aload_n 0, 1) := by decide +kernel
theorem dX11_stamp_58 : decode cX11_stamp 58 = .ok (.getfield 28, 3) := by decide +kernel
theorem dX11_stamp_61 : decode cX11_stamp 61 = .ok (.getfield 137, 3) := by decide +kernel
theorem dX11_stamp_64 : decode cX11_stamp 64 = .ok (.iload_n 1, 1) := by decide +kernel
theorem dX11_stamp_65 : decode cX11_stamp 65 = .ok (.invokevirtual 155, 3) := by decide +kernel
theorem dX11_stamp_68 : decode cX11_stamp 68 = .ok (.invokevirtual 127, 3) := by decide +kernel
theorem dX11_stamp_71 : decode cX11_stamp 71 = .ok (.ireturn, 1) := by decide +kernel
theorem dX11_stamp_72 : decode cX11_stamp 72 = .ok (.aload_n 0, 1) := by decide +kernel
theorem dX11_stamp_73 : decode cX11_stamp 73 = .ok (.aload_n 0, 1) := by decide +kernel
theorem dX11_stamp_74 : decode cX11_stamp 74 = .ok (.getfield 28, 3) := by decide +kernel
theorem dX11_stamp_77 : decode cX11_stamp 77 = .ok (.getfield 118, 3) := by decide +kernel
theorem dX11_stamp_80 : decode cX11_stamp 80 = .ok (.getfield 158, 3) := by decide +kernel
theorem dX11_stamp_83 : decode cX11_stamp 83 = .ok (.iload_n 1, 1) := by decide +kernel
theorem dX11_stamp_84 : decode cX11_stamp 84 = .ok (.iaload, 1) := by decide +kernel
theorem dX11_stamp_85 : decode cX11_stamp 85 = .ok (.invokevirtual 127, 3) := by decide +kernel
theorem dX11_stamp_88 : decode cX11_stamp 88 = .ok (.ireturn, 1) := by decide +kernel
theorem dX11_stamp_89 : decode cX11_stamp 89 = .ok (.aload_n 0, 1) := by decide +kernel
theorem dX11_stamp_90 : decode cX11_stamp 90 = .ok (.aload_n 0, 1) := by decide +kernel
theorem dX11_stamp_91 : decode cX11_stamp 91 = .ok (.getfield 28, 3) := by decide +kernel
theorem dX11_stamp_94 : decode cX11_stamp 94 = .ok (.getfield 118, 3) := by decide +kernel
theorem dX11_stamp_97 : decode cX11_stamp 97 = .ok (.getfield 161, 3) := by decide +kernel
theorem dX11_stamp_100 : decode cX11_stamp 100 = .ok (.iload_n 1, 1) := by decide +kernel
theorem dX11_stamp_101 : decode cX11_stamp 101 = .ok (.iaload, 1) := by decide +kernel
theorem dX11_stamp_102 : decode cX11_stamp 102 = .ok (.invokevirtual 127, 3) := by decide +kernel
theorem dX11_stamp_105 : decode cX11_stamp 105 = .ok (.ireturn, 1) := by decide +kernel
theorem dX11_stamp_106 : decode cX11_stamp 106 = .ok (.aload_n 0, 1) := by decide +kernel
theorem dX11_stamp_107 : decode cX11_stamp 107 = .ok (.aload_n 0, 1) := by decide +kernel
theorem dX11_stamp_108 : decode cX11_stamp 108 = .ok (.getfield 28, 3) := by decide +kernel
theorem dX11_stamp_111 : decode cX11_stamp 111 = .ok (.getfield 118, 3) := by decide +kernel
theorem dX11_stamp_114 : decode cX11_stamp 114 = .ok (.iload_n 1, 1) := by decide +kernel
theorem dX11_stamp_115 : decode cX11_stamp 115 = .ok (.invokevirtual 164, 3) := by decide +kernel
theorem dX11_stamp_118 : decode cX11_stamp 118 = .ok (.invokevirtual 127, 3) := by decide +kernel
theorem dX11_stamp_121 : decode cX11_stamp 121 = .ok (.ireturn, 1) := by decide +kernel
theorem dX11_stamp_122 : decode cX11_stamp 122 = .ok (.aload_n 0, 1) := by decide +kernel
theorem dX11_stamp_123 : decode cX11_stamp 123 = .ok (.aload_n 0, 1) := by decide +kernel
theorem dX11_stamp_124 : decode cX11_stamp 124 = .ok (.getfield 28, 3) := by decide +kernel
theorem dX11_stamp_127 : decode cX11_stamp 127 = .ok (.getfield 137, 3) := by decide +kernel
theorem dX11_stamp_130 : decode cX11_stamp 130 = .ok (.iload_n 1, 1) := by decide +kernel
theorem dX11_stamp_131 : decode cX11_stamp 131 = .ok (.invokevirtual 167, 3) := by decide +kernel
theorem dX11_stamp_134 : decode cX11_stamp 134 = .ok (.invokevirtual 127, 3) := by decide +kernel
theorem dX11_stamp_137 : decode cX11_stamp 137 = .ok (.ireturn, 1) := by decide +kernel
theorem dX11_hand_0 : decode cX11_hand 0 = .ok (.aload_n 0, 1) := by decide +kernel
theorem dX11_hand_1 : decode cX11_hand 1 = .ok (.getfield 28, 3) := by decide +kernel
theorem dX11_hand_4 : decode cX11_hand 4 = .ok (.iload_n 1, 1) := by decide +kernel
theorem dX11_hand_5 : decode cX11_hand 5 = .ok (.invokevirtual 170, 3) := by decide +kernel
theorem dX11_hand_8 : decode cX11_hand 8 = .ok (.ifCond .eq 12, 3) := by decide +kernel
theorem dX11_hand_11 : decode cX11_hand 11 = .ok (.iload_n 2, 1) := by decide +kernel
theorem dX11_hand_12 : decode cX11_hand 12 = .ok (.ifCond .lt 8, 3) := by decide +kernel
theorem dX11_hand_15 : decode cX11_hand 15 = .ok (.iload_n 2, 1) := by decide +kernel
theorem dX11_hand_16 : decode cX11_hand 16 = .ok (.iconst 2, 1) := by decide +kernel
theorem dX11_hand_17 : decode cX11_hand 17 = .ok (.if_icmp .le 9, 3) := by decide +kernel
theorem dX11_hand_20 : decode cX11_hand 20 = .ok (.aload_n 0, 1) := by decide +kernel
theorem dX11_hand_21 : decode cX11_hand 21 = .ok (.iconst 1, 1) := by decide +kernel
theorem dX11_hand_22 : decode cX11_hand 22 = .ok (.invokevirtual 101, 3) := by decide +kernel
theorem dX11_hand_25 : decode cX11_hand 25 = .ok (.ireturn, 1) := by decide +kernel
theorem dX11_hand_26 : decode cX11_hand 26 = .ok (.iload_n 2, 1) := by decide +kernel
theorem dX11_hand_27 : decode cX11_hand 27 = .ok (.lookupswitch 59 #[(0, 25), (1, 42)], 25) := by decide +kernel
theorem dX11_hand_52 : decode cX11_hand 52 = .ok (.aload_n 0, 1) := by decide +kernel
theorem dX11_hand_53 : decode cX11_hand 53 = .ok (.aload_n 0, 1) := by decide +kernel
theorem dX11_hand_54 : decode cX11_hand 54 = .ok (.getfield 28, 3) := by decide +kernel
theorem dX11_hand_57 : decode cX11_hand 57 = .ok (.getfield 118, 3) := by decide +kernel
theorem dX11_hand_60 : decode cX11_hand 60 = .ok (.getfield 173, 3) := by decide +kernel
theorem dX11_hand_63 : decode cX11_hand 63 = .ok (.iload_n 1, 1) := by decide +kernel
theorem dX11_hand_64 : decode cX11_hand 64 = .ok (.iaload, 1) := by decide +kernel
theorem dX11_hand_65 : decode cX11_hand 65 = .ok (.invokevirtual 127, 3) := by decide +kernel
theorem dX11_hand_68 : decode cX11_hand 68 = .ok (.ireturn, 1) := by decide +kernel
theorem dX11_hand_69 : decode cX11_hand 69 = .ok (.aload_n 0, 1) := by decide +kernel
theorem dX11_hand_70 : decode cX11_hand 70 = .ok (.aload_n 0, 1) := by decide +kernel
theorem dX11_hand_71 : decode cX11_hand 71 = .ok (.getfield 28, 3) := by decide +kernel
theorem dX11_hand_74 : decode cX11_hand 74 = .ok (.getfield 118, 3) := by decide +kernel
theorem dX11_hand_77 : decode cX11_hand 77 = .ok (.getfield 176, 3) := by decide +kernel
theorem dX11_hand_80 : decode cX11_hand 80 = .ok (.iload_n 1, 1) := by decide +kernel
theorem dX11_hand_81 : decode cX11_hand 81 = .ok (.iaload, 1) := by decide +kernel
theorem dX11_hand_82 : decode cX11_hand 82 = .ok (.invokevirtual 127, 3) := by decide +kernel
theorem dX11_hand_85 : decode cX11_hand 85 = .ok (.ireturn, 1) := by decide +kernel
theorem dX11_hand_86 : decode cX11_hand 86 = .ok (.aload_n 0, 1) := by decide +kernel
theorem dX11_hand_87 : decode cX11_hand 87 = .ok (.aload_n 0, 1) := by decide +kernel
theorem dX11_hand_88 : decode cX11_hand 88 = .ok (.getfield 28, 3) := by decide +kernel
theorem dX11_hand_91 : decode cX11_hand 91 = .ok (.getfield 137, 3) := by decide +kernel
theorem dX11_hand_94 : decode cX11_hand 94 = .ok (.iload_n 1, 1) := by decide +kernel
theorem dX11_hand_95 : decode cX11_hand 95 = .ok (.invokevirtual 179, 3) := by decide +kernel
theorem dX11_hand_98 : decode cX11_hand 98 = .ok (.invokevirtual 127, 3) := by decide +kernel
theorem dX11_hand_101 : decode cX11_hand 101 = .ok (.ireturn, 1) := by decide +kernel
theorem dX11_rule_0 : decode cX11_rule 0 = .ok (.aload_n 0, 1) := by decide +kernel
theorem dX11_rule_1 : decode cX11_rule 1 = .ok (.getfield 28, 3) := by decide +kernel
theorem dX11_rule_4 : decode cX11_rule 4 = .ok (.iload_n 1, 1) := by decide +kernel
theorem dX11_rule_5 : decode cX11_rule 5 = .ok (.invokevirtual 182, 3) := by decide +kernel
theorem dX11_rule_8 : decode cX11_rule 8 = .ok (.ifCond .eq 12, 3) := by decide +kernel
theorem dX11_rule_11 : decode cX11_rule 11 = .ok (.iload_n 2, 1) := by decide +kernel
theorem dX11_rule_12 : decode cX11_rule 12 = .ok (.ifCond .lt 8, 3) := by decide +kernel
theorem dX11_rule_15 : decode cX11_rule 15 = .ok (.iload_n 2, 1) := by decide +kernel
theorem dX11_rule_16 : decode cX11_rule 16 = .ok (.iconst 3, 1) := by decide +kernel
theorem dX11_rule_17 : decode cX11_rule 17 = .ok (.if_icmp .le 9, 3) := by decide +kernel
theorem dX11_rule_20 : decode cX11_rule 20 = .ok (.aload_n 0, 1) := by decide +kernel
theorem dX11_rule_21 : decode cX11_rule 21 = .ok (.iconst 1, 1) := by decide +kernel
theorem dX11_rule_22 : decode cX11_rule 22 = .ok (.invokevirtual 101, 3) := by decide +kernel
theorem dX11_rule_25 : decode cX11_rule 25 = .ok (.ireturn, 1) := by decide +kernel
theorem dX11_rule_26 : decode cX11_rule 26 = .ok (.iload_n 2, 1) := by decide +kernel
theorem dX11_rule_27 : decode cX11_rule 27 = .ok (.tableswitch 76 0 2 #[25, 42, 59], 25) := by decide +kernel
theorem dX11_rule_52 : decode cX11_rule 52 = .ok (.aload_n 0, 1) := by decide +kernel
theorem dX11_rule_53 : decode cX11_rule 53 = .ok (.aload_n 0, 1) := by decide +kernel
theorem dX11_rule_54 : decode cX11_rule 54 = .ok (.getfield 28, 3) := by decide +kernel
theorem dX11_rule_57 : decode cX11_rule 57 = .ok (.getfield 118, 3) := by decide +kernel
theorem dX11_rule_60 : decode cX11_rule 60 = .ok (.getfield 185, 3) := by decide +kernel
theorem dX11_rule_63 : decode cX11_rule 63 = .ok (.iload_n 1, 1) := by decide +kernel
theorem dX11_rule_64 : decode cX11_rule 64 = .ok (.iaload, 1) := by decide +kernel
theorem dX11_rule_65 : decode cX11_rule 65 = .ok (.invokevirtual 127, 3) := by decide +kernel
theorem dX11_rule_68 : decode cX11_rule 68 = .ok (.ireturn, 1) := by decide +kernel
theorem dX11_rule_69 : decode cX11_rule 69 = .ok (.aload_n 0, 1) := by decide +kernel
theorem dX11_rule_70 : decode cX11_rule 70 = .ok (.aload_n 0, 1) := by decide +kernel
theorem dX11_rule_71 : decode cX11_rule 71 = .ok (.getfield 28, 3) := by decide +kernel
theorem dX11_rule_74 : decode cX11_rule 74 = .ok (.getfield 118, 3) := by decide +kernel
theorem dX11_rule_77 : decode cX11_rule 77 = .ok (.getfield 188, 3) := by decide +kernel
theorem dX11_rule_80 : decode cX11_rule 80 = .ok (.iload_n 1, 1) := by decide +kernel
theorem dX11_rule_81 : decode cX11_rule 81 = .ok (.iaload, 1) := by decide +kernel
theorem dX11_rule_82 : decode cX11_rule 82 = .ok (.invokevirtual 127, 3) := by decide +kernel
theorem dX11_rule_85 : decode cX11_rule 85 = .ok (.ireturn, 1) := by decide +kernel
theorem dX11_rule_86 : decode cX11_rule 86 = .ok (.aload_n 0, 1) := by decide +kernel
theorem dX11_rule_87 : decode cX11_rule 87 = .ok (.aload_n 0, 1) := by decide +kernel
theorem dX11_rule_88 : decode cX11_rule 88 = .ok (.getfield 28, 3) := by decide +kernel
theorem dX11_rule_91 : decode cX11_rule 91 = .ok (.getfield 118, 3) := by decide +kernel
theorem dX11_rule_94 : decode cX11_rule 94 = .ok (.getfield 191, 3) := by decide +kernel
theorem dX11_rule_97 : decode cX11_rule 97 = .ok (.iload_n 1, 1) := by decide +kernel
theorem dX11_rule_98 : decode cX11_rule 98 = .ok (.iaload, 1) := by decide +kernel
theorem dX11_rule_99 : decode cX11_rule 99 = .ok (.invokevirtual 127, 3) := by decide +kernel
theorem dX11_rule_102 : decode cX11_rule 102 = .ok (.ireturn, 1) := by decide +kernel
theorem dX11_rule_103 : decode cX11_rule 103 = .ok (.aload_n 0, 1) := by decide +kernel
theorem dX11_rule_104 : decode cX11_rule 104 = .ok (.aload_n 0, 1) := by decide +kernel
theorem dX11_rule_105 : decode cX11_rule 105 = .ok (.getfield 28, 3) := by decide +kernel
theorem dX11_rule_108 : decode cX11_rule 108 = .ok (.getfield 137, 3) := by decide +kernel
theorem dX11_rule_111 : decode cX11_rule 111 = .ok (.iload_n 1, 1) := by decide +kernel
theorem dX11_rule_112 : decode cX11_rule 112 = .ok (.invokevirtual 194, 3) := by decide +kernel
theorem dX11_rule_115 : decode cX11_rule 115 = .ok (.invokevirtual 127, 3) := by decide +kernel
theorem dX11_rule_118 : decode cX11_rule 118 = .ok (.ireturn, 1) := by decide +kernel
theorem dX11_says_0 : decode cX11_says 0 = .ok (.aload_n 0, 1) := by decide +kernel
theorem dX11_says_1 : decode cX11_says 1 = .ok (.getfield 28, 3) := by decide +kernel
theorem dX11_says_4 : decode cX11_says 4 = .ok (.iload_n 1, 1) := by decide +kernel
theorem dX11_says_5 : decode cX11_says 5 = .ok (.invokevirtual 152, 3) := by decide +kernel
theorem dX11_says_8 : decode cX11_says 8 = .ok (.ifCond .eq 14, 3) := by decide +kernel
theorem dX11_says_11 : decode cX11_says 11 = .ok (.aload_n 0, 1) := by decide +kernel
theorem dX11_says_12 : decode cX11_says 12 = .ok (.getfield 28, 3) := by decide +kernel
theorem dX11_says_15 : decode cX11_says 15 = .ok (.iload_n 2, 1) := by decide +kernel
theorem dX11_says_16 : decode cX11_says 16 = .ok (.invokevirtual 130, 3) := by decide +kernel
theorem dX11_says_19 : decode cX11_says 19 = .ok (.ifCond .ne 9, 3) := by decide +kernel
theorem dX11_says_22 : decode cX11_says 22 = .ok (.aload_n 0, 1) := by decide +kernel
theorem dX11_says_23 : decode cX11_says 23 = .ok (.iconst 1, 1) := by decide +kernel
theorem dX11_says_24 : decode cX11_says 24 = .ok (.invokevirtual 101, 3) := by decide +kernel
theorem dX11_says_27 : decode cX11_says 27 = .ok (.ireturn, 1) := by decide +kernel
theorem dX11_says_28 : decode cX11_says 28 = .ok (.aload_n 0, 1) := by decide +kernel
theorem dX11_says_29 : decode cX11_says 29 = .ok (.aload_n 0, 1) := by decide +kernel
theorem dX11_says_30 : decode cX11_says 30 = .ok (.getfield 28, 3) := by decide +kernel
theorem dX11_says_33 : decode cX11_says 33 = .ok (.iload_n 1, 1) := by decide +kernel
theorem dX11_says_34 : decode cX11_says 34 = .ok (.iload_n 2, 1) := by decide +kernel
theorem dX11_says_35 : decode cX11_says 35 = .ok (.invokevirtual 197, 3) := by decide +kernel
theorem dX11_says_38 : decode cX11_says 38 = .ok (.invokevirtual 127, 3) := by decide +kernel
theorem dX11_says_41 : decode cX11_says 41 = .ok (.ireturn, 1) := by decide +kernel
theorem dX11_byRule_0 : decode cX11_byRule 0 = .ok (.aload_n 0, 1) := by decide +kernel
theorem dX11_byRule_1 : decode cX11_byRule 1 = .ok (.getfield 28, 3) := by decide +kernel
theorem dX11_byRule_4 : decode cX11_byRule 4 = .ok (.iload_n 1, 1) := by decide +kernel
theorem dX11_byRule_5 : decode cX11_byRule 5 = .ok (.invokevirtual 152, 3) := by decide +kernel
theorem dX11_byRule_8 : decode cX11_byRule 8 = .ok (.ifCond .eq 14, 3) := by decide +kernel
theorem dX11_byRule_11 : decode cX11_byRule 11 = .ok (.aload_n 0, 1) := by decide +kernel
theorem dX11_byRule_12 : decode cX11_byRule 12 = .ok (.getfield 28, 3) := by decide +kernel
theorem dX11_byRule_15 : decode cX11_byRule 15 = .ok (.iload_n 2, 1) := by decide +kernel
theorem dX11_byRule_16 : decode cX11_byRule 16 = .ok (.invokevirtual 130, 3) := by decide +kernel
theorem dX11_byRule_19 : decode cX11_byRule 19 = .ok (.ifCond .ne 9, 3) := by decide +kernel
theorem dX11_byRule_22 : decode cX11_byRule 22 = .ok (.aload_n 0, 1) := by decide +kernel
theorem dX11_byRule_23 : decode cX11_byRule 23 = .ok (.iconst 1, 1) := by decide +kernel
theorem dX11_byRule_24 : decode cX11_byRule 24 = .ok (.invokevirtual 101, 3) := by decide +kernel
theorem dX11_byRule_27 : decode cX11_byRule 27 = .ok (.ireturn, 1) := by decide +kernel
theorem dX11_byRule_28 : decode cX11_byRule 28 = .ok (.aload_n 0, 1) := by decide +kernel
theorem dX11_byRule_29 : decode cX11_byRule 29 = .ok (.aload_n 0, 1) := by decide +kernel
theorem dX11_byRule_30 : decode cX11_byRule 30 = .ok (.getfield 28, 3) := by decide +kernel
theorem dX11_byRule_33 : decode cX11_byRule 33 = .ok (.iload_n 1, 1) := by decide +kernel
theorem dX11_byRule_34 : decode cX11_byRule 34 = .ok (.aload_n 0, 1) := by decide +kernel
theorem dX11_byRule_35 : decode cX11_byRule 35 = .ok (.getfield 28, 3) := by decide +kernel
theorem dX11_byRule_38 : decode cX11_byRule 38 = .ok (.getfield 137, 3) := by decide +kernel
theorem dX11_byRule_41 : decode cX11_byRule 41 = .ok (.iload_n 2, 1) := by decide +kernel
theorem dX11_byRule_42 : decode cX11_byRule 42 = .ok (.invokevirtual 141, 3) := by decide +kernel
theorem dX11_byRule_45 : decode cX11_byRule 45 = .ok (.invokevirtual 201, 3) := by decide +kernel
theorem dX11_byRule_48 : decode cX11_byRule 48 = .ok (.invokevirtual 127, 3) := by decide +kernel
theorem dX11_byRule_51 : decode cX11_byRule 51 = .ok (.ireturn, 1) := by decide +kernel
theorem dX11_saysOf_0 : decode cX11_saysOf 0 = .ok (.aload_n 0, 1) := by decide +kernel
theorem dX11_saysOf_1 : decode cX11_saysOf 1 = .ok (.getfield 28, 3) := by decide +kernel
theorem dX11_saysOf_4 : decode cX11_saysOf 4 = .ok (.iload_n 1, 1) := by decide +kernel
theorem dX11_saysOf_5 : decode cX11_saysOf 5 = .ok (.invokevirtual 152, 3) := by decide +kernel
theorem dX11_saysOf_8 : decode cX11_saysOf 8 = .ok (.ifCond .eq 21, 3) := by decide +kernel
theorem dX11_saysOf_11 : decode cX11_saysOf 11 = .ok (.iload_n 2, 1) := by decide +kernel
theorem dX11_saysOf_12 : decode cX11_saysOf 12 = .ok (.ifCond .lt 17, 3) := by decide +kernel
theorem dX11_saysOf_15 : decode cX11_saysOf 15 = .ok (.iload_n 2, 1) := by decide +kernel
theorem dX11_saysOf_16 : decode cX11_saysOf 16 = .ok (.aload_n 0, 1) := by decide +kernel
theorem dX11_saysOf_17 : decode cX11_saysOf 17 = .ok (.getfield 28, 3) := by decide +kernel
theorem dX11_saysOf_20 : decode cX11_saysOf 20 = .ok (.getfield 118, 3) := by decide +kernel
theorem dX11_saysOf_23 : decode cX11_saysOf 23 = .ok (.invokevirtual 204, 3) := by decide +kernel
theorem dX11_saysOf_26 : decode cX11_saysOf 26 = .ok (.if_icmp .lt 9, 3) := by decide +kernel
theorem dX11_saysOf_29 : decode cX11_saysOf 29 = .ok (.aload_n 0, 1) := by decide +kernel
theorem dX11_saysOf_30 : decode cX11_saysOf 30 = .ok (.iconst 1, 1) := by decide +kernel
theorem dX11_saysOf_31 : decode cX11_saysOf 31 = .ok (.invokevirtual 101, 3) := by decide +kernel
theorem dX11_saysOf_34 : decode cX11_saysOf 34 = .ok (.ireturn, 1) := by decide +kernel
theorem dX11_saysOf_35 : decode cX11_saysOf 35 = .ok (.aload_n 0, 1) := by decide +kernel
theorem dX11_saysOf_36 : decode cX11_saysOf 36 = .ok (.aload_n 0, 1) := by decide +kernel
theorem dX11_saysOf_37 : decode cX11_saysOf 37 = .ok (.getfield 28, 3) := by decide +kernel
theorem dX11_saysOf_40 : decode cX11_saysOf 40 = .ok (.iload_n 1, 1) := by decide +kernel
theorem dX11_saysOf_41 : decode cX11_saysOf 41 = .ok (.iload_n 2, 1) := by decide +kernel
theorem dX11_saysOf_42 : decode cX11_saysOf 42 = .ok (.invokevirtual 208, 3) := by decide +kernel
theorem dX11_saysOf_45 : decode cX11_saysOf 45 = .ok (.invokevirtual 127, 3) := by decide +kernel
theorem dX11_saysOf_48 : decode cX11_saysOf 48 = .ok (.ireturn, 1) := by decide +kernel
theorem dX11_prints_0 : decode cX11_prints 0 = .ok (.aload_n 0, 1) := by decide +kernel
theorem dX11_prints_1 : decode cX11_prints 1 = .ok (.getfield 28, 3) := by decide +kernel
theorem dX11_prints_4 : decode cX11_prints 4 = .ok (.iload_n 1, 1) := by decide +kernel
theorem dX11_prints_5 : decode cX11_prints 5 = .ok (.iload_n 2, 1) := by decide +kernel
theorem dX11_prints_6 : decode cX11_prints 6 = .ok (.iload_n 3, 1) := by decide +kernel
theorem dX11_prints_7 : decode cX11_prints 7 = .ok (.invokevirtual 211, 3) := by decide +kernel
theorem dX11_prints_10 : decode cX11_prints 10 = .ok (.ifCond .ne 9, 3) := by decide +kernel
theorem dX11_prints_13 : decode cX11_prints 13 = .ok (.aload_n 0, 1) := by decide +kernel
theorem dX11_prints_14 : decode cX11_prints 14 = .ok (.iconst 1, 1) := by decide +kernel
theorem dX11_prints_15 : decode cX11_prints 15 = .ok (.invokevirtual 101, 3) := by decide +kernel
theorem dX11_prints_18 : decode cX11_prints 18 = .ok (.ireturn, 1) := by decide +kernel
theorem dX11_prints_19 : decode cX11_prints 19 = .ok (.aload_n 0, 1) := by decide +kernel
theorem dX11_prints_20 : decode cX11_prints 20 = .ok (.aload_n 0, 1) := by decide +kernel
theorem dX11_prints_21 : decode cX11_prints 21 = .ok (.getfield 28, 3) := by decide +kernel
theorem dX11_prints_24 : decode cX11_prints 24 = .ok (.iload_n 2, 1) := by decide +kernel
theorem dX11_prints_25 : decode cX11_prints 25 = .ok (.aload_n 0, 1) := by decide +kernel
theorem dX11_prints_26 : decode cX11_prints 26 = .ok (.getfield 28, 3) := by decide +kernel
theorem dX11_prints_29 : decode cX11_prints 29 = .ok (.iload_n 1, 1) := by decide +kernel
theorem dX11_prints_30 : decode cX11_prints 30 = .ok (.iload_n 3, 1) := by decide +kernel
theorem dX11_prints_31 : decode cX11_prints 31 = .ok (.invokevirtual 197, 3) := by decide +kernel
theorem dX11_prints_34 : decode cX11_prints 34 = .ok (.invokevirtual 215, 3) := by decide +kernel
theorem dX11_prints_37 : decode cX11_prints 37 = .ok (.invokevirtual 127, 3) := by decide +kernel
theorem dX11_prints_40 : decode cX11_prints 40 = .ok (.ireturn, 1) := by decide +kernel
theorem dX11_sayers_0 : decode cX11_sayers 0 = .ok (.aload_n 0, 1) := by decide +kernel
theorem dX11_sayers_1 : decode cX11_sayers 1 = .ok (.getfield 28, 3) := by decide +kernel
theorem dX11_sayers_4 : decode cX11_sayers 4 = .ok (.iload_n 1, 1) := by decide +kernel
theorem dX11_sayers_5 : decode cX11_sayers 5 = .ok (.invokevirtual 130, 3) := by decide +kernel
theorem dX11_sayers_8 : decode cX11_sayers 8 = .ok (.ifCond .ne 9, 3) := by decide +kernel
theorem dX11_sayers_11 : decode cX11_sayers 11 = .ok (.aload_n 0, 1) := by decide +kernel
theorem dX11_sayers_12 : decode cX11_sayers 12 = .ok (.iconst 1, 1) := by decide +kernel
theorem dX11_sayers_13 : decode cX11_sayers 13 = .ok (.invokevirtual 101, 3) := by decide +kernel
theorem dX11_sayers_16 : decode cX11_sayers 16 = .ok (.ireturn, 1) := by decide +kernel
theorem dX11_sayers_17 : decode cX11_sayers 17 = .ok (.iload_n 2, 1) := by decide +kernel
theorem dX11_sayers_18 : decode cX11_sayers 18 = .ok (.invokestatic 218, 3) := by decide +kernel
theorem dX11_sayers_21 : decode cX11_sayers 21 = .ok (.ifCond .ne 9, 3) := by decide +kernel
theorem dX11_sayers_24 : decode cX11_sayers 24 = .ok (.aload_n 0, 1) := by decide +kernel
theorem dX11_sayers_25 : decode cX11_sayers 25 = .ok (.iconst 2, 1) := by decide +kernel
theorem dX11_sayers_26 : decode cX11_sayers 26 = .ok (.invokevirtual 101, 3) := by decide +kernel
theorem dX11_sayers_29 : decode cX11_sayers 29 = .ok (.ireturn, 1) := by decide +kernel
theorem dX11_sayers_30 : decode cX11_sayers 30 = .ok (.aload_n 0, 1) := by decide +kernel
theorem dX11_sayers_31 : decode cX11_sayers 31 = .ok (.aload_n 0, 1) := by decide +kernel
theorem dX11_sayers_32 : decode cX11_sayers 32 = .ok (.getfield 28, 3) := by decide +kernel
theorem dX11_sayers_35 : decode cX11_sayers 35 = .ok (.aload_n 0, 1) := by decide +kernel
theorem dX11_sayers_36 : decode cX11_sayers 36 = .ok (.getfield 28, 3) := by decide +kernel
theorem dX11_sayers_39 : decode cX11_sayers 39 = .ok (.getfield 137, 3) := by decide +kernel
theorem dX11_sayers_42 : decode cX11_sayers 42 = .ok (.iload_n 1, 1) := by decide +kernel
theorem dX11_sayers_43 : decode cX11_sayers 43 = .ok (.invokevirtual 141, 3) := by decide +kernel
theorem dX11_sayers_46 : decode cX11_sayers 46 = .ok (.iload_n 2, 1) := by decide +kernel
theorem dX11_sayers_47 : decode cX11_sayers 47 = .ok (.invokevirtual 221, 3) := by decide +kernel
theorem dX11_sayers_50 : decode cX11_sayers 50 = .ok (.invokevirtual 127, 3) := by decide +kernel
theorem dX11_sayers_53 : decode cX11_sayers 53 = .ok (.ireturn, 1) := by decide +kernel
theorem dX11_idleRules_0 : decode cX11_idleRules 0 = .ok (.aload_n 0, 1) := by decide +kernel
theorem dX11_idleRules_1 : decode cX11_idleRules 1 = .ok (.getfield 28, 3) := by decide +kernel
theorem dX11_idleRules_4 : decode cX11_idleRules 4 = .ok (.iload_n 1, 1) := by decide +kernel
theorem dX11_idleRules_5 : decode cX11_idleRules 5 = .ok (.invokevirtual 152, 3) := by decide +kernel
theorem dX11_idleRules_8 : decode cX11_idleRules 8 = .ok (.ifCond .ne 9, 3) := by decide +kernel
theorem dX11_idleRules_11 : decode cX11_idleRules 11 = .ok (.aload_n 0, 1) := by decide +kernel
theorem dX11_idleRules_12 : decode cX11_idleRules 12 = .ok (.iconst 1, 1) := by decide +kernel
theorem dX11_idleRules_13 : decode cX11_idleRules 13 = .ok (.invokevirtual 101, 3) := by decide +kernel
theorem dX11_idleRules_16 : decode cX11_idleRules 16 = .ok (.ireturn, 1) := by decide +kernel
theorem dX11_idleRules_17 : decode cX11_idleRules 17 = .ok (.aload_n 0, 1) := by decide +kernel
theorem dX11_idleRules_18 : decode cX11_idleRules 18 = .ok (.aload_n 0, 1) := by decide +kernel
theorem dX11_idleRules_19 : decode cX11_idleRules 19 = .ok (.getfield 28, 3) := by decide +kernel
theorem dX11_idleRules_22 : decode cX11_idleRules 22 = .ok (.iload_n 1, 1) := by decide +kernel
theorem dX11_idleRules_23 : decode cX11_idleRules 23 = .ok (.invokevirtual 224, 3) := by decide +kernel
theorem dX11_idleRules_26 : decode cX11_idleRules 26 = .ok (.invokevirtual 127, 3) := by decide +kernel
theorem dX11_idleRules_29 : decode cX11_idleRules 29 = .ok (.ireturn, 1) := by decide +kernel
theorem dX11_differ_0 : decode cX11_differ 0 = .ok (.aload_n 0, 1) := by decide +kernel
theorem dX11_differ_1 : decode cX11_differ 1 = .ok (.getfield 28, 3) := by decide +kernel
theorem dX11_differ_4 : decode cX11_differ 4 = .ok (.iload_n 1, 1) := by decide +kernel
theorem dX11_differ_5 : decode cX11_differ 5 = .ok (.invokevirtual 152, 3) := by decide +kernel
theorem dX11_differ_8 : decode cX11_differ 8 = .ok (.ifCond .eq 19, 3) := by decide +kernel
theorem dX11_differ_11 : decode cX11_differ 11 = .ok (.aload_n 0, 1) := by decide +kernel
theorem dX11_differ_12 : decode cX11_differ 12 = .ok (.getfield 28, 3) := by decide +kernel
theorem dX11_differ_15 : decode cX11_differ 15 = .ok (.iload_n 2, 1) := by decide +kernel
theorem dX11_differ_16 : decode cX11_differ 16 = .ok (.invokevirtual 152, 3) := by decide +kernel
theorem dX11_differ_19 : decode cX11_differ 19 = .ok (.ifCond .eq 8, 3) := by decide +kernel
theorem dX11_differ_22 : decode cX11_differ 22 = .ok (.iload_n 1, 1) := by decide +kernel
theorem dX11_differ_23 : decode cX11_differ 23 = .ok (.iload_n 2, 1) := by decide +kernel
theorem dX11_differ_24 : decode cX11_differ 24 = .ok (.if_icmp .ne 9, 3) := by decide +kernel
theorem dX11_differ_27 : decode cX11_differ 27 = .ok (.aload_n 0, 1) := by decide +kernel
theorem dX11_differ_28 : decode cX11_differ 28 = .ok (.iconst 1, 1) := by decide +kernel
theorem dX11_differ_29 : decode cX11_differ 29 = .ok (.invokevirtual 101, 3) := by decide +kernel
theorem dX11_differ_32 : decode cX11_differ 32 = .ok (.ireturn, 1) := by decide +kernel
theorem dX11_differ_33 : decode cX11_differ 33 = .ok (.aload_n 0, 1) := by decide +kernel
theorem dX11_differ_34 : decode cX11_differ 34 = .ok (.aload_n 0, 1) := by decide +kernel
theorem dX11_differ_35 : decode cX11_differ 35 = .ok (.getfield 28, 3) := by decide +kernel
theorem dX11_differ_38 : decode cX11_differ 38 = .ok (.iload_n 1, 1) := by decide +kernel
theorem dX11_differ_39 : decode cX11_differ 39 = .ok (.iload_n 2, 1) := by decide +kernel
theorem dX11_differ_40 : decode cX11_differ 40 = .ok (.invokevirtual 227, 3) := by decide +kernel
theorem dX11_differ_43 : decode cX11_differ 43 = .ok (.invokevirtual 127, 3) := by decide +kernel
theorem dX11_differ_46 : decode cX11_differ 46 = .ok (.ireturn, 1) := by decide +kernel
theorem dX11_kept_0 : decode cX11_kept 0 = .ok (.aload_n 0, 1) := by decide +kernel
theorem dX11_kept_1 : decode cX11_kept 1 = .ok (.getfield 76, 3) := by decide +kernel
theorem dX11_kept_4 : decode cX11_kept 4 = .ok (.ifCond .ne 9, 3) := by decide +kernel
theorem dX11_kept_7 : decode cX11_kept 7 = .ok (.aload_n 0, 1) := by decide +kernel
theorem dX11_kept_8 : decode cX11_kept 8 = .ok (.iconst 1, 1) := by decide +kernel
theorem dX11_kept_9 : decode cX11_kept 9 = .ok (.invokevirtual 101, 3) := by decide +kernel
theorem dX11_kept_12 : decode cX11_kept 12 = .ok (.ireturn, 1) := by decide +kernel
theorem dX11_kept_13 : decode cX11_kept 13 = .ok (.aload_n 0, 1) := by decide +kernel
theorem dX11_kept_14 : decode cX11_kept 14 = .ok (.aload_n 0, 1) := by decide +kernel
theorem dX11_kept_15 : decode cX11_kept 15 = .ok (.getfield 44, 3) := by decide +kernel
theorem dX11_kept_18 : decode cX11_kept 18 = .ok (.iconst (-1), 1) := by decide +kernel
theorem dX11_kept_19 : decode cX11_kept 19 = .ok (.iconst (-1), 1) := by decide +kernel
theorem dX11_kept_20 : decode cX11_kept 20 = .ok (.invokevirtual 230, 3) := by decide +kernel
theorem dX11_kept_23 : decode cX11_kept 23 = .ok (.invokevirtual 127, 3) := by decide +kernel
theorem dX11_kept_26 : decode cX11_kept 26 = .ok (.ireturn, 1) := by decide +kernel
theorem dX11_keptBy_0 : decode cX11_keptBy 0 = .ok (.aload_n 0, 1) := by decide +kernel
theorem dX11_keptBy_1 : decode cX11_keptBy 1 = .ok (.getfield 28, 3) := by decide +kernel
theorem dX11_keptBy_4 : decode cX11_keptBy 4 = .ok (.iload_n 1, 1) := by decide +kernel
theorem dX11_keptBy_5 : decode cX11_keptBy 5 = .ok (.invokevirtual 130, 3) := by decide +kernel
theorem dX11_keptBy_8 : decode cX11_keptBy 8 = .ok (.ifCond .ne 9, 3) := by decide +kernel
theorem dX11_keptBy_11 : decode cX11_keptBy 11 = .ok (.aload_n 0, 1) := by decide +kernel
theorem dX11_keptBy_12 : decode cX11_keptBy 12 = .ok (.iconst 1, 1) := by decide +kernel
theorem dX11_keptBy_13 : decode cX11_keptBy 13 = .ok (.invokevirtual 101, 3) := by decide +kernel
theorem dX11_keptBy_16 : decode cX11_keptBy 16 = .ok (.ireturn, 1) := by decide +kernel
theorem dX11_keptBy_17 : decode cX11_keptBy 17 = .ok (.aload_n 0, 1) := by decide +kernel
theorem dX11_keptBy_18 : decode cX11_keptBy 18 = .ok (.aload_n 0, 1) := by decide +kernel
theorem dX11_keptBy_19 : decode cX11_keptBy 19 = .ok (.getfield 44, 3) := by decide +kernel
theorem dX11_keptBy_22 : decode cX11_keptBy 22 = .ok (.iload_n 1, 1) := by decide +kernel
theorem dX11_keptBy_23 : decode cX11_keptBy 23 = .ok (.invokevirtual 233, 3) := by decide +kernel
theorem dX11_keptBy_26 : decode cX11_keptBy 26 = .ok (.invokevirtual 127, 3) := by decide +kernel
theorem dX11_keptBy_29 : decode cX11_keptBy 29 = .ok (.ireturn, 1) := by decide +kernel
theorem dX11_toFill_0 : decode cX11_toFill 0 = .ok (.aload_n 0, 1) := by decide +kernel
theorem dX11_toFill_1 : decode cX11_toFill 1 = .ok (.getfield 76, 3) := by decide +kernel
theorem dX11_toFill_4 : decode cX11_toFill 4 = .ok (.ifCond .ne 9, 3) := by decide +kernel
theorem dX11_toFill_7 : decode cX11_toFill 7 = .ok (.aload_n 0, 1) := by decide +kernel
theorem dX11_toFill_8 : decode cX11_toFill 8 = .ok (.iconst 1, 1) := by decide +kernel
theorem dX11_toFill_9 : decode cX11_toFill 9 = .ok (.invokevirtual 101, 3) := by decide +kernel
theorem dX11_toFill_12 : decode cX11_toFill 12 = .ok (.ireturn, 1) := by decide +kernel
theorem dX11_toFill_13 : decode cX11_toFill 13 = .ok (.aload_n 0, 1) := by decide +kernel
theorem dX11_toFill_14 : decode cX11_toFill 14 = .ok (.aload_n 0, 1) := by decide +kernel
theorem dX11_toFill_15 : decode cX11_toFill 15 = .ok (.getfield 44, 3) := by decide +kernel
theorem dX11_toFill_18 : decode cX11_toFill 18 = .ok (.invokevirtual 236, 3) := by decide +kernel
theorem dX11_toFill_21 : decode cX11_toFill 21 = .ok (.invokevirtual 127, 3) := by decide +kernel
theorem dX11_toFill_24 : decode cX11_toFill 24 = .ok (.ireturn, 1) := by decide +kernel
theorem dX11_worded_0 : decode cX11_worded 0 = .ok (.aload_n 0, 1) := by decide +kernel
theorem dX11_worded_1 : decode cX11_worded 1 = .ok (.getfield 76, 3) := by decide +kernel
theorem dX11_worded_4 : decode cX11_worded 4 = .ok (.ifCond .ne 9, 3) := by decide +kernel
theorem dX11_worded_7 : decode cX11_worded 7 = .ok (.aload_n 0, 1) := by decide +kernel
theorem dX11_worded_8 : decode cX11_worded 8 = .ok (.iconst 1, 1) := by decide +kernel
theorem dX11_worded_9 : decode cX11_worded 9 = .ok (.invokevirtual 101, 3) := by decide +kernel
theorem dX11_worded_12 : decode cX11_worded 12 = .ok (.ireturn, 1) := by decide +kernel
theorem dX11_worded_13 : decode cX11_worded 13 = .ok (.aload_n 0, 1) := by decide +kernel
theorem dX11_worded_14 : decode cX11_worded 14 = .ok (.aload_n 0, 1) := by decide +kernel
theorem dX11_worded_15 : decode cX11_worded 15 = .ok (.getfield 28, 3) := by decide +kernel
theorem dX11_worded_18 : decode cX11_worded 18 = .ok (.invokevirtual 239, 3) := by decide +kernel
theorem dX11_worded_21 : decode cX11_worded 21 = .ok (.invokevirtual 127, 3) := by decide +kernel
theorem dX11_worded_24 : decode cX11_worded 24 = .ok (.ireturn, 1) := by decide +kernel
theorem dX11_reword_0 : decode cX11_reword 0 = .ok (.aload_n 0, 1) := by decide +kernel
theorem dX11_reword_1 : decode cX11_reword 1 = .ok (.getfield 28, 3) := by decide +kernel
theorem dX11_reword_4 : decode cX11_reword 4 = .ok (.iload_n 1, 1) := by decide +kernel
theorem dX11_reword_5 : decode cX11_reword 5 = .ok (.invokevirtual 130, 3) := by decide +kernel
theorem dX11_reword_8 : decode cX11_reword 8 = .ok (.ifCond .eq 14, 3) := by decide +kernel
theorem dX11_reword_11 : decode cX11_reword 11 = .ok (.aload_n 0, 1) := by decide +kernel
theorem dX11_reword_12 : decode cX11_reword 12 = .ok (.getfield 28, 3) := by decide +kernel
theorem dX11_reword_15 : decode cX11_reword 15 = .ok (.iload_n 2, 1) := by decide +kernel
theorem dX11_reword_16 : decode cX11_reword 16 = .ok (.invokevirtual 152, 3) := by decide +kernel
theorem dX11_reword_19 : decode cX11_reword 19 = .ok (.ifCond .ne 9, 3) := by decide +kernel
theorem dX11_reword_22 : decode cX11_reword 22 = .ok (.aload_n 0, 1) := by decide +kernel
theorem dX11_reword_23 : decode cX11_reword 23 = .ok (.iconst 1, 1) := by decide +kernel
theorem dX11_reword_24 : decode cX11_reword 24 = .ok (.invokevirtual 101, 3) := by decide +kernel
theorem dX11_reword_27 : decode cX11_reword 27 = .ok (.ireturn, 1) := by decide +kernel
theorem dX11_reword_28 : decode cX11_reword 28 = .ok (.iload_n 3, 1) := by decide +kernel
theorem dX11_reword_29 : decode cX11_reword 29 = .ok (.invokestatic 218, 3) := by decide +kernel
theorem dX11_reword_32 : decode cX11_reword 32 = .ok (.ifCond .ne 9, 3) := by decide +kernel
theorem dX11_reword_35 : decode cX11_reword 35 = .ok (.aload_n 0, 1) := by decide +kernel
theorem dX11_reword_36 : decode cX11_reword 36 = .ok (.iconst 2, 1) := by decide +kernel
theorem dX11_reword_37 : decode cX11_reword 37 = .ok (.invokevirtual 101, 3) := by decide +kernel
theorem dX11_reword_40 : decode cX11_reword 40 = .ok (.ireturn, 1) := by decide +kernel
theorem dX11_reword_41 : decode cX11_reword 41 = .ok (.aload_n 0, 1) := by decide +kernel
theorem dX11_reword_42 : decode cX11_reword 42 = .ok (.aload_n 0, 1) := by decide +kernel
theorem dX11_reword_43 : decode cX11_reword 43 = .ok (.getfield 28, 3) := by decide +kernel
theorem dX11_reword_46 : decode cX11_reword 46 = .ok (.iload_n 1, 1) := by decide +kernel
theorem dX11_reword_47 : decode cX11_reword 47 = .ok (.iload_n 2, 1) := by decide +kernel
theorem dX11_reword_48 : decode cX11_reword 48 = .ok (.iload_n 3, 1) := by decide +kernel
theorem dX11_reword_49 : decode cX11_reword 49 = .ok (.invokevirtual 242, 3) := by decide +kernel
theorem dX11_reword_52 : decode cX11_reword 52 = .ok (.invokevirtual 127, 3) := by decide +kernel
theorem dX11_reword_55 : decode cX11_reword 55 = .ok (.ireturn, 1) := by decide +kernel
theorem dX11_bestMark_0 : decode cX11_bestMark 0 = .ok (.aload_n 0, 1) := by decide +kernel
theorem dX11_bestMark_1 : decode cX11_bestMark 1 = .ok (.getfield 28, 3) := by decide +kernel
theorem dX11_bestMark_4 : decode cX11_bestMark 4 = .ok (.iload_n 1, 1) := by decide +kernel
theorem dX11_bestMark_5 : decode cX11_bestMark 5 = .ok (.invokevirtual 130, 3) := by decide +kernel
theorem dX11_bestMark_8 : decode cX11_bestMark 8 = .ok (.ifCond .ne 9, 3) := by decide +kernel
theorem dX11_bestMark_11 : decode cX11_bestMark 11 = .ok (.aload_n 0, 1) := by decide +kernel
theorem dX11_bestMark_12 : decode cX11_bestMark 12 = .ok (.iconst 1, 1) := by decide +kernel
theorem dX11_bestMark_13 : decode cX11_bestMark 13 = .ok (.invokevirtual 101, 3) := by decide +kernel
theorem dX11_bestMark_16 : decode cX11_bestMark 16 = .ok (.ireturn, 1) := by decide +kernel
theorem dX11_bestMark_17 : decode cX11_bestMark 17 = .ok (.aload_n 0, 1) := by decide +kernel
theorem dX11_bestMark_18 : decode cX11_bestMark 18 = .ok (.aload_n 0, 1) := by decide +kernel
theorem dX11_bestMark_19 : decode cX11_bestMark 19 = .ok (.getfield 28, 3) := by decide +kernel
theorem dX11_bestMark_22 : decode cX11_bestMark 22 = .ok (.iload_n 1, 1) := by decide +kernel
theorem dX11_bestMark_23 : decode cX11_bestMark 23 = .ok (.invokevirtual 246, 3) := by decide +kernel
theorem dX11_bestMark_26 : decode cX11_bestMark 26 = .ok (.invokevirtual 127, 3) := by decide +kernel
theorem dX11_bestMark_29 : decode cX11_bestMark 29 = .ok (.ireturn, 1) := by decide +kernel
theorem dX11_odds_0 : decode cX11_odds 0 = .ok (.aload_n 0, 1) := by decide +kernel
theorem dX11_odds_1 : decode cX11_odds 1 = .ok (.getfield 28, 3) := by decide +kernel
theorem dX11_odds_4 : decode cX11_odds 4 = .ok (.iload_n 1, 1) := by decide +kernel
theorem dX11_odds_5 : decode cX11_odds 5 = .ok (.invokevirtual 152, 3) := by decide +kernel
theorem dX11_odds_8 : decode cX11_odds 8 = .ok (.ifCond .ne 10, 3) := by decide +kernel
theorem dX11_odds_11 : decode cX11_odds 11 = .ok (.aload_n 0, 1) := by decide +kernel
theorem dX11_odds_12 : decode cX11_odds 12 = .ok (.iconst 1, 1) := by decide +kernel
theorem dX11_odds_13 : decode cX11_odds 13 = .ok (.invokevirtual 101, 3) := by decide +kernel
theorem dX11_odds_16 : decode cX11_odds 16 = .ok (.i2l, 1) := by decide +kernel
theorem dX11_odds_17 : decode cX11_odds 17 = .ok (.lreturn, 1) := by decide +kernel
theorem dX11_odds_18 : decode cX11_odds 18 = .ok (.aload_n 0, 1) := by decide +kernel
theorem dX11_odds_19 : decode cX11_odds 19 = .ok (.aload_n 0, 1) := by decide +kernel
theorem dX11_odds_20 : decode cX11_odds 20 = .ok (.getfield 51, 3) := by decide +kernel
theorem dX11_odds_23 : decode cX11_odds 23 = .ok (.iload_n 1, 1) := by decide +kernel
theorem dX11_odds_24 : decode cX11_odds 24 = .ok (.invokevirtual 249, 3) := by decide +kernel
theorem dX11_odds_27 : decode cX11_odds 27 = .ok (.aload_n 0, 1) := by decide +kernel
theorem dX11_odds_28 : decode cX11_odds 28 = .ok (.getfield 51, 3) := by decide +kernel
theorem dX11_odds_31 : decode cX11_odds 31 = .ok (.invokevirtual 253, 3) := by decide +kernel
theorem dX11_odds_34 : decode cX11_odds 34 = .ok (.iload_n 2, 1) := by decide +kernel
theorem dX11_odds_35 : decode cX11_odds 35 = .ok (.invokevirtual 257, 3) := by decide +kernel
theorem dX11_odds_38 : decode cX11_odds 38 = .ok (.lreturn, 1) := by decide +kernel
theorem dX11_likeliest_0 : decode cX11_likeliest 0 = .ok (.aload_n 0, 1) := by decide +kernel
theorem dX11_likeliest_1 : decode cX11_likeliest 1 = .ok (.getfield 76, 3) := by decide +kernel
theorem dX11_likeliest_4 : decode cX11_likeliest 4 = .ok (.ifCond .ne 9, 3) := by decide +kernel
theorem dX11_likeliest_7 : decode cX11_likeliest 7 = .ok (.aload_n 0, 1) := by decide +kernel
theorem dX11_likeliest_8 : decode cX11_likeliest 8 = .ok (.iconst 1, 1) := by decide +kernel
theorem dX11_likeliest_9 : decode cX11_likeliest 9 = .ok (.invokevirtual 101, 3) := by decide +kernel
theorem dX11_likeliest_12 : decode cX11_likeliest 12 = .ok (.ireturn, 1) := by decide +kernel
theorem dX11_likeliest_13 : decode cX11_likeliest 13 = .ok (.aload_n 0, 1) := by decide +kernel
theorem dX11_likeliest_14 : decode cX11_likeliest 14 = .ok (.aload_n 0, 1) := by decide +kernel
theorem dX11_likeliest_15 : decode cX11_likeliest 15 = .ok (.getfield 51, 3) := by decide +kernel
theorem dX11_likeliest_18 : decode cX11_likeliest 18 = .ok (.invokevirtual 261, 3) := by decide +kernel
theorem dX11_likeliest_21 : decode cX11_likeliest 21 = .ok (.invokevirtual 127, 3) := by decide +kernel
theorem dX11_likeliest_24 : decode cX11_likeliest 24 = .ok (.ireturn, 1) := by decide +kernel
theorem dX11_next_0 : decode cX11_next 0 = .ok (.aload_n 0, 1) := by decide +kernel
theorem dX11_next_1 : decode cX11_next 1 = .ok (.getfield 28, 3) := by decide +kernel
theorem dX11_next_4 : decode cX11_next 4 = .ok (.iload_n 1, 1) := by decide +kernel
theorem dX11_next_5 : decode cX11_next 5 = .ok (.invokevirtual 130, 3) := by decide +kernel
theorem dX11_next_8 : decode cX11_next 8 = .ok (.ifCond .eq 14, 3) := by decide +kernel
theorem dX11_next_11 : decode cX11_next 11 = .ok (.aload_n 0, 1) := by decide +kernel
theorem dX11_next_12 : decode cX11_next 12 = .ok (.getfield 28, 3) := by decide +kernel
theorem dX11_next_15 : decode cX11_next 15 = .ok (.iload_n 2, 1) := by decide +kernel
theorem dX11_next_16 : decode cX11_next 16 = .ok (.invokevirtual 170, 3) := by decide +kernel
theorem dX11_next_19 : decode cX11_next 19 = .ok (.ifCond .ne 10, 3) := by decide +kernel
theorem dX11_next_22 : decode cX11_next 22 = .ok (.aload_n 0, 1) := by decide +kernel
theorem dX11_next_23 : decode cX11_next 23 = .ok (.iconst 1, 1) := by decide +kernel
theorem dX11_next_24 : decode cX11_next 24 = .ok (.invokevirtual 101, 3) := by decide +kernel
theorem dX11_next_27 : decode cX11_next 27 = .ok (.i2l, 1) := by decide +kernel
theorem dX11_next_28 : decode cX11_next 28 = .ok (.lreturn, 1) := by decide +kernel
theorem dX11_next_29 : decode cX11_next 29 = .ok (.iload_n 3, 1) := by decide +kernel
theorem dX11_next_30 : decode cX11_next 30 = .ok (.invokestatic 218, 3) := by decide +kernel
theorem dX11_next_33 : decode cX11_next 33 = .ok (.ifCond .ne 10, 3) := by decide +kernel
theorem dX11_next_36 : decode cX11_next 36 = .ok (.aload_n 0, 1) := by decide +kernel
theorem dX11_next_37 : decode cX11_next 37 = .ok (.iconst 2, 1) := by decide +kernel
theorem dX11_next_38 : decode cX11_next 38 = .ok (.invokevirtual 101, 3) := by decide +kernel
theorem dX11_next_41 : decode cX11_next 41 = .ok (.i2l, 1) := by decide +kernel
theorem dX11_next_42 : decode cX11_next 42 = .ok (.lreturn, 1) := by decide +kernel
theorem dX11_next_43 : decode cX11_next 43 = .ok (.aload_n 0, 1) := by decide +kernel
theorem dX11_next_44 : decode cX11_next 44 = .ok (.aload_n 0, 1) := by decide +kernel
theorem dX11_next_45 : decode cX11_next 45 = .ok (.getfield 51, 3) := by decide +kernel
theorem dX11_next_48 : decode cX11_next 48 = .ok (.iload_n 1, 1) := by decide +kernel
theorem dX11_next_49 : decode cX11_next 49 = .ok (.iload_n 2, 1) := by decide +kernel
theorem dX11_next_50 : decode cX11_next 50 = .ok (.iload_n 3, 1) := by decide +kernel
theorem dX11_next_51 : decode cX11_next 51 = .ok (.invokevirtual 264, 3) := by decide +kernel
theorem dX11_next_54 : decode cX11_next 54 = .ok (.ldc2_w 268, 3) := by decide +kernel
theorem dX11_next_57 : decode cX11_next 57 = .ok (.aload_n 0, 1) := by decide +kernel
theorem dX11_next_58 : decode cX11_next 58 = .ok (.getfield 51, 3) := by decide +kernel
theorem dX11_next_61 : decode cX11_next 61 = .ok (.invokevirtual 253, 3) := by decide +kernel
theorem dX11_next_64 : decode cX11_next 64 = .ok (.lmul, 1) := by decide +kernel
theorem dX11_next_65 : decode cX11_next 65 = .ok (.iload 4, 2) := by decide +kernel
theorem dX11_next_67 : decode cX11_next 67 = .ok (.invokevirtual 257, 3) := by decide +kernel
theorem dX11_next_70 : decode cX11_next 70 = .ok (.lreturn, 1) := by decide +kernel
theorem dX11_laws_0 : decode cX11_laws 0 = .ok (.aload_n 0, 1) := by decide +kernel
theorem dX11_laws_1 : decode cX11_laws 1 = .ok (.getfield 76, 3) := by decide +kernel
theorem dX11_laws_4 : decode cX11_laws 4 = .ok (.ifCond .ne 9, 3) := by decide +kernel
theorem dX11_laws_7 : decode cX11_laws 7 = .ok (.aload_n 0, 1) := by decide +kernel
theorem dX11_laws_8 : decode cX11_laws 8 = .ok (.iconst 1, 1) := by decide +kernel
theorem dX11_laws_9 : decode cX11_laws 9 = .ok (.invokevirtual 101, 3) := by decide +kernel
theorem dX11_laws_12 : decode cX11_laws 12 = .ok (.ireturn, 1) := by decide +kernel
theorem dX11_laws_13 : decode cX11_laws 13 = .ok (.aload_n 0, 1) := by decide +kernel
theorem dX11_laws_14 : decode cX11_laws 14 = .ok (.aload_n 0, 1) := by decide +kernel
theorem dX11_laws_15 : decode cX11_laws 15 = .ok (.getfield 51, 3) := by decide +kernel
theorem dX11_laws_18 : decode cX11_laws 18 = .ok (.invokevirtual 270, 3) := by decide +kernel
theorem dX11_laws_21 : decode cX11_laws 21 = .ok (.invokestatic 273, 3) := by decide +kernel
theorem dX11_laws_24 : decode cX11_laws 24 = .ok (.invokevirtual 127, 3) := by decide +kernel
theorem dX11_laws_27 : decode cX11_laws 27 = .ok (.ireturn, 1) := by decide +kernel
theorem dX11_lawSays_0 : decode cX11_lawSays 0 = .ok (.aload_n 0, 1) := by decide +kernel
theorem dX11_lawSays_1 : decode cX11_lawSays 1 = .ok (.getfield 28, 3) := by decide +kernel
theorem dX11_lawSays_4 : decode cX11_lawSays 4 = .ok (.iload_n 1, 1) := by decide +kernel
theorem dX11_lawSays_5 : decode cX11_lawSays 5 = .ok (.invokevirtual 130, 3) := by decide +kernel
theorem dX11_lawSays_8 : decode cX11_lawSays 8 = .ok (.ifCond .ne 9, 3) := by decide +kernel
theorem dX11_lawSays_11 : decode cX11_lawSays 11 = .ok (.aload_n 0, 1) := by decide +kernel
theorem dX11_lawSays_12 : decode cX11_lawSays 12 = .ok (.iconst 1, 1) := by decide +kernel
theorem dX11_lawSays_13 : decode cX11_lawSays 13 = .ok (.invokevirtual 101, 3) := by decide +kernel
theorem dX11_lawSays_16 : decode cX11_lawSays 16 = .ok (.ireturn, 1) := by decide +kernel
theorem dX11_lawSays_17 : decode cX11_lawSays 17 = .ok (.aload_n 0, 1) := by decide +kernel
theorem dX11_lawSays_18 : decode cX11_lawSays 18 = .ok (.aload_n 0, 1) := by decide +kernel
theorem dX11_lawSays_19 : decode cX11_lawSays 19 = .ok (.getfield 51, 3) := by decide +kernel
theorem dX11_lawSays_22 : decode cX11_lawSays 22 = .ok (.iload_n 1, 1) := by decide +kernel
theorem dX11_lawSays_23 : decode cX11_lawSays 23 = .ok (.invokevirtual 279, 3) := by decide +kernel
theorem dX11_lawSays_26 : decode cX11_lawSays 26 = .ok (.invokevirtual 127, 3) := by decide +kernel
theorem dX11_lawSays_29 : decode cX11_lawSays 29 = .ok (.ireturn, 1) := by decide +kernel
theorem dX11_tryNext_0 : decode cX11_tryNext 0 = .ok (.aload_n 0, 1) := by decide +kernel
theorem dX11_tryNext_1 : decode cX11_tryNext 1 = .ok (.getfield 76, 3) := by decide +kernel
theorem dX11_tryNext_4 : decode cX11_tryNext 4 = .ok (.ifCond .ne 9, 3) := by decide +kernel
theorem dX11_tryNext_7 : decode cX11_tryNext 7 = .ok (.aload_n 0, 1) := by decide +kernel
theorem dX11_tryNext_8 : decode cX11_tryNext 8 = .ok (.iconst 1, 1) := by decide +kernel
theorem dX11_tryNext_9 : decode cX11_tryNext 9 = .ok (.invokevirtual 101, 3) := by decide +kernel
theorem dX11_tryNext_12 : decode cX11_tryNext 12 = .ok (.ireturn, 1) := by decide +kernel
theorem dX11_tryNext_13 : decode cX11_tryNext 13 = .ok (.aload_n 0, 1) := by decide +kernel
theorem dX11_tryNext_14 : decode cX11_tryNext 14 = .ok (.aload_n 0, 1) := by decide +kernel
theorem dX11_tryNext_15 : decode cX11_tryNext 15 = .ok (.getfield 51, 3) := by decide +kernel
theorem dX11_tryNext_18 : decode cX11_tryNext 18 = .ok (.invokevirtual 282, 3) := by decide +kernel
theorem dX11_tryNext_21 : decode cX11_tryNext 21 = .ok (.invokevirtual 127, 3) := by decide +kernel
theorem dX11_tryNext_24 : decode cX11_tryNext 24 = .ok (.ireturn, 1) := by decide +kernel
theorem dX11_tryLeaves_0 : decode cX11_tryLeaves 0 = .ok (.aload_n 0, 1) := by decide +kernel
theorem dX11_tryLeaves_1 : decode cX11_tryLeaves 1 = .ok (.getfield 76, 3) := by decide +kernel
theorem dX11_tryLeaves_4 : decode cX11_tryLeaves 4 = .ok (.ifCond .ne 9, 3) := by decide +kernel
theorem dX11_tryLeaves_7 : decode cX11_tryLeaves 7 = .ok (.aload_n 0, 1) := by decide +kernel
theorem dX11_tryLeaves_8 : decode cX11_tryLeaves 8 = .ok (.iconst 1, 1) := by decide +kernel
theorem dX11_tryLeaves_9 : decode cX11_tryLeaves 9 = .ok (.invokevirtual 101, 3) := by decide +kernel
theorem dX11_tryLeaves_12 : decode cX11_tryLeaves 12 = .ok (.ireturn, 1) := by decide +kernel
theorem dX11_tryLeaves_13 : decode cX11_tryLeaves 13 = .ok (.aload_n 0, 1) := by decide +kernel
theorem dX11_tryLeaves_14 : decode cX11_tryLeaves 14 = .ok (.aload_n 0, 1) := by decide +kernel
theorem dX11_tryLeaves_15 : decode cX11_tryLeaves 15 = .ok (.getfield 51, 3) := by decide +kernel
theorem dX11_tryLeaves_18 : decode cX11_tryLeaves 18 = .ok (.invokevirtual 285, 3) := by decide +kernel
theorem dX11_tryLeaves_21 : decode cX11_tryLeaves 21 = .ok (.invokevirtual 127, 3) := by decide +kernel
theorem dX11_tryLeaves_24 : decode cX11_tryLeaves 24 = .ok (.ireturn, 1) := by decide +kernel
theorem dX11_judges_0 : decode cX11_judges 0 = .ok (.aload_n 0, 1) := by decide +kernel
theorem dX11_judges_1 : decode cX11_judges 1 = .ok (.getfield 28, 3) := by decide +kernel
theorem dX11_judges_4 : decode cX11_judges 4 = .ok (.iload_n 1, 1) := by decide +kernel
theorem dX11_judges_5 : decode cX11_judges 5 = .ok (.invokevirtual 152, 3) := by decide +kernel
theorem dX11_judges_8 : decode cX11_judges 8 = .ok (.ifCond .eq 19, 3) := by decide +kernel
theorem dX11_judges_11 : decode cX11_judges 11 = .ok (.aload_n 0, 1) := by decide +kernel
theorem dX11_judges_12 : decode cX11_judges 12 = .ok (.getfield 28, 3) := by decide +kernel
theorem dX11_judges_15 : decode cX11_judges 15 = .ok (.iload_n 2, 1) := by decide +kernel
theorem dX11_judges_16 : decode cX11_judges 16 = .ok (.invokevirtual 152, 3) := by decide +kernel
theorem dX11_judges_19 : decode cX11_judges 19 = .ok (.ifCond .eq 8, 3) := by decide +kernel
theorem dX11_judges_22 : decode cX11_judges 22 = .ok (.iload_n 1, 1) := by decide +kernel
theorem dX11_judges_23 : decode cX11_judges 23 = .ok (.iload_n 2, 1) := by decide +kernel
theorem dX11_judges_24 : decode cX11_judges 24 = .ok (.if_icmp .ne 9, 3) := by decide +kernel
theorem dX11_judges_27 : decode cX11_judges 27 = .ok (.aload_n 0, 1) := by decide +kernel
theorem dX11_judges_28 : decode cX11_judges 28 = .ok (.iconst 1, 1) := by decide +kernel
theorem dX11_judges_29 : decode cX11_judges 29 = .ok (.invokevirtual 101, 3) := by decide +kernel
theorem dX11_judges_32 : decode cX11_judges 32 = .ok (.ireturn, 1) := by decide +kernel
theorem dX11_judges_33 : decode cX11_judges 33 = .ok (.aload_n 0, 1) := by decide +kernel
theorem dX11_judges_34 : decode cX11_judges 34 = .ok (.aload_n 0, 1) := by decide +kernel
theorem dX11_judges_35 : decode cX11_judges 35 = .ok (.getfield 28, 3) := by decide +kernel
theorem dX11_judges_38 : decode cX11_judges 38 = .ok (.iload_n 1, 1) := by decide +kernel
theorem dX11_judges_39 : decode cX11_judges 39 = .ok (.aload_n 0, 1) := by decide +kernel
theorem dX11_judges_40 : decode cX11_judges 40 = .ok (.getfield 28, 3) := by decide +kernel
theorem dX11_judges_43 : decode cX11_judges 43 = .ok (.getfield 118, 3) := by decide +kernel
theorem dX11_judges_46 : decode cX11_judges 46 = .ok (.getfield 161, 3) := by decide +kernel
theorem dX11_judges_49 : decode cX11_judges 49 = .ok (.iload_n 2, 1) := by decide +kernel
theorem dX11_judges_50 : decode cX11_judges 50 = .ok (.iaload, 1) := by decide +kernel
theorem dX11_judges_51 : decode cX11_judges 51 = .ok (.invokevirtual 208, 3) := by decide +kernel
theorem dX11_judges_54 : decode cX11_judges 54 = .ok (.invokevirtual 127, 3) := by decide +kernel
theorem dX11_judges_57 : decode cX11_judges 57 = .ok (.ireturn, 1) := by decide +kernel
theorem dX11_good_0 : decode cX11_good 0 = .ok (.aload_n 0, 1) := by decide +kernel
theorem dX11_good_1 : decode cX11_good 1 = .ok (.getfield 76, 3) := by decide +kernel
theorem dX11_good_4 : decode cX11_good 4 = .ok (.ifCond .ne 9, 3) := by decide +kernel
theorem dX11_good_7 : decode cX11_good 7 = .ok (.aload_n 0, 1) := by decide +kernel
theorem dX11_good_8 : decode cX11_good 8 = .ok (.iconst 1, 1) := by decide +kernel
theorem dX11_good_9 : decode cX11_good 9 = .ok (.invokevirtual 101, 3) := by decide +kernel
theorem dX11_good_12 : decode cX11_good 12 = .ok (.ireturn, 1) := by decide +kernel
theorem dX11_good_13 : decode cX11_good 13 = .ok (.iload_n 1, 1) := by decide +kernel
theorem dX11_good_14 : decode cX11_good 14 = .ok (.ifCond .lt 9, 3) := by decide +kernel
theorem dX11_good_17 : decode cX11_good 17 = .ok (.iload_n 1, 1) := by decide +kernel
theorem dX11_good_18 : decode cX11_good 18 = .ok (.bipush 20, 2) := by decide +kernel
theorem dX11_good_20 : decode cX11_good 20 = .ok (.if_icmp .le 9, 3) := by decide +kernel
theorem dX11_good_23 : decode cX11_good 23 = .ok (.aload_n 0, 1) := by decide +kernel
theorem dX11_good_24 : decode cX11_good 24 = .ok (.iconst 2, 1) := by decide +kernel
theorem dX11_good_25 : decode cX11_good 25 = .ok (.invokevirtual 101, 3) := by decide +kernel
theorem dX11_good_28 : decode cX11_good 28 = .ok (.ireturn, 1) := by decide +kernel
theorem dX11_good_29 : decode cX11_good 29 = .ok (.aload_n 0, 1) := by decide +kernel
theorem dX11_good_30 : decode cX11_good 30 = .ok (.aload_n 0, 1) := by decide +kernel
theorem dX11_good_31 : decode cX11_good 31 = .ok (.getfield 58, 3) := by decide +kernel
theorem dX11_good_34 : decode cX11_good 34 = .ok (.iload_n 1, 1) := by decide +kernel
theorem dX11_good_35 : decode cX11_good 35 = .ok (.invokevirtual 288, 3) := by decide +kernel
theorem dX11_good_38 : decode cX11_good 38 = .ok (.invokevirtual 127, 3) := by decide +kernel
theorem dX11_good_41 : decode cX11_good 41 = .ok (.ireturn, 1) := by decide +kernel
theorem dX11_settled_0 : decode cX11_settled 0 = .ok (.aload_n 0, 1) := by decide +kernel
theorem dX11_settled_1 : decode cX11_settled 1 = .ok (.getfield 76, 3) := by decide +kernel
theorem dX11_settled_4 : decode cX11_settled 4 = .ok (.ifCond .ne 9, 3) := by decide +kernel
theorem dX11_settled_7 : decode cX11_settled 7 = .ok (.aload_n 0, 1) := by decide +kernel
theorem dX11_settled_8 : decode cX11_settled 8 = .ok (.iconst 1, 1) := by decide +kernel
theorem dX11_settled_9 : decode cX11_settled 9 = .ok (.invokevirtual 101, 3) := by decide +kernel
theorem dX11_settled_12 : decode cX11_settled 12 = .ok (.ireturn, 1) := by decide +kernel
theorem dX11_settled_13 : decode cX11_settled 13 = .ok (.aload_n 0, 1) := by decide +kernel
theorem dX11_settled_14 : decode cX11_settled 14 = .ok (.aload_n 0, 1) := by decide +kernel
theorem dX11_settled_15 : decode cX11_settled 15 = .ok (.getfield 58, 3) := by decide +kernel
theorem dX11_settled_18 : decode cX11_settled 18 = .ok (.invokevirtual 291, 3) := by decide +kernel
theorem dX11_settled_21 : decode cX11_settled 21 = .ok (.invokevirtual 127, 3) := by decide +kernel
theorem dX11_settled_24 : decode cX11_settled 24 = .ok (.ireturn, 1) := by decide +kernel
theorem dX11_steady_0 : decode cX11_steady 0 = .ok (.aload_n 0, 1) := by decide +kernel
theorem dX11_steady_1 : decode cX11_steady 1 = .ok (.getfield 76, 3) := by decide +kernel
theorem dX11_steady_4 : decode cX11_steady 4 = .ok (.ifCond .ne 9, 3) := by decide +kernel
theorem dX11_steady_7 : decode cX11_steady 7 = .ok (.aload_n 0, 1) := by decide +kernel
theorem dX11_steady_8 : decode cX11_steady 8 = .ok (.iconst 1, 1) := by decide +kernel
theorem dX11_steady_9 : decode cX11_steady 9 = .ok (.invokevirtual 101, 3) := by decide +kernel
theorem dX11_steady_12 : decode cX11_steady 12 = .ok (.ireturn, 1) := by decide +kernel
theorem dX11_steady_13 : decode cX11_steady 13 = .ok (.aload_n 0, 1) := by decide +kernel
theorem dX11_steady_14 : decode cX11_steady 14 = .ok (.aload_n 0, 1) := by decide +kernel
theorem dX11_steady_15 : decode cX11_steady 15 = .ok (.getfield 58, 3) := by decide +kernel
theorem dX11_steady_18 : decode cX11_steady 18 = .ok (.invokevirtual 294, 3) := by decide +kernel
theorem dX11_steady_21 : decode cX11_steady 21 = .ok (.invokevirtual 127, 3) := by decide +kernel
theorem dX11_steady_24 : decode cX11_steady 24 = .ok (.ireturn, 1) := by decide +kernel
theorem dX11_has_0 : decode cX11_has 0 = .ok (.aload_n 0, 1) := by decide +kernel
theorem dX11_has_1 : decode cX11_has 1 = .ok (.getfield 28, 3) := by decide +kernel
theorem dX11_has_4 : decode cX11_has 4 = .ok (.iload_n 1, 1) := by decide +kernel
theorem dX11_has_5 : decode cX11_has 5 = .ok (.invokevirtual 152, 3) := by decide +kernel
theorem dX11_has_8 : decode cX11_has 8 = .ok (.ifCond .eq 14, 3) := by decide +kernel
theorem dX11_has_11 : decode cX11_has 11 = .ok (.aload_n 0, 1) := by decide +kernel
theorem dX11_has_12 : decode cX11_has 12 = .ok (.getfield 28, 3) := by decide +kernel
theorem dX11_has_15 : decode cX11_has 15 = .ok (.iload_n 2, 1) := by decide +kernel
theorem dX11_has_16 : decode cX11_has 16 = .ok (.invokevirtual 130, 3) := by decide +kernel
theorem dX11_has_19 : decode cX11_has 19 = .ok (.ifCond .ne 9, 3) := by decide +kernel
theorem dX11_has_22 : decode cX11_has 22 = .ok (.aload_n 0, 1) := by decide +kernel
theorem dX11_has_23 : decode cX11_has 23 = .ok (.iconst 1, 1) := by decide +kernel
theorem dX11_has_24 : decode cX11_has 24 = .ok (.invokevirtual 101, 3) := by decide +kernel
theorem dX11_has_27 : decode cX11_has 27 = .ok (.ireturn, 1) := by decide +kernel
theorem dX11_has_28 : decode cX11_has 28 = .ok (.aload_n 0, 1) := by decide +kernel
theorem dX11_has_29 : decode cX11_has 29 = .ok (.aload_n 0, 1) := by decide +kernel
theorem dX11_has_30 : decode cX11_has 30 = .ok (.getfield 65, 3) := by decide +kernel
theorem dX11_has_33 : decode cX11_has 33 = .ok (.iload_n 1, 1) := by decide +kernel
theorem dX11_has_34 : decode cX11_has 34 = .ok (.iload_n 2, 1) := by decide +kernel
theorem dX11_has_35 : decode cX11_has 35 = .ok (.invokevirtual 297, 3) := by decide +kernel
theorem dX11_has_38 : decode cX11_has 38 = .ok (.invokevirtual 127, 3) := by decide +kernel
theorem dX11_has_41 : decode cX11_has 41 = .ok (.ireturn, 1) := by decide +kernel
theorem dX11_clerks_0 : decode cX11_clerks 0 = .ok (.aload_n 0, 1) := by decide +kernel
theorem dX11_clerks_1 : decode cX11_clerks 1 = .ok (.invokevirtual 300, 3) := by decide +kernel
theorem dX11_clerks_4 : decode cX11_clerks 4 = .ok (.istore_n 1, 1) := by decide +kernel
theorem dX11_clerks_5 : decode cX11_clerks 5 = .ok (.iload_n 1, 1) := by decide +kernel
theorem dX11_clerks_6 : decode cX11_clerks 6 = .ok (.ifCond .eq 11, 3) := by decide +kernel
theorem dX11_clerks_9 : decode cX11_clerks 9 = .ok (.aload_n 0, 1) := by decide +kernel
theorem dX11_clerks_10 : decode cX11_clerks 10 = .ok (.iload_n 1, 1) := by decide +kernel
theorem dX11_clerks_11 : decode cX11_clerks 11 = .ok (.invokevirtual 101, 3) := by decide +kernel
theorem dX11_clerks_14 : decode cX11_clerks 14 = .ok (.goto 14, 3) := by decide +kernel
theorem dX11_clerks_17 : decode cX11_clerks 17 = .ok (.aload_n 0, 1) := by decide +kernel
theorem dX11_clerks_18 : decode cX11_clerks 18 = .ok (.aload_n 0, 1) := by decide +kernel
theorem dX11_clerks_19 : decode cX11_clerks 19 = .ok (.getfield 65, 3) := by decide +kernel
theorem dX11_clerks_22 : decode cX11_clerks 22 = .ok (.invokevirtual 303, 3) := by decide +kernel
theorem dX11_clerks_25 : decode cX11_clerks 25 = .ok (.invokevirtual 127, 3) := by decide +kernel
theorem dX11_clerks_28 : decode cX11_clerks 28 = .ok (.ireturn, 1) := by decide +kernel
theorem dX11_applicants_0 : decode cX11_applicants 0 = .ok (.aload_n 0, 1) := by decide +kernel
theorem dX11_applicants_1 : decode cX11_applicants 1 = .ok (.invokevirtual 300, 3) := by decide +kernel
theorem dX11_applicants_4 : decode cX11_applicants 4 = .ok (.istore_n 1, 1) := by decide +kernel
theorem dX11_applicants_5 : decode cX11_applicants 5 = .ok (.iload_n 1, 1) := by decide +kernel
theorem dX11_applicants_6 : decode cX11_applicants 6 = .ok (.ifCond .eq 11, 3) := by decide +kernel
theorem dX11_applicants_9 : decode cX11_applicants 9 = .ok (.aload_n 0, 1) := by decide +kernel
theorem dX11_applicants_10 : decode cX11_applicants 10 = .ok (.iload_n 1, 1) := by decide +kernel
theorem dX11_applicants_11 : decode cX11_applicants 11 = .ok (.invokevirtual 101, 3) := by decide +kernel
theorem dX11_applicants_14 : decode cX11_applicants 14 = .ok (.goto 14, 3) := by decide +kernel
theorem dX11_applicants_17 : decode cX11_applicants 17 = .ok (.aload_n 0, 1) := by decide +kernel
theorem dX11_applicants_18 : decode cX11_applicants 18 = .ok (.aload_n 0, 1) := by decide +kernel
theorem dX11_applicants_19 : decode cX11_applicants 19 = .ok (.getfield 65, 3) := by decide +kernel
theorem dX11_applicants_22 : decode cX11_applicants 22 = .ok (.invokevirtual 306, 3) := by decide +kernel
theorem dX11_applicants_25 : decode cX11_applicants 25 = .ok (.invokevirtual 127, 3) := by decide +kernel
theorem dX11_applicants_28 : decode cX11_applicants 28 = .ok (.ireturn, 1) := by decide +kernel
theorem dX11_clerkPicks_0 : decode cX11_clerkPicks 0 = .ok (.aload_n 0, 1) := by decide +kernel
theorem dX11_clerkPicks_1 : decode cX11_clerkPicks 1 = .ok (.invokevirtual 300, 3) := by decide +kernel
theorem dX11_clerkPicks_4 : decode cX11_clerkPicks 4 = .ok (.istore_n 1, 1) := by decide +kernel
theorem dX11_clerkPicks_5 : decode cX11_clerkPicks 5 = .ok (.iload_n 1, 1) := by decide +kernel
theorem dX11_clerkPicks_6 : decode cX11_clerkPicks 6 = .ok (.ifCond .eq 11, 3) := by decide +kernel
theorem dX11_clerkPicks_9 : decode cX11_clerkPicks 9 = .ok (.aload_n 0, 1) := by decide +kernel
theorem dX11_clerkPicks_10 : decode cX11_clerkPicks 10 = .ok (.iload_n 1, 1) := by decide +kernel
theorem dX11_clerkPicks_11 : decode cX11_clerkPicks 11 = .ok (.invokevirtual 101, 3) := by decide +kernel
theorem dX11_clerkPicks_14 : decode cX11_clerkPicks 14 = .ok (.goto 14, 3) := by decide +kernel
theorem dX11_clerkPicks_17 : decode cX11_clerkPicks 17 = .ok (.aload_n 0, 1) := by decide +kernel
theorem dX11_clerkPicks_18 : decode cX11_clerkPicks 18 = .ok (.aload_n 0, 1) := by decide +kernel
theorem dX11_clerkPicks_19 : decode cX11_clerkPicks 19 = .ok (.getfield 65, 3) := by decide +kernel
theorem dX11_clerkPicks_22 : decode cX11_clerkPicks 22 = .ok (.invokevirtual 309, 3) := by decide +kernel
theorem dX11_clerkPicks_25 : decode cX11_clerkPicks 25 = .ok (.invokevirtual 127, 3) := by decide +kernel
theorem dX11_clerkPicks_28 : decode cX11_clerkPicks 28 = .ok (.ireturn, 1) := by decide +kernel
theorem dX11_even_0 : decode cX11_even 0 = .ok (.aload_n 0, 1) := by decide +kernel
theorem dX11_even_1 : decode cX11_even 1 = .ok (.invokevirtual 300, 3) := by decide +kernel
theorem dX11_even_4 : decode cX11_even 4 = .ok (.istore_n 1, 1) := by decide +kernel
theorem dX11_even_5 : decode cX11_even 5 = .ok (.iload_n 1, 1) := by decide +kernel
theorem dX11_even_6 : decode cX11_even 6 = .ok (.ifCond .eq 11, 3) := by decide +kernel
theorem dX11_even_9 : decode cX11_even 9 = .ok (.aload_n 0, 1) := by decide +kernel
theorem dX11_even_10 : decode cX11_even 10 = .ok (.iload_n 1, 1) := by decide +kernel
theorem dX11_even_11 : decode cX11_even 11 = .ok (.invokevirtual 101, 3) := by decide +kernel
theorem dX11_even_14 : decode cX11_even 14 = .ok (.goto 14, 3) := by decide +kernel
theorem dX11_even_17 : decode cX11_even 17 = .ok (.aload_n 0, 1) := by decide +kernel
theorem dX11_even_18 : decode cX11_even 18 = .ok (.aload_n 0, 1) := by decide +kernel
theorem dX11_even_19 : decode cX11_even 19 = .ok (.getfield 65, 3) := by decide +kernel
theorem dX11_even_22 : decode cX11_even 22 = .ok (.invokevirtual 312, 3) := by decide +kernel
theorem dX11_even_25 : decode cX11_even 25 = .ok (.invokevirtual 127, 3) := by decide +kernel
theorem dX11_even_28 : decode cX11_even 28 = .ok (.ireturn, 1) := by decide +kernel
theorem dX11_sure_0 : decode cX11_sure 0 = .ok (.aload_n 0, 1) := by decide +kernel
theorem dX11_sure_1 : decode cX11_sure 1 = .ok (.getfield 28, 3) := by decide +kernel
theorem dX11_sure_4 : decode cX11_sure 4 = .ok (.iload_n 1, 1) := by decide +kernel
theorem dX11_sure_5 : decode cX11_sure 5 = .ok (.iload_n 2, 1) := by decide +kernel
theorem dX11_sure_6 : decode cX11_sure 6 = .ok (.iload_n 3, 1) := by decide +kernel
theorem dX11_sure_7 : decode cX11_sure 7 = .ok (.invokevirtual 211, 3) := by decide +kernel
theorem dX11_sure_10 : decode cX11_sure 10 = .ok (.ifCond .ne 10, 3) := by decide +kernel
theorem dX11_sure_13 : decode cX11_sure 13 = .ok (.aload_n 0, 1) := by decide +kernel
theorem dX11_sure_14 : decode cX11_sure 14 = .ok (.iconst 1, 1) := by decide +kernel
theorem dX11_sure_15 : decode cX11_sure 15 = .ok (.invokevirtual 101, 3) := by decide +kernel
theorem dX11_sure_18 : decode cX11_sure 18 = .ok (.i2l, 1) := by decide +kernel
theorem dX11_sure_19 : decode cX11_sure 19 = .ok (.lreturn, 1) := by decide +kernel
theorem dX11_sure_20 : decode cX11_sure 20 = .ok (.iload 4, 2) := by decide +kernel
theorem dX11_sure_22 : decode cX11_sure 22 = .ok (.invokestatic 218, 3) := by decide +kernel
theorem dX11_sure_25 : decode cX11_sure 25 = .ok (.ifCond .ne 10, 3) := by decide +kernel
theorem dX11_sure_28 : decode cX11_sure 28 = .ok (.aload_n 0, 1) := by decide +kernel
theorem dX11_sure_29 : decode cX11_sure 29 = .ok (.iconst 2, 1) := by decide +kernel
theorem dX11_sure_30 : decode cX11_sure 30 = .ok (.invokevirtual 101, 3) := by decide +kernel
theorem dX11_sure_33 : decode cX11_sure 33 = .ok (.i2l, 1) := by decide +kernel
theorem dX11_sure_34 : decode cX11_sure 34 = .ok (.lreturn, 1) := by decide +kernel
theorem dX11_sure_35 : decode cX11_sure 35 = .ok (.aload_n 0, 1) := by decide +kernel
theorem dX11_sure_36 : decode cX11_sure 36 = .ok (.aload_n 0, 1) := by decide +kernel
theorem dX11_sure_37 : decode cX11_sure 37 = .ok (.getfield 28, 3) := by decide +kernel
theorem dX11_sure_40 : decode cX11_sure 40 = .ok (.iload_n 2, 1) := by decide +kernel
theorem dX11_sure_41 : decode cX11_sure 41 = .ok (.aload_n 0, 1) := by decide +kernel
theorem dX11_sure_42 : decode cX11_sure 42 = .ok (.getfield 28, 3) := by decide +kernel
theorem dX11_sure_45 : decode cX11_sure 45 = .ok (.iload_n 1, 1) := by decide +kernel
theorem dX11_sure_46 : decode cX11_sure 46 = .ok (.iload_n 3, 1) := by decide +kernel
theorem dX11_sure_47 : decode cX11_sure 47 = .ok (.invokevirtual 197, 3) := by decide +kernel
theorem dX11_sure_50 : decode cX11_sure 50 = .ok (.iload 4, 2) := by decide +kernel
theorem dX11_sure_52 : decode cX11_sure 52 = .ok (.invokevirtual 315, 3) := by decide +kernel
theorem dX11_sure_55 : decode cX11_sure 55 = .ok (.i2l, 1) := by decide +kernel
theorem dX11_sure_56 : decode cX11_sure 56 = .ok (.ldc2_w 268, 3) := by decide +kernel
theorem dX11_sure_59 : decode cX11_sure 59 = .ok (.iload 5, 2) := by decide +kernel
theorem dX11_sure_61 : decode cX11_sure 61 = .ok (.invokevirtual 257, 3) := by decide +kernel
theorem dX11_sure_64 : decode cX11_sure 64 = .ok (.lreturn, 1) := by decide +kernel
theorem dX11_mean_0 : decode cX11_mean 0 = .ok (.aload_n 0, 1) := by decide +kernel
theorem dX11_mean_1 : decode cX11_mean 1 = .ok (.getfield 28, 3) := by decide +kernel
theorem dX11_mean_4 : decode cX11_mean 4 = .ok (.iload_n 1, 1) := by decide +kernel
theorem dX11_mean_5 : decode cX11_mean 5 = .ok (.invokevirtual 152, 3) := by decide +kernel
theorem dX11_mean_8 : decode cX11_mean 8 = .ok (.ifCond .eq 14, 3) := by decide +kernel
theorem dX11_mean_11 : decode cX11_mean 11 = .ok (.aload_n 0, 1) := by decide +kernel
theorem dX11_mean_12 : decode cX11_mean 12 = .ok (.getfield 28, 3) := by decide +kernel
theorem dX11_mean_15 : decode cX11_mean 15 = .ok (.iload_n 2, 1) := by decide +kernel
theorem dX11_mean_16 : decode cX11_mean 16 = .ok (.invokevirtual 170, 3) := by decide +kernel
theorem dX11_mean_19 : decode cX11_mean 19 = .ok (.ifCond .ne 10, 3) := by decide +kernel
theorem dX11_mean_22 : decode cX11_mean 22 = .ok (.aload_n 0, 1) := by decide +kernel
theorem dX11_mean_23 : decode cX11_mean 23 = .ok (.iconst 1, 1) := by decide +kernel
theorem dX11_mean_24 : decode cX11_mean 24 = .ok (.invokevirtual 101, 3) := by decide +kernel
theorem dX11_mean_27 : decode cX11_mean 27 = .ok (.i2l, 1) := by decide +kernel
theorem dX11_mean_28 : decode cX11_mean 28 = .ok (.lreturn, 1) := by decide +kernel
theorem dX11_mean_29 : decode cX11_mean 29 = .ok (.aload_n 0, 1) := by decide +kernel
theorem dX11_mean_30 : decode cX11_mean 30 = .ok (.aload_n 0, 1) := by decide +kernel
theorem dX11_mean_31 : decode cX11_mean 31 = .ok (.getfield 28, 3) := by decide +kernel
theorem dX11_mean_34 : decode cX11_mean 34 = .ok (.iload_n 1, 1) := by decide +kernel
theorem dX11_mean_35 : decode cX11_mean 35 = .ok (.iload_n 2, 1) := by decide +kernel
theorem dX11_mean_36 : decode cX11_mean 36 = .ok (.invokevirtual 318, 3) := by decide +kernel
theorem dX11_mean_39 : decode cX11_mean 39 = .ok (.ldc2_w 268, 3) := by decide +kernel
theorem dX11_mean_42 : decode cX11_mean 42 = .ok (.iload_n 3, 1) := by decide +kernel
theorem dX11_mean_43 : decode cX11_mean 43 = .ok (.invokevirtual 257, 3) := by decide +kernel
theorem dX11_mean_46 : decode cX11_mean 46 = .ok (.lreturn, 1) := by decide +kernel
theorem dX11_presses_0 : decode cX11_presses 0 = .ok (.aload_n 0, 1) := by decide +kernel
theorem dX11_presses_1 : decode cX11_presses 1 = .ok (.iload_n 1, 1) := by decide +kernel
theorem dX11_presses_2 : decode cX11_presses 2 = .ok (.invokestatic 218, 3) := by decide +kernel
theorem dX11_presses_5 : decode cX11_presses 5 = .ok (.iload_n 2, 1) := by decide +kernel
theorem dX11_presses_6 : decode cX11_presses 6 = .ok (.iload_n 3, 1) := by decide +kernel
theorem dX11_presses_7 : decode cX11_presses 7 = .ok (.invokevirtual 322, 3) := by decide +kernel
theorem dX11_presses_10 : decode cX11_presses 10 = .ok (.istore 4, 2) := by decide +kernel
theorem dX11_presses_12 : decode cX11_presses 12 = .ok (.iload 4, 2) := by decide +kernel
theorem dX11_presses_14 : decode cX11_presses 14 = .ok (.ifCond .eq 10, 3) := by decide +kernel
theorem dX11_presses_17 : decode cX11_presses 17 = .ok (.aload_n 0, 1) := by decide +kernel
theorem dX11_presses_18 : decode cX11_presses 18 = .ok (.iload 4, 2) := by decide +kernel
theorem dX11_presses_20 : decode cX11_presses 20 = .ok (.invokevirtual 101, 3) := by decide +kernel
theorem dX11_presses_23 : decode cX11_presses 23 = .ok (.ireturn, 1) := by decide +kernel
theorem dX11_presses_24 : decode cX11_presses 24 = .ok (.aload_n 0, 1) := by decide +kernel
theorem dX11_presses_25 : decode cX11_presses 25 = .ok (.getfield 72, 3) := by decide +kernel
theorem dX11_presses_28 : decode cX11_presses 28 = .ok (.iload_n 2, 1) := by decide +kernel
theorem dX11_presses_29 : decode cX11_presses 29 = .ok (.iload_n 3, 1) := by decide +kernel
theorem dX11_presses_30 : decode cX11_presses 30 = .ok (.invokevirtual 326, 3) := by decide +kernel
theorem dX11_presses_33 : decode cX11_presses 33 = .ok (.aload_n 0, 1) := by decide +kernel
theorem dX11_presses_34 : decode cX11_presses 34 = .ok (.aload_n 0, 1) := by decide +kernel
theorem dX11_presses_35 : decode cX11_presses 35 = .ok (.getfield 72, 3) := by decide +kernel
theorem dX11_presses_38 : decode cX11_presses 38 = .ok (.getfield 330, 3) := by decide +kernel
theorem dX11_presses_41 : decode cX11_presses 41 = .ok (.iload_n 1, 1) := by decide +kernel
theorem dX11_presses_42 : decode cX11_presses 42 = .ok (.iaload, 1) := by decide +kernel
theorem dX11_presses_43 : decode cX11_presses 43 = .ok (.invokevirtual 127, 3) := by decide +kernel
theorem dX11_presses_46 : decode cX11_presses 46 = .ok (.ireturn, 1) := by decide +kernel
theorem dX11_birds_0 : decode cX11_birds 0 = .ok (.aload_n 0, 1) := by decide +kernel
theorem dX11_birds_1 : decode cX11_birds 1 = .ok (.iconst 1, 1) := by decide +kernel
theorem dX11_birds_2 : decode cX11_birds 2 = .ok (.iload_n 1, 1) := by decide +kernel
theorem dX11_birds_3 : decode cX11_birds 3 = .ok (.iload_n 2, 1) := by decide +kernel
theorem dX11_birds_4 : decode cX11_birds 4 = .ok (.invokevirtual 322, 3) := by decide +kernel
theorem dX11_birds_7 : decode cX11_birds 7 = .ok (.istore_n 3, 1) := by decide +kernel
theorem dX11_birds_8 : decode cX11_birds 8 = .ok (.iload_n 3, 1) := by decide +kernel
theorem dX11_birds_9 : decode cX11_birds 9 = .ok (.ifCond .eq 9, 3) := by decide +kernel
theorem dX11_birds_12 : decode cX11_birds 12 = .ok (.aload_n 0, 1) := by decide +kernel
theorem dX11_birds_13 : decode cX11_birds 13 = .ok (.iload_n 3, 1) := by decide +kernel
theorem dX11_birds_14 : decode cX11_birds 14 = .ok (.invokevirtual 101, 3) := by decide +kernel
theorem dX11_birds_17 : decode cX11_birds 17 = .ok (.ireturn, 1) := by decide +kernel
theorem dX11_birds_18 : decode cX11_birds 18 = .ok (.aload_n 0, 1) := by decide +kernel
theorem dX11_birds_19 : decode cX11_birds 19 = .ok (.getfield 72, 3) := by decide +kernel
theorem dX11_birds_22 : decode cX11_birds 22 = .ok (.iload_n 1, 1) := by decide +kernel
theorem dX11_birds_23 : decode cX11_birds 23 = .ok (.iload_n 2, 1) := by decide +kernel
theorem dX11_birds_24 : decode cX11_birds 24 = .ok (.invokevirtual 326, 3) := by decide +kernel
theorem dX11_birds_27 : decode cX11_birds 27 = .ok (.aload_n 0, 1) := by decide +kernel
theorem dX11_birds_28 : decode cX11_birds 28 = .ok (.aload_n 0, 1) := by decide +kernel
theorem dX11_birds_29 : decode cX11_birds 29 = .ok (.getfield 72, 3) := by decide +kernel
theorem dX11_birds_32 : decode cX11_birds 32 = .ok (.getfield 333, 3) := by decide +kernel
theorem dX11_birds_35 : decode cX11_birds 35 = .ok (.invokevirtual 127, 3) := by decide +kernel
theorem dX11_birds_38 : decode cX11_birds 38 = .ok (.ireturn, 1) := by decide +kernel
theorem dX11_printed_0 : decode cX11_printed 0 = .ok (.aload_n 0, 1) := by decide +kernel
theorem dX11_printed_1 : decode cX11_printed 1 = .ok (.getfield 28, 3) := by decide +kernel
theorem dX11_printed_4 : decode cX11_printed 4 = .ok (.iload_n 1, 1) := by decide +kernel
theorem dX11_printed_5 : decode cX11_printed 5 = .ok (.invokevirtual 130, 3) := by decide +kernel
theorem dX11_printed_8 : decode cX11_printed 8 = .ok (.ifCond .ne 9, 3) := by decide +kernel
theorem dX11_printed_11 : decode cX11_printed 11 = .ok (.aload_n 0, 1) := by decide +kernel
theorem dX11_printed_12 : decode cX11_printed 12 = .ok (.iconst 1, 1) := by decide +kernel
theorem dX11_printed_13 : decode cX11_printed 13 = .ok (.invokevirtual 101, 3) := by decide +kernel
theorem dX11_printed_16 : decode cX11_printed 16 = .ok (.ireturn, 1) := by decide +kernel
theorem dX11_printed_17 : decode cX11_printed 17 = .ok (.aload_n 0, 1) := by decide +kernel
theorem dX11_printed_18 : decode cX11_printed 18 = .ok (.iconst 1, 1) := by decide +kernel
theorem dX11_printed_19 : decode cX11_printed 19 = .ok (.iload_n 2, 1) := by decide +kernel
theorem dX11_printed_20 : decode cX11_printed 20 = .ok (.iload_n 3, 1) := by decide +kernel
theorem dX11_printed_21 : decode cX11_printed 21 = .ok (.invokevirtual 322, 3) := by decide +kernel
theorem dX11_printed_24 : decode cX11_printed 24 = .ok (.istore 4, 2) := by decide +kernel
theorem dX11_printed_26 : decode cX11_printed 26 = .ok (.iload 4, 2) := by decide +kernel
theorem dX11_printed_28 : decode cX11_printed 28 = .ok (.ifCond .eq 10, 3) := by decide +kernel
theorem dX11_printed_31 : decode cX11_printed 31 = .ok (.aload_n 0, 1) := by decide +kernel
theorem dX11_printed_32 : decode cX11_printed 32 = .ok (.iload 4, 2) := by decide +kernel
theorem dX11_printed_34 : decode cX11_printed 34 = .ok (.invokevirtual 101, 3) := by decide +kernel
theorem dX11_printed_37 : decode cX11_printed 37 = .ok (.ireturn, 1) := by decide +kernel
theorem dX11_printed_38 : decode cX11_printed 38 = .ok (.aload_n 0, 1) := by decide +kernel
theorem dX11_printed_39 : decode cX11_printed 39 = .ok (.getfield 72, 3) := by decide +kernel
theorem dX11_printed_42 : decode cX11_printed 42 = .ok (.iload_n 2, 1) := by decide +kernel
theorem dX11_printed_43 : decode cX11_printed 43 = .ok (.iload_n 3, 1) := by decide +kernel
theorem dX11_printed_44 : decode cX11_printed 44 = .ok (.invokevirtual 326, 3) := by decide +kernel
theorem dX11_printed_47 : decode cX11_printed 47 = .ok (.aload_n 0, 1) := by decide +kernel
theorem dX11_printed_48 : decode cX11_printed 48 = .ok (.aload_n 0, 1) := by decide +kernel
theorem dX11_printed_49 : decode cX11_printed 49 = .ok (.getfield 72, 3) := by decide +kernel
theorem dX11_printed_52 : decode cX11_printed 52 = .ok (.getfield 336, 3) := by decide +kernel
theorem dX11_printed_55 : decode cX11_printed 55 = .ok (.iload_n 1, 1) := by decide +kernel
theorem dX11_printed_56 : decode cX11_printed 56 = .ok (.iaload, 1) := by decide +kernel
theorem dX11_printed_57 : decode cX11_printed 57 = .ok (.invokevirtual 127, 3) := by decide +kernel
theorem dX11_printed_60 : decode cX11_printed 60 = .ok (.ireturn, 1) := by decide +kernel
theorem dX11_press_0 : decode cX11_press 0 = .ok (.aload_n 0, 1) := by decide +kernel
theorem dX11_press_1 : decode cX11_press 1 = .ok (.getfield 28, 3) := by decide +kernel
theorem dX11_press_4 : decode cX11_press 4 = .ok (.iload_n 1, 1) := by decide +kernel
theorem dX11_press_5 : decode cX11_press 5 = .ok (.iload_n 2, 1) := by decide +kernel
theorem dX11_press_6 : decode cX11_press 6 = .ok (.iload_n 3, 1) := by decide +kernel
theorem dX11_press_7 : decode cX11_press 7 = .ok (.invokevirtual 211, 3) := by decide +kernel
theorem dX11_press_10 : decode cX11_press 10 = .ok (.ifCond .ne 9, 3) := by decide +kernel
theorem dX11_press_13 : decode cX11_press 13 = .ok (.aload_n 0, 1) := by decide +kernel
theorem dX11_press_14 : decode cX11_press 14 = .ok (.iconst 1, 1) := by decide +kernel
theorem dX11_press_15 : decode cX11_press 15 = .ok (.invokevirtual 101, 3) := by decide +kernel
theorem dX11_press_18 : decode cX11_press 18 = .ok (.ireturn, 1) := by decide +kernel
theorem dX11_press_19 : decode cX11_press 19 = .ok (.aload_n 0, 1) := by decide +kernel
theorem dX11_press_20 : decode cX11_press 20 = .ok (.getfield 28, 3) := by decide +kernel
theorem dX11_press_23 : decode cX11_press 23 = .ok (.getfield 137, 3) := by decide +kernel
theorem dX11_press_26 : decode cX11_press 26 = .ok (.iload_n 1, 1) := by decide +kernel
theorem dX11_press_27 : decode cX11_press 27 = .ok (.invokevirtual 155, 3) := by decide +kernel
theorem dX11_press_30 : decode cX11_press 30 = .ok (.ifCond .gt 10, 3) := by decide +kernel
theorem dX11_press_33 : decode cX11_press 33 = .ok (.aload_n 0, 1) := by decide +kernel
theorem dX11_press_34 : decode cX11_press 34 = .ok (.bipush 6, 2) := by decide +kernel
theorem dX11_press_36 : decode cX11_press 36 = .ok (.invokevirtual 101, 3) := by decide +kernel
theorem dX11_press_39 : decode cX11_press 39 = .ok (.ireturn, 1) := by decide +kernel
theorem dX11_press_40 : decode cX11_press 40 = .ok (.aload_n 0, 1) := by decide +kernel
theorem dX11_press_41 : decode cX11_press 41 = .ok (.getfield 28, 3) := by decide +kernel
theorem dX11_press_44 : decode cX11_press 44 = .ok (.iload_n 2, 1) := by decide +kernel
theorem dX11_press_45 : decode cX11_press 45 = .ok (.aload_n 0, 1) := by decide +kernel
theorem dX11_press_46 : decode cX11_press 46 = .ok (.getfield 28, 3) := by decide +kernel
theorem dX11_press_49 : decode cX11_press 49 = .ok (.iload_n 1, 1) := by decide +kernel
theorem dX11_press_50 : decode cX11_press 50 = .ok (.iload_n 3, 1) := by decide +kernel
theorem dX11_press_51 : decode cX11_press 51 = .ok (.invokevirtual 197, 3) := by decide +kernel
theorem dX11_press_54 : decode cX11_press 54 = .ok (.invokevirtual 215, 3) := by decide +kernel
theorem dX11_press_57 : decode cX11_press 57 = .ok (.istore 4, 2) := by decide +kernel
theorem dX11_press_59 : decode cX11_press 59 = .ok (.aload_n 0, 1) := by decide +kernel
theorem dX11_press_60 : decode cX11_press 60 = .ok (.getfield 35, 3) := by decide +kernel
theorem dX11_press_63 : decode cX11_press 63 = .ok (.aload_n 0, 1) := by decide +kernel
theorem dX11_press_64 : decode cX11_press 64 = .ok (.getfield 28, 3) := by decide +kernel
theorem dX11_press_67 : decode cX11_press 67 = .ok (.getfield 137, 3) := by decide +kernel
theorem dX11_press_70 : decode cX11_press 70 = .ok (.invokevirtual 339, 3) := by decide +kernel
theorem dX11_press_73 : decode cX11_press 73 = .ok (.aload_n 0, 1) := by decide +kernel
theorem dX11_press_74 : decode cX11_press 74 = .ok (.getfield 28, 3) := by decide +kernel
theorem dX11_press_77 : decode cX11_press 77 = .ok (.getfield 137, 3) := by decide +kernel
theorem dX11_press_80 : decode cX11_press 80 = .ok (.iload_n 1, 1) := by decide +kernel
theorem dX11_press_81 : decode cX11_press 81 = .ok (.iload_n 2, 1) := by decide +kernel
theorem dX11_press_82 : decode cX11_press 82 = .ok (.iload_n 3, 1) := by decide +kernel
theorem dX11_press_83 : decode cX11_press 83 = .ok (.iload 4, 2) := by decide +kernel
theorem dX11_press_85 : decode cX11_press 85 = .ok (.invokevirtual 343, 3) := by decide +kernel
theorem dX11_press_88 : decode cX11_press 88 = .ok (.aload_n 0, 1) := by decide +kernel
theorem dX11_press_89 : decode cX11_press 89 = .ok (.iload 4, 2) := by decide +kernel
theorem dX11_press_91 : decode cX11_press 91 = .ok (.invokevirtual 127, 3) := by decide +kernel
theorem dX11_press_94 : decode cX11_press 94 = .ok (.ireturn, 1) := by decide +kernel
theorem dX11_carve_0 : decode cX11_carve 0 = .ok (.aload_n 0, 1) := by decide +kernel
theorem dX11_carve_1 : decode cX11_carve 1 = .ok (.getfield 28, 3) := by decide +kernel
theorem dX11_carve_4 : decode cX11_carve 4 = .ok (.iload_n 1, 1) := by decide +kernel
theorem dX11_carve_5 : decode cX11_carve 5 = .ok (.invokevirtual 182, 3) := by decide +kernel
theorem dX11_carve_8 : decode cX11_carve 8 = .ok (.ifCond .ne 9, 3) := by decide +kernel
theorem dX11_carve_11 : decode cX11_carve 11 = .ok (.aload_n 0, 1) := by decide +kernel
theorem dX11_carve_12 : decode cX11_carve 12 = .ok (.iconst 1, 1) := by decide +kernel
theorem dX11_carve_13 : decode cX11_carve 13 = .ok (.invokevirtual 347, 3) := by decide +kernel
theorem dX11_carve_16 : decode cX11_carve 16 = .ok (.ireturn, 1) := by decide +kernel
theorem dX11_carve_17 : decode cX11_carve 17 = .ok (.iload_n 2, 1) := by decide +kernel
theorem dX11_carve_18 : decode cX11_carve 18 = .ok (.invokestatic 218, 3) := by decide +kernel
theorem dX11_carve_21 : decode cX11_carve 21 = .ok (.ifCond .ne 9, 3) := by decide +kernel
theorem dX11_carve_24 : decode cX11_carve 24 = .ok (.aload_n 0, 1) := by decide +kernel
theorem dX11_carve_25 : decode cX11_carve 25 = .ok (.iconst 2, 1) := by decide +kernel
theorem dX11_carve_26 : decode cX11_carve 26 = .ok (.invokevirtual 347, 3) := by decide +kernel
theorem dX11_carve_29 : decode cX11_carve 29 = .ok (.ireturn, 1) := by decide +kernel
theorem dX11_carve_30 : decode cX11_carve 30 = .ok (.aload_n 0, 1) := by decide +kernel
theorem dX11_carve_31 : decode cX11_carve 31 = .ok (.getfield 28, 3) := by decide +kernel
theorem dX11_carve_34 : decode cX11_carve 34 = .ok (.getfield 137, 3) := by decide +kernel
theorem dX11_carve_37 : decode cX11_carve 37 = .ok (.iload_n 1, 1) := by decide +kernel
theorem dX11_carve_38 : decode cX11_carve 38 = .ok (.invokevirtual 194, 3) := by decide +kernel
theorem dX11_carve_41 : decode cX11_carve 41 = .ok (.iload_n 2, 1) := by decide +kernel
theorem dX11_carve_42 : decode cX11_carve 42 = .ok (.if_icmp .ne 9, 3) := by decide +kernel
theorem dX11_carve_45 : decode cX11_carve 45 = .ok (.aload_n 0, 1) := by decide +kernel
theorem dX11_carve_46 : decode cX11_carve 46 = .ok (.iconst 5, 1) := by decide +kernel
theorem dX11_carve_47 : decode cX11_carve 47 = .ok (.invokevirtual 347, 3) := by decide +kernel
theorem dX11_carve_50 : decode cX11_carve 50 = .ok (.ireturn, 1) := by decide +kernel
theorem dX11_carve_51 : decode cX11_carve 51 = .ok (.aload_n 0, 1) := by decide +kernel
theorem dX11_carve_52 : decode cX11_carve 52 = .ok (.getfield 35, 3) := by decide +kernel
theorem dX11_carve_55 : decode cX11_carve 55 = .ok (.aload_n 0, 1) := by decide +kernel
theorem dX11_carve_56 : decode cX11_carve 56 = .ok (.getfield 28, 3) := by decide +kernel
theorem dX11_carve_59 : decode cX11_carve 59 = .ok (.getfield 137, 3) := by decide +kernel
theorem dX11_carve_62 : decode cX11_carve 62 = .ok (.invokevirtual 339, 3) := by decide +kernel
theorem dX11_carve_65 : decode cX11_carve 65 = .ok (.aload_n 0, 1) := by decide +kernel
theorem dX11_carve_66 : decode cX11_carve 66 = .ok (.getfield 28, 3) := by decide +kernel
theorem dX11_carve_69 : decode cX11_carve 69 = .ok (.getfield 137, 3) := by decide +kernel
theorem dX11_carve_72 : decode cX11_carve 72 = .ok (.iload_n 1, 1) := by decide +kernel
theorem dX11_carve_73 : decode cX11_carve 73 = .ok (.iload_n 2, 1) := by decide +kernel
theorem dX11_carve_74 : decode cX11_carve 74 = .ok (.invokevirtual 350, 3) := by decide +kernel
theorem dX11_carve_77 : decode cX11_carve 77 = .ok (.aload_n 0, 1) := by decide +kernel
theorem dX11_carve_78 : decode cX11_carve 78 = .ok (.invokevirtual 353, 3) := by decide +kernel
theorem dX11_carve_81 : decode cX11_carve 81 = .ok (.ireturn, 1) := by decide +kernel
theorem dX11_mark_0 : decode cX11_mark 0 = .ok (.aload_n 0, 1) := by decide +kernel
theorem dX11_mark_1 : decode cX11_mark 1 = .ok (.getfield 28, 3) := by decide +kernel
theorem dX11_mark_4 : decode cX11_mark 4 = .ok (.iload_n 1, 1) := by decide +kernel
theorem dX11_mark_5 : decode cX11_mark 5 = .ok (.invokevirtual 130, 3) := by decide +kernel
theorem dX11_mark_8 : decode cX11_mark 8 = .ok (.ifCond .eq 14, 3) := by decide +kernel
theorem dX11_mark_11 : decode cX11_mark 11 = .ok (.aload_n 0, 1) := by decide +kernel
theorem dX11_mark_12 : decode cX11_mark 12 = .ok (.getfield 28, 3) := by decide +kernel
theorem dX11_mark_15 : decode cX11_mark 15 = .ok (.iload_n 2, 1) := by decide +kernel
theorem dX11_mark_16 : decode cX11_mark 16 = .ok (.invokevirtual 356, 3) := by decide +kernel
theorem dX11_mark_19 : decode cX11_mark 19 = .ok (.ifCond .ne 9, 3) := by decide +kernel
theorem dX11_mark_22 : decode cX11_mark 22 = .ok (.aload_n 0, 1) := by decide +kernel
theorem dX11_mark_23 : decode cX11_mark 23 = .ok (.iconst 1, 1) := by decide +kernel
theorem dX11_mark_24 : decode cX11_mark 24 = .ok (.invokevirtual 347, 3) := by decide +kernel
theorem dX11_mark_27 : decode cX11_mark 27 = .ok (.ireturn, 1) := by decide +kernel
theorem dX11_mark_28 : decode cX11_mark 28 = .ok (.aload_n 0, 1) := by decide +kernel
theorem dX11_mark_29 : decode cX11_mark 29 = .ok (.getfield 28, 3) := by decide +kernel
theorem dX11_mark_32 : decode cX11_mark 32 = .ok (.getfield 137, 3) := by decide +kernel
theorem dX11_mark_35 : decode cX11_mark 35 = .ok (.iload_n 1, 1) := by decide +kernel
theorem dX11_mark_36 : decode cX11_mark 36 = .ok (.invokevirtual 141, 3) := by decide +kernel
theorem dX11_mark_39 : decode cX11_mark 39 = .ok (.istore 4, 2) := by decide +kernel
theorem dX11_mark_41 : decode cX11_mark 41 = .ok (.iload 4, 2) := by decide +kernel
theorem dX11_mark_43 : decode cX11_mark 43 = .ok (.iload_n 2, 1) := by decide +kernel
theorem dX11_mark_44 : decode cX11_mark 44 = .ok (.invokestatic 359, 3) := by decide +kernel
theorem dX11_mark_47 : decode cX11_mark 47 = .ok (.iload_n 3, 1) := by decide +kernel
theorem dX11_mark_48 : decode cX11_mark 48 = .ok (.if_icmp .ne 9, 3) := by decide +kernel
theorem dX11_mark_51 : decode cX11_mark 51 = .ok (.aload_n 0, 1) := by decide +kernel
theorem dX11_mark_52 : decode cX11_mark 52 = .ok (.iconst 5, 1) := by decide +kernel
theorem dX11_mark_53 : decode cX11_mark 53 = .ok (.invokevirtual 347, 3) := by decide +kernel
theorem dX11_mark_56 : decode cX11_mark 56 = .ok (.ireturn, 1) := by decide +kernel
theorem dX11_mark_57 : decode cX11_mark 57 = .ok (.aload_n 0, 1) := by decide +kernel
theorem dX11_mark_58 : decode cX11_mark 58 = .ok (.getfield 35, 3) := by decide +kernel
theorem dX11_mark_61 : decode cX11_mark 61 = .ok (.aload_n 0, 1) := by decide +kernel
theorem dX11_mark_62 : decode cX11_mark 62 = .ok (.getfield 28, 3) := by decide +kernel
theorem dX11_mark_65 : decode cX11_mark 65 = .ok (.getfield 137, 3) := by decide +kernel
theorem dX11_mark_68 : decode cX11_mark 68 = .ok (.invokevirtual 339, 3) := by decide +kernel
theorem dX11_mark_71 : decode cX11_mark 71 = .ok (.aload_n 0, 1) := by decide +kernel
theorem dX11_mark_72 : decode cX11_mark 72 = .ok (.getfield 28, 3) := by decide +kernel
theorem dX11_mark_75 : decode cX11_mark 75 = .ok (.getfield 137, 3) := by decide +kernel
theorem dX11_mark_78 : decode cX11_mark 78 = .ok (.iload_n 1, 1) := by decide +kernel
theorem dX11_mark_79 : decode cX11_mark 79 = .ok (.iload 4, 2) := by decide +kernel
theorem dX11_mark_81 : decode cX11_mark 81 = .ok (.iconst 1, 1) := by decide +kernel
theorem dX11_mark_82 : decode cX11_mark 82 = .ok (.iload_n 2, 1) := by decide +kernel
theorem dX11_mark_83 : decode cX11_mark 83 = .ok (.ishl, 1) := by decide +kernel
theorem dX11_mark_84 : decode cX11_mark 84 = .ok (.ixor, 1) := by decide +kernel
theorem dX11_mark_85 : decode cX11_mark 85 = .ok (.invokevirtual 363, 3) := by decide +kernel
theorem dX11_mark_88 : decode cX11_mark 88 = .ok (.aload_n 0, 1) := by decide +kernel
theorem dX11_mark_89 : decode cX11_mark 89 = .ok (.invokevirtual 353, 3) := by decide +kernel
theorem dX11_mark_92 : decode cX11_mark 92 = .ok (.ireturn, 1) := by decide +kernel
theorem dX11_fill_0 : decode cX11_fill 0 = .ok (.aload_n 0, 1) := by decide +kernel
theorem dX11_fill_1 : decode cX11_fill 1 = .ok (.getfield 28, 3) := by decide +kernel
theorem dX11_fill_4 : decode cX11_fill 4 = .ok (.iload_n 1, 1) := by decide +kernel
theorem dX11_fill_5 : decode cX11_fill 5 = .ok (.invokevirtual 152, 3) := by decide +kernel
theorem dX11_fill_8 : decode cX11_fill 8 = .ok (.ifCond .ne 9, 3) := by decide +kernel
theorem dX11_fill_11 : decode cX11_fill 11 = .ok (.aload_n 0, 1) := by decide +kernel
theorem dX11_fill_12 : decode cX11_fill 12 = .ok (.iconst 1, 1) := by decide +kernel
theorem dX11_fill_13 : decode cX11_fill 13 = .ok (.invokevirtual 347, 3) := by decide +kernel
theorem dX11_fill_16 : decode cX11_fill 16 = .ok (.ireturn, 1) := by decide +kernel
theorem dX11_fill_17 : decode cX11_fill 17 = .ok (.iload_n 2, 1) := by decide +kernel
theorem dX11_fill_18 : decode cX11_fill 18 = .ok (.iconst 1, 1) := by decide +kernel
theorem dX11_fill_19 : decode cX11_fill 19 = .ok (.if_icmp .lt 9, 3) := by decide +kernel
theorem dX11_fill_22 : decode cX11_fill 22 = .ok (.iload_n 2, 1) := by decide +kernel
theorem dX11_fill_23 : decode cX11_fill 23 = .ok (.bipush 9, 2) := by decide +kernel
theorem dX11_fill_25 : decode cX11_fill 25 = .ok (.if_icmp .le 9, 3) := by decide +kernel
theorem dX11_fill_28 : decode cX11_fill 28 = .ok (.aload_n 0, 1) := by decide +kernel
theorem dX11_fill_29 : decode cX11_fill 29 = .ok (.iconst 2, 1) := by decide +kernel
theorem dX11_fill_30 : decode cX11_fill 30 = .ok (.invokevirtual 347, 3) := by decide +kernel
theorem dX11_fill_33 : decode cX11_fill 33 = .ok (.ireturn, 1) := by decide +kernel
theorem dX11_fill_34 : decode cX11_fill 34 = .ok (.aload_n 0, 1) := by decide +kernel
theorem dX11_fill_35 : decode cX11_fill 35 = .ok (.getfield 28, 3) := by decide +kernel
theorem dX11_fill_38 : decode cX11_fill 38 = .ok (.getfield 137, 3) := by decide +kernel
theorem dX11_fill_41 : decode cX11_fill 41 = .ok (.iload_n 1, 1) := by decide +kernel
theorem dX11_fill_42 : decode cX11_fill 42 = .ok (.invokevirtual 155, 3) := by decide +kernel
theorem dX11_fill_45 : decode cX11_fill 45 = .ok (.iload_n 2, 1) := by decide +kernel
theorem dX11_fill_46 : decode cX11_fill 46 = .ok (.if_icmp .lt 9, 3) := by decide +kernel
theorem dX11_fill_49 : decode cX11_fill 49 = .ok (.aload_n 0, 1) := by decide +kernel
theorem dX11_fill_50 : decode cX11_fill 50 = .ok (.iconst 5, 1) := by decide +kernel
theorem dX11_fill_51 : decode cX11_fill 51 = .ok (.invokevirtual 347, 3) := by decide +kernel
theorem dX11_fill_54 : decode cX11_fill 54 = .ok (.ireturn, 1) := by decide +kernel
theorem dX11_fill_55 : decode cX11_fill 55 = .ok (.aload_n 0, 1) := by decide +kernel
theorem dX11_fill_56 : decode cX11_fill 56 = .ok (.getfield 35, 3) := by decide +kernel
theorem dX11_fill_59 : decode cX11_fill 59 = .ok (.aload_n 0, 1) := by decide +kernel
theorem dX11_fill_60 : decode cX11_fill 60 = .ok (.getfield 28, 3) := by decide +kernel
theorem dX11_fill_63 : decode cX11_fill 63 = .ok (.getfield 137, 3) := by decide +kernel
theorem dX11_fill_66 : decode cX11_fill 66 = .ok (.invokevirtual 339, 3) := by decide +kernel
theorem dX11_fill_69 : decode cX11_fill 69 = .ok (.aload_n 0, 1) := by decide +kernel
theorem dX11_fill_70 : decode cX11_fill 70 = .ok (.getfield 28, 3) := by decide +kernel
theorem dX11_fill_73 : decode cX11_fill 73 = .ok (.getfield 137, 3) := by decide +kernel
theorem dX11_fill_76 : decode cX11_fill 76 = .ok (.iload_n 1, 1) := by decide +kernel
theorem dX11_fill_77 : decode cX11_fill 77 = .ok (.iload_n 2, 1) := by decide +kernel
theorem dX11_fill_78 : decode cX11_fill 78 = .ok (.invokevirtual 366, 3) := by decide +kernel
theorem dX11_fill_81 : decode cX11_fill 81 = .ok (.aload_n 0, 1) := by decide +kernel
theorem dX11_fill_82 : decode cX11_fill 82 = .ok (.invokevirtual 353, 3) := by decide +kernel
theorem dX11_fill_85 : decode cX11_fill 85 = .ok (.ireturn, 1) := by decide +kernel
theorem dX11_undo_0 : decode cX11_undo 0 = .ok (.aload_n 0, 1) := by decide +kernel
theorem dX11_undo_1 : decode cX11_undo 1 = .ok (.getfield 35, 3) := by decide +kernel
theorem dX11_undo_4 : decode cX11_undo 4 = .ok (.getfield 369, 3) := by decide +kernel
theorem dX11_undo_7 : decode cX11_undo 7 = .ok (.ifCond .gt 10, 3) := by decide +kernel
theorem dX11_undo_10 : decode cX11_undo 10 = .ok (.aload_n 0, 1) := by decide +kernel
theorem dX11_undo_11 : decode cX11_undo 11 = .ok (.bipush 6, 2) := by decide +kernel
theorem dX11_undo_13 : decode cX11_undo 13 = .ok (.invokevirtual 347, 3) := by decide +kernel
theorem dX11_undo_16 : decode cX11_undo 16 = .ok (.ireturn, 1) := by decide +kernel
theorem dX11_undo_17 : decode cX11_undo 17 = .ok (.aload_n 0, 1) := by decide +kernel
theorem dX11_undo_18 : decode cX11_undo 18 = .ok (.getfield 35, 3) := by decide +kernel
theorem dX11_undo_21 : decode cX11_undo 21 = .ok (.aload_n 0, 1) := by decide +kernel
theorem dX11_undo_22 : decode cX11_undo 22 = .ok (.getfield 28, 3) := by decide +kernel
theorem dX11_undo_25 : decode cX11_undo 25 = .ok (.getfield 137, 3) := by decide +kernel
theorem dX11_undo_28 : decode cX11_undo 28 = .ok (.invokevirtual 372, 3) := by decide +kernel
theorem dX11_undo_31 : decode cX11_undo 31 = .ok (.aload_n 0, 1) := by decide +kernel
theorem dX11_undo_32 : decode cX11_undo 32 = .ok (.invokevirtual 353, 3) := by decide +kernel
theorem dX11_undo_35 : decode cX11_undo 35 = .ok (.ireturn, 1) := by decide +kernel
theorem dX11_image_0 : decode cX11_image 0 = .ok (.aload_n 0, 1) := by decide +kernel
theorem dX11_image_1 : decode cX11_image 1 = .ok (.getfield 76, 3) := by decide +kernel
theorem dX11_image_4 : decode cX11_image 4 = .ok (.ifCond .ne 9, 3) := by decide +kernel
theorem dX11_image_7 : decode cX11_image 7 = .ok (.aload_n 0, 1) := by decide +kernel
theorem dX11_image_8 : decode cX11_image 8 = .ok (.iconst 1, 1) := by decide +kernel
theorem dX11_image_9 : decode cX11_image 9 = .ok (.invokevirtual 101, 3) := by decide +kernel
theorem dX11_image_12 : decode cX11_image 12 = .ok (.ireturn, 1) := by decide +kernel
theorem dX11_image_13 : decode cX11_image 13 = .ok (.aload_n 0, 1) := by decide +kernel
theorem dX11_image_14 : decode cX11_image 14 = .ok (.getfield 35, 3) := by decide +kernel
theorem dX11_image_17 : decode cX11_image 17 = .ok (.invokevirtual 375, 3) := by decide +kernel
theorem dX11_image_20 : decode cX11_image 20 = .ok (.ifCond .ne 9, 3) := by decide +kernel
theorem dX11_image_23 : decode cX11_image 23 = .ok (.aload_n 0, 1) := by decide +kernel
theorem dX11_image_24 : decode cX11_image 24 = .ok (.iconst 3, 1) := by decide +kernel
theorem dX11_image_25 : decode cX11_image 25 = .ok (.invokevirtual 101, 3) := by decide +kernel
theorem dX11_image_28 : decode cX11_image 28 = .ok (.ireturn, 1) := by decide +kernel
theorem dX11_image_29 : decode cX11_image 29 = .ok (.aload_n 0, 1) := by decide +kernel
theorem dX11_image_30 : decode cX11_image 30 = .ok (.aload_n 0, 1) := by decide +kernel
theorem dX11_image_31 : decode cX11_image 31 = .ok (.getfield 35, 3) := by decide +kernel
theorem dX11_image_34 : decode cX11_image 34 = .ok (.aload_n 0, 1) := by decide +kernel
theorem dX11_image_35 : decode cX11_image 35 = .ok (.getfield 28, 3) := by decide +kernel
theorem dX11_image_38 : decode cX11_image 38 = .ok (.getfield 137, 3) := by decide +kernel
theorem dX11_image_41 : decode cX11_image 41 = .ok (.invokevirtual 378, 3) := by decide +kernel
theorem dX11_image_44 : decode cX11_image 44 = .ok (.invokevirtual 127, 3) := by decide +kernel
theorem dX11_image_47 : decode cX11_image 47 = .ok (.ireturn, 1) := by decide +kernel
theorem dX11_back_0 : decode cX11_back 0 = .ok (.iload_n 1, 1) := by decide +kernel
theorem dX11_back_1 : decode cX11_back 1 = .ok (.ifCond .lt 14, 3) := by decide +kernel
theorem dX11_back_4 : decode cX11_back 4 = .ok (.iload_n 1, 1) := by decide +kernel
theorem dX11_back_5 : decode cX11_back 5 = .ok (.aload_n 0, 1) := by decide +kernel
theorem dX11_back_6 : decode cX11_back 6 = .ok (.getfield 35, 3) := by decide +kernel
theorem dX11_back_9 : decode cX11_back 9 = .ok (.getfield 382, 3) := by decide +kernel
theorem dX11_back_12 : decode cX11_back 12 = .ok (.if_icmp .lt 9, 3) := by decide +kernel
theorem dX11_back_15 : decode cX11_back 15 = .ok (.aload_n 0, 1) := by decide +kernel
theorem dX11_back_16 : decode cX11_back 16 = .ok (.iconst 1, 1) := by decide +kernel
theorem dX11_back_17 : decode cX11_back 17 = .ok (.invokevirtual 347, 3) := by decide +kernel
theorem dX11_back_20 : decode cX11_back 20 = .ok (.ireturn, 1) := by decide +kernel
theorem dX11_back_21 : decode cX11_back 21 = .ok (.aload_n 0, 1) := by decide +kernel
theorem dX11_back_22 : decode cX11_back 22 = .ok (.getfield 35, 3) := by decide +kernel
theorem dX11_back_25 : decode cX11_back 25 = .ok (.iload_n 1, 1) := by decide +kernel
theorem dX11_back_26 : decode cX11_back 26 = .ok (.aload_n 0, 1) := by decide +kernel
theorem dX11_back_27 : decode cX11_back 27 = .ok (.getfield 28, 3) := by decide +kernel
theorem dX11_back_30 : decode cX11_back 30 = .ok (.getfield 137, 3) := by decide +kernel
theorem dX11_back_33 : decode cX11_back 33 = .ok (.invokevirtual 385, 3) := by decide +kernel
theorem dX11_back_36 : decode cX11_back 36 = .ok (.aload_n 0, 1) := by decide +kernel
theorem dX11_back_37 : decode cX11_back 37 = .ok (.invokevirtual 353, 3) := by decide +kernel
theorem dX11_back_40 : decode cX11_back 40 = .ok (.ireturn, 1) := by decide +kernel
theorem dX11_led_0 : decode cX11_led 0 = .ok (.iconst 0, 1) := by decide +kernel
theorem dX11_led_1 : decode cX11_led 1 = .ok (.istore_n 2, 1) := by decide +kernel
theorem dX11_led_2 : decode cX11_led 2 = .ok (.iconst 0, 1) := by decide +kernel
theorem dX11_led_3 : decode cX11_led 3 = .ok (.istore_n 3, 1) := by decide +kernel
theorem dX11_led_4 : decode cX11_led 4 = .ok (.iload_n 3, 1) := by decide +kernel
theorem dX11_led_5 : decode cX11_led 5 = .ok (.aload_n 0, 1) := by decide +kernel
theorem dX11_led_6 : decode cX11_led 6 = .ok (.getfield 28, 3) := by decide +kernel
theorem dX11_led_9 : decode cX11_led 9 = .ok (.getfield 118, 3) := by decide +kernel
theorem dX11_led_12 : decode cX11_led 12 = .ok (.getfield 122, 3) := by decide +kernel
theorem dX11_led_15 : decode cX11_led 15 = .ok (.if_icmp .ge 34, 3) := by decide +kernel
theorem dX11_led_18 : decode cX11_led 18 = .ok (.aload_n 0, 1) := by decide +kernel
theorem dX11_led_19 : decode cX11_led 19 = .ok (.getfield 28, 3) := by decide +kernel
theorem dX11_led_22 : decode cX11_led 22 = .ok (.getfield 137, 3) := by decide +kernel
theorem dX11_led_25 : decode cX11_led 25 = .ok (.iload_n 3, 1) := by decide +kernel
theorem dX11_led_26 : decode cX11_led 26 = .ok (.invokevirtual 149, 3) := by decide +kernel
theorem dX11_led_29 : decode cX11_led 29 = .ok (.iconst 1, 1) := by decide +kernel
theorem dX11_led_30 : decode cX11_led 30 = .ok (.if_icmp .ne 13, 3) := by decide +kernel
theorem dX11_led_33 : decode cX11_led 33 = .ok (.iload_n 2, 1) := by decide +kernel
theorem dX11_led_34 : decode cX11_led 34 = .ok (.iload_n 1, 1) := by decide +kernel
theorem dX11_led_35 : decode cX11_led 35 = .ok (.if_icmp .ne 5, 3) := by decide +kernel
theorem dX11_led_38 : decode cX11_led 38 = .ok (.iload_n 3, 1) := by decide +kernel
theorem dX11_led_39 : decode cX11_led 39 = .ok (.ireturn, 1) := by decide +kernel
theorem dX11_led_40 : decode cX11_led 40 = .ok (.iinc 2 1, 3) := by decide +kernel
theorem dX11_led_43 : decode cX11_led 43 = .ok (.iinc 3 1, 3) := by decide +kernel
theorem dX11_led_46 : decode cX11_led 46 = .ok (.goto (-42), 3) := by decide +kernel
theorem dX11_led_49 : decode cX11_led 49 = .ok (.new 389, 3) := by decide +kernel
theorem dX11_led_52 : decode cX11_led 52 = .ok (.dup, 1) := by decide +kernel
theorem dX11_led_53 : decode cX11_led 53 = .ok (.ldc_w 391, 3) := by decide +kernel
theorem dX11_led_56 : decode cX11_led 56 = .ok (.invokespecial 393, 3) := by decide +kernel
theorem dX11_led_59 : decode cX11_led 59 = .ok (.athrow, 1) := by decide +kernel
theorem dX11_size_0 : decode cX11_size 0 = .ok (.iload_n 1, 1) := by decide +kernel
theorem dX11_size_1 : decode cX11_size 1 = .ok (.tableswitch 186 0 11 #[63, 74, 85, 96, 107, 118, 129, 140, 151, 162, 170, 178], 63) := by decide +kernel
theorem dX11_size_64 : decode cX11_size 64 = .ok (.aload_n 0, 1) := by decide +kernel
theorem dX11_size_65 : decode cX11_size 65 = .ok (.getfield 28, 3) := by decide +kernel
theorem dX11_size_68 : decode cX11_size 68 = .ok (.getfield 118, 3) := by decide +kernel
theorem dX11_size_71 : decode cX11_size 71 = .ok (.getfield 396, 3) := by decide +kernel
theorem dX11_size_74 : decode cX11_size 74 = .ok (.ireturn, 1) := by decide +kernel
theorem dX11_size_75 : decode cX11_size 75 = .ok (.aload_n 0, 1) := by decide +kernel
theorem dX11_size_76 : decode cX11_size 76 = .ok (.getfield 28, 3) := by decide +kernel
theorem dX11_size_79 : decode cX11_size 79 = .ok (.getfield 118, 3) := by decide +kernel
theorem dX11_size_82 : decode cX11_size 82 = .ok (.getfield 399, 3) := by decide +kernel
theorem dX11_size_85 : decode cX11_size 85 = .ok (.ireturn, 1) := by decide +kernel
theorem dX11_size_86 : decode cX11_size 86 = .ok (.aload_n 0, 1) := by decide +kernel
theorem dX11_size_87 : decode cX11_size 87 = .ok (.getfield 28, 3) := by decide +kernel
theorem dX11_size_90 : decode cX11_size 90 = .ok (.getfield 118, 3) := by decide +kernel
theorem dX11_size_93 : decode cX11_size 93 = .ok (.getfield 122, 3) := by decide +kernel
theorem dX11_size_96 : decode cX11_size 96 = .ok (.ireturn, 1) := by decide +kernel
theorem dX11_size_97 : decode cX11_size 97 = .ok (.aload_n 0, 1) := by decide +kernel
theorem dX11_size_98 : decode cX11_size 98 = .ok (.getfield 28, 3) := by decide +kernel
theorem dX11_size_101 : decode cX11_size 101 = .ok (.getfield 118, 3) := by decide +kernel
theorem dX11_size_104 : decode cX11_size 104 = .ok (.getfield 402, 3) := by decide +kernel
theorem dX11_size_107 : decode cX11_size 107 = .ok (.ireturn, 1) := by decide +kernel
theorem dX11_size_108 : decode cX11_size 108 = .ok (.aload_n 0, 1) := by decide +kernel
theorem dX11_size_109 : decode cX11_size 109 = .ok (.getfield 28, 3) := by decide +kernel
theorem dX11_size_112 : decode cX11_size 112 = .ok (.getfield 118, 3) := by decide +kernel
theorem dX11_size_115 : decode cX11_size 115 = .ok (.getfield 405, 3) := by decide +kernel
theorem dX11_size_118 : decode cX11_size 118 = .ok (.ireturn, 1) := by decide +kernel
theorem dX11_size_119 : decode cX11_size 119 = .ok (.aload_n 0, 1) := by decide +kernel
theorem dX11_size_120 : decode cX11_size 120 = .ok (.getfield 28, 3) := by decide +kernel
theorem dX11_size_123 : decode cX11_size 123 = .ok (.getfield 118, 3) := by decide +kernel
theorem dX11_size_126 : decode cX11_size 126 = .ok (.getfield 408, 3) := by decide +kernel
theorem dX11_size_129 : decode cX11_size 129 = .ok (.ireturn, 1) := by decide +kernel
theorem dX11_size_130 : decode cX11_size 130 = .ok (.aload_n 0, 1) := by decide +kernel
theorem dX11_size_131 : decode cX11_size 131 = .ok (.getfield 28, 3) := by decide +kernel
theorem dX11_size_134 : decode cX11_size 134 = .ok (.getfield 118, 3) := by decide +kernel
theorem dX11_size_137 : decode cX11_size 137 = .ok (.getfield 411, 3) := by decide +kernel
theorem dX11_size_140 : decode cX11_size 140 = .ok (.ireturn, 1) := by decide +kernel
theorem dX11_size_141 : decode cX11_size 141 = .ok (.aload_n 0, 1) := by decide +kernel
theorem dX11_size_142 : decode cX11_size 142 = .ok (.getfield 28, 3) := by decide +kernel
theorem dX11_size_145 : decode cX11_size 145 = .ok (.getfield 118, 3) := by decide +kernel
theorem dX11_size_148 : decode cX11_size 148 = .ok (.getfield 414, 3) := by decide +kernel
theorem dX11_size_151 : decode cX11_size 151 = .ok (.ireturn, 1) := by decide +kernel
theorem dX11_size_152 : decode cX11_size 152 = .ok (.aload_n 0, 1) := by decide +kernel
theorem dX11_size_153 : decode cX11_size 153 = .ok (.getfield 28, 3) := by decide +kernel
theorem dX11_size_156 : decode cX11_size 156 = .ok (.getfield 137, 3) := by decide +kernel
theorem dX11_size_159 : decode cX11_size 159 = .ok (.invokevirtual 417, 3) := by decide +kernel
theorem dX11_size_162 : decode cX11_size 162 = .ok (.ireturn, 1) := by decide +kernel
theorem dX11_size_163 : decode cX11_size 163 = .ok (.aload_n 0, 1) := by decide +kernel
theorem dX11_size_164 : decode cX11_size 164 = .ok (.getfield 35, 3) := by decide +kernel
theorem dX11_size_167 : decode cX11_size 167 = .ok (.getfield 369, 3) := by decide +kernel
theorem dX11_size_170 : decode cX11_size 170 = .ok (.ireturn, 1) := by decide +kernel
theorem dX11_size_171 : decode cX11_size 171 = .ok (.aload_n 0, 1) := by decide +kernel
theorem dX11_size_172 : decode cX11_size 172 = .ok (.getfield 35, 3) := by decide +kernel
theorem dX11_size_175 : decode cX11_size 175 = .ok (.getfield 382, 3) := by decide +kernel
theorem dX11_size_178 : decode cX11_size 178 = .ok (.ireturn, 1) := by decide +kernel
theorem dX11_size_179 : decode cX11_size 179 = .ok (.aload_n 0, 1) := by decide +kernel
theorem dX11_size_180 : decode cX11_size 180 = .ok (.getfield 10, 3) := by decide +kernel
theorem dX11_size_183 : decode cX11_size 183 = .ok (.getfield 98, 3) := by decide +kernel
theorem dX11_size_186 : decode cX11_size 186 = .ok (.ireturn, 1) := by decide +kernel
theorem dX11_size_187 : decode cX11_size 187 = .ok (.iconst (-1), 1) := by decide +kernel
theorem dX11_size_188 : decode cX11_size 188 = .ok (.ireturn, 1) := by decide +kernel
theorem dX11_trouble_0 : decode cX11_trouble 0 = .ok (.aload_n 0, 1) := by decide +kernel
theorem dX11_trouble_1 : decode cX11_trouble 1 = .ok (.getfield 80, 3) := by decide +kernel
theorem dX11_trouble_4 : decode cX11_trouble 4 = .ok (.ireturn, 1) := by decide +kernel
theorem dX11_refuse_0 : decode cX11_refuse 0 = .ok (.aload_n 0, 1) := by decide +kernel
theorem dX11_refuse_1 : decode cX11_refuse 1 = .ok (.iload_n 1, 1) := by decide +kernel
theorem dX11_refuse_2 : decode cX11_refuse 2 = .ok (.putfield 80, 3) := by decide +kernel
theorem dX11_refuse_5 : decode cX11_refuse 5 = .ok (.iconst (-1), 1) := by decide +kernel
theorem dX11_refuse_6 : decode cX11_refuse 6 = .ok (.ireturn, 1) := by decide +kernel
theorem dX11_deny_0 : decode cX11_deny 0 = .ok (.aload_n 0, 1) := by decide +kernel
theorem dX11_deny_1 : decode cX11_deny 1 = .ok (.iload_n 1, 1) := by decide +kernel
theorem dX11_deny_2 : decode cX11_deny 2 = .ok (.putfield 80, 3) := by decide +kernel
theorem dX11_deny_5 : decode cX11_deny 5 = .ok (.iconst 0, 1) := by decide +kernel
theorem dX11_deny_6 : decode cX11_deny 6 = .ok (.ireturn, 1) := by decide +kernel
theorem dX11_allow_0 : decode cX11_allow 0 = .ok (.aload_n 0, 1) := by decide +kernel
theorem dX11_allow_1 : decode cX11_allow 1 = .ok (.iconst 0, 1) := by decide +kernel
theorem dX11_allow_2 : decode cX11_allow 2 = .ok (.putfield 80, 3) := by decide +kernel
theorem dX11_allow_5 : decode cX11_allow 5 = .ok (.iconst 1, 1) := by decide +kernel
theorem dX11_allow_6 : decode cX11_allow 6 = .ok (.ireturn, 1) := by decide +kernel
theorem dX11_answer_0 : decode cX11_answer 0 = .ok (.aload_n 0, 1) := by decide +kernel
theorem dX11_answer_1 : decode cX11_answer 1 = .ok (.iconst 0, 1) := by decide +kernel
theorem dX11_answer_2 : decode cX11_answer 2 = .ok (.putfield 80, 3) := by decide +kernel
theorem dX11_answer_5 : decode cX11_answer 5 = .ok (.iload_n 1, 1) := by decide +kernel
theorem dX11_answer_6 : decode cX11_answer 6 = .ok (.ireturn, 1) := by decide +kernel
theorem dX11_answerPart_0 : decode cX11_answerPart 0 = .ok (.aload_n 0, 1) := by decide +kernel
theorem dX11_answerPart_1 : decode cX11_answerPart 1 = .ok (.iconst 0, 1) := by decide +kernel
theorem dX11_answerPart_2 : decode cX11_answerPart 2 = .ok (.putfield 80, 3) := by decide +kernel
theorem dX11_answerPart_5 : decode cX11_answerPart 5 = .ok (.lload_n 1, 1) := by decide +kernel
theorem dX11_answerPart_6 : decode cX11_answerPart 6 = .ok (.lconst 0, 1) := by decide +kernel
theorem dX11_answerPart_7 : decode cX11_answerPart 7 = .ok (.lcmp, 1) := by decide +kernel
theorem dX11_answerPart_8 : decode cX11_answerPart 8 = .ok (.ifCond .eq 9, 3) := by decide +kernel
theorem dX11_answerPart_11 : decode cX11_answerPart 11 = .ok (.lload_n 3, 1) := by decide +kernel
theorem dX11_answerPart_12 : decode cX11_answerPart 12 = .ok (.lconst 0, 1) := by decide +kernel
theorem dX11_answerPart_13 : decode cX11_answerPart 13 = .ok (.lcmp, 1) := by decide +kernel
theorem dX11_answerPart_14 : decode cX11_answerPart 14 = .ok (.ifCond .ne 14, 3) := by decide +kernel
theorem dX11_answerPart_17 : decode cX11_answerPart 17 = .ok (.iload 5, 2) := by decide +kernel
theorem dX11_answerPart_19 : decode cX11_answerPart 19 = .ok (.ifCond .eq 7, 3) := by decide +kernel
theorem dX11_answerPart_22 : decode cX11_answerPart 22 = .ok (.lconst 1, 1) := by decide +kernel
theorem dX11_answerPart_23 : decode cX11_answerPart 23 = .ok (.goto 4, 3) := by decide +kernel
theorem dX11_answerPart_26 : decode cX11_answerPart 26 = .ok (.lconst 0, 1) := by decide +kernel
theorem dX11_answerPart_27 : decode cX11_answerPart 27 = .ok (.lreturn, 1) := by decide +kernel
theorem dX11_answerPart_28 : decode cX11_answerPart 28 = .ok (.lload_n 1, 1) := by decide +kernel
theorem dX11_answerPart_29 : decode cX11_answerPart 29 = .ok (.lload_n 3, 1) := by decide +kernel
theorem dX11_answerPart_30 : decode cX11_answerPart 30 = .ok (.invokestatic 420, 3) := by decide +kernel
theorem dX11_answerPart_33 : decode cX11_answerPart 33 = .ok (.lstore 6, 2) := by decide +kernel
theorem dX11_answerPart_35 : decode cX11_answerPart 35 = .ok (.lload 6, 2) := by decide +kernel
theorem dX11_answerPart_37 : decode cX11_answerPart 37 = .ok (.lconst 0, 1) := by decide +kernel
theorem dX11_answerPart_38 : decode cX11_answerPart 38 = .ok (.lcmp, 1) := by decide +kernel
theorem dX11_answerPart_39 : decode cX11_answerPart 39 = .ok (.ifCond .ne 5, 3) := by decide +kernel
theorem dX11_answerPart_42 : decode cX11_answerPart 42 = .ok (.lconst 0, 1) := by decide +kernel
theorem dX11_answerPart_43 : decode cX11_answerPart 43 = .ok (.lreturn, 1) := by decide +kernel
theorem dX11_answerPart_44 : decode cX11_answerPart 44 = .ok (.iload 5, 2) := by decide +kernel
theorem dX11_answerPart_46 : decode cX11_answerPart 46 = .ok (.ifCond .eq 10, 3) := by decide +kernel
theorem dX11_answerPart_49 : decode cX11_answerPart 49 = .ok (.lload_n 3, 1) := by decide +kernel
theorem dX11_answerPart_50 : decode cX11_answerPart 50 = .ok (.lload 6, 2) := by decide +kernel
theorem dX11_answerPart_52 : decode cX11_answerPart 52 = .ok (.ldiv, 1) := by decide +kernel
theorem dX11_answerPart_53 : decode cX11_answerPart 53 = .ok (.goto 7, 3) := by decide +kernel
theorem dX11_answerPart_56 : decode cX11_answerPart 56 = .ok (.lload_n 1, 1) := by decide +kernel
theorem dX11_answerPart_57 : decode cX11_answerPart 57 = .ok (.lload 6, 2) := by decide +kernel
theorem dX11_answerPart_59 : decode cX11_answerPart 59 = .ok (.ldiv, 1) := by decide +kernel
theorem dX11_answerPart_60 : decode cX11_answerPart 60 = .ok (.lreturn, 1) := by decide +kernel
theorem dX11_commonDivisor_0 : decode cX11_commonDivisor 0 = .ok (.lload_n 0, 1) := by decide +kernel
theorem dX11_commonDivisor_1 : decode cX11_commonDivisor 1 = .ok (.lstore 4, 2) := by decide +kernel
theorem dX11_commonDivisor_3 : decode cX11_commonDivisor 3 = .ok (.lload_n 2, 1) := by decide +kernel
theorem dX11_commonDivisor_4 : decode cX11_commonDivisor 4 = .ok (.lstore 6, 2) := by decide +kernel
theorem dX11_commonDivisor_6 : decode cX11_commonDivisor 6 = .ok (.iconst 0, 1) := by decide +kernel
theorem dX11_commonDivisor_7 : decode cX11_commonDivisor 7 = .ok (.istore 8, 2) := by decide +kernel
theorem dX11_commonDivisor_9 : decode cX11_commonDivisor 9 = .ok (.iload 8, 2) := by decide +kernel
theorem dX11_commonDivisor_11 : decode cX11_commonDivisor 11 = .ok (.bipush 100, 2) := by decide +kernel
theorem dX11_commonDivisor_13 : decode cX11_commonDivisor 13 = .ok (.if_icmp .ge 31, 3) := by decide +kernel
theorem dX11_commonDivisor_16 : decode cX11_commonDivisor 16 = .ok (.lload 6, 2) := by decide +kernel
theorem dX11_commonDivisor_18 : decode cX11_commonDivisor 18 = .ok (.lconst 0, 1) := by decide +kernel
theorem dX11_commonDivisor_19 : decode cX11_commonDivisor 19 = .ok (.lcmp, 1) := by decide +kernel
theorem dX11_commonDivisor_20 : decode cX11_commonDivisor 20 = .ok (.ifCond .eq 24, 3) := by decide +kernel
theorem dX11_commonDivisor_23 : decode cX11_commonDivisor 23 = .ok (.lload 4, 2) := by decide +kernel
theorem dX11_commonDivisor_25 : decode cX11_commonDivisor 25 = .ok (.lload 6, 2) := by decide +kernel
theorem dX11_commonDivisor_27 : decode cX11_commonDivisor 27 = .ok (.lrem, 1) := by decide +kernel
theorem dX11_commonDivisor_28 : decode cX11_commonDivisor 28 = .ok (.lstore 9, 2) := by decide +kernel
theorem dX11_commonDivisor_30 : decode cX11_commonDivisor 30 = .ok (.lload 6, 2) := by decide +kernel
theorem dX11_commonDivisor_32 : decode cX11_commonDivisor 32 = .ok (.lstore 4, 2) := by decide +kernel
theorem dX11_commonDivisor_34 : decode cX11_commonDivisor 34 = .ok (.lload 9, 2) := by decide +kernel
theorem dX11_commonDivisor_36 : decode cX11_commonDivisor 36 = .ok (.lstore 6, 2) := by decide +kernel
theorem dX11_commonDivisor_38 : decode cX11_commonDivisor 38 = .ok (.iinc 8 1, 3) := by decide +kernel
theorem dX11_commonDivisor_41 : decode cX11_commonDivisor 41 = .ok (.goto (-32), 3) := by decide +kernel
theorem dX11_commonDivisor_44 : decode cX11_commonDivisor 44 = .ok (.lload 4, 2) := by decide +kernel
theorem dX11_commonDivisor_46 : decode cX11_commonDivisor 46 = .ok (.lreturn, 1) := by decide +kernel
theorem dX11_troubleOfGame_0 : decode cX11_troubleOfGame 0 = .ok (.aload_n 0, 1) := by decide +kernel
theorem dX11_troubleOfGame_1 : decode cX11_troubleOfGame 1 = .ok (.getfield 76, 3) := by decide +kernel
theorem dX11_troubleOfGame_4 : decode cX11_troubleOfGame 4 = .ok (.ifCond .ne 5, 3) := by decide +kernel
theorem dX11_troubleOfGame_7 : decode cX11_troubleOfGame 7 = .ok (.iconst 1, 1) := by decide +kernel
theorem dX11_troubleOfGame_8 : decode cX11_troubleOfGame 8 = .ok (.ireturn, 1) := by decide +kernel
theorem dX11_troubleOfGame_9 : decode cX11_troubleOfGame 9 = .ok (.aload_n 0, 1) := by decide +kernel
theorem dX11_troubleOfGame_10 : decode cX11_troubleOfGame 10 = .ok (.getfield 28, 3) := by decide +kernel
theorem dX11_troubleOfGame_13 : decode cX11_troubleOfGame 13 = .ok (.getfield 118, 3) := by decide +kernel
theorem dX11_troubleOfGame_16 : decode cX11_troubleOfGame 16 = .ok (.getfield 402, 3) := by decide +kernel
theorem dX11_troubleOfGame_19 : decode cX11_troubleOfGame 19 = .ok (.ifCond .ne 8, 3) := by decide +kernel
theorem dX11_troubleOfGame_22 : decode cX11_troubleOfGame 22 = .ok (.bipush 6, 2) := by decide +kernel
theorem dX11_troubleOfGame_24 : decode cX11_troubleOfGame 24 = .ok (.goto 4, 3) := by decide +kernel
theorem dX11_troubleOfGame_27 : decode cX11_troubleOfGame 27 = .ok (.iconst 0, 1) := by decide +kernel
theorem dX11_troubleOfGame_28 : decode cX11_troubleOfGame 28 = .ok (.ireturn, 1) := by decide +kernel
theorem dX11_troubleOfDraws_0 : decode cX11_troubleOfDraws 0 = .ok (.aload_n 0, 1) := by decide +kernel
theorem dX11_troubleOfDraws_1 : decode cX11_troubleOfDraws 1 = .ok (.getfield 76, 3) := by decide +kernel
theorem dX11_troubleOfDraws_4 : decode cX11_troubleOfDraws 4 = .ok (.ifCond .ne 5, 3) := by decide +kernel
theorem dX11_troubleOfDraws_7 : decode cX11_troubleOfDraws 7 = .ok (.iconst 1, 1) := by decide +kernel
theorem dX11_troubleOfDraws_8 : decode cX11_troubleOfDraws 8 = .ok (.ireturn, 1) := by decide +kernel
theorem dX11_troubleOfDraws_9 : decode cX11_troubleOfDraws 9 = .ok (.iload_n 1, 1) := by decide +kernel
theorem dX11_troubleOfDraws_10 : decode cX11_troubleOfDraws 10 = .ok (.ifCond .eq 24, 3) := by decide +kernel
theorem dX11_troubleOfDraws_13 : decode cX11_troubleOfDraws 13 = .ok (.iload_n 2, 1) := by decide +kernel
theorem dX11_troubleOfDraws_14 : decode cX11_troubleOfDraws 14 = .ok (.ifCond .lt 20, 3) := by decide +kernel
theorem dX11_troubleOfDraws_17 : decode cX11_troubleOfDraws 17 = .ok (.iload_n 2, 1) := by decide +kernel
theorem dX11_troubleOfDraws_18 : decode cX11_troubleOfDraws 18 = .ok (.ldc_w 424, 3) := by decide +kernel
theorem dX11_troubleOfDraws_21 : decode cX11_troubleOfDraws 21 = .ok (.if_icmp .gt 13, 3) := by decide +kernel
theorem dX11_troubleOfDraws_24 : decode cX11_troubleOfDraws 24 = .ok (.iload_n 3, 1) := by decide +kernel
theorem dX11_troubleOfDraws_25 : decode cX11_troubleOfDraws 25 = .ok (.ifCond .lt 9, 3) := by decide +kernel
theorem dX11_troubleOfDraws_28 : decode cX11_troubleOfDraws 28 = .ok (.iload_n 3, 1) := by decide +kernel
theorem dX11_troubleOfDraws_29 : decode cX11_troubleOfDraws 29 = .ok (.bipush 90, 2) := by decide +kernel
theorem dX11_troubleOfDraws_31 : decode cX11_troubleOfDraws 31 = .ok (.if_icmp .le 5, 3) := by decide +kernel
theorem dX11_troubleOfDraws_34 : decode cX11_troubleOfDraws 34 = .ok (.iconst 2, 1) := by decide +kernel
theorem dX11_troubleOfDraws_35 : decode cX11_troubleOfDraws 35 = .ok (.ireturn, 1) := by decide +kernel
theorem dX11_troubleOfDraws_36 : decode cX11_troubleOfDraws 36 = .ok (.aload_n 0, 1) := by decide +kernel
theorem dX11_troubleOfDraws_37 : decode cX11_troubleOfDraws 37 = .ok (.getfield 28, 3) := by decide +kernel
theorem dX11_troubleOfDraws_40 : decode cX11_troubleOfDraws 40 = .ok (.getfield 118, 3) := by decide +kernel
theorem dX11_troubleOfDraws_43 : decode cX11_troubleOfDraws 43 = .ok (.getfield 402, 3) := by decide +kernel
theorem dX11_troubleOfDraws_46 : decode cX11_troubleOfDraws 46 = .ok (.ifCond .eq 16, 3) := by decide +kernel
theorem dX11_troubleOfDraws_49 : decode cX11_troubleOfDraws 49 = .ok (.aload_n 0, 1) := by decide +kernel
theorem dX11_troubleOfDraws_50 : decode cX11_troubleOfDraws 50 = .ok (.getfield 28, 3) := by decide +kernel
theorem dX11_troubleOfDraws_53 : decode cX11_troubleOfDraws 53 = .ok (.getfield 118, 3) := by decide +kernel
theorem dX11_troubleOfDraws_56 : decode cX11_troubleOfDraws 56 = .ok (.getfield 408, 3) := by decide +kernel
theorem dX11_troubleOfDraws_59 : decode cX11_troubleOfDraws 59 = .ok (.ifCond .ne 8, 3) := by decide +kernel
theorem dX11_troubleOfDraws_62 : decode cX11_troubleOfDraws 62 = .ok (.bipush 6, 2) := by decide +kernel
theorem dX11_troubleOfDraws_64 : decode cX11_troubleOfDraws 64 = .ok (.goto 4, 3) := by decide +kernel
theorem dX11_troubleOfDraws_67 : decode cX11_troubleOfDraws 67 = .ok (.iconst 0, 1) := by decide +kernel
theorem dX11_troubleOfDraws_68 : decode cX11_troubleOfDraws 68 = .ok (.ireturn, 1) := by decide +kernel
theorem dX11_openOffice_0 : decode cX11_openOffice 0 = .ok (.aload_n 0, 1) := by decide +kernel
theorem dX11_openOffice_1 : decode cX11_openOffice 1 = .ok (.getfield 21, 3) := by decide +kernel
theorem dX11_openOffice_4 : decode cX11_openOffice 4 = .ok (.getfield 425, 3) := by decide +kernel
theorem dX11_openOffice_7 : decode cX11_openOffice 7 = .ok (.astore_n 1, 1) := by decide +kernel
theorem dX11_openOffice_8 : decode cX11_openOffice 8 = .ok (.aload_n 0, 1) := by decide +kernel
theorem dX11_openOffice_9 : decode cX11_openOffice 9 = .ok (.getfield 21, 3) := by decide +kernel
theorem dX11_openOffice_12 : decode cX11_openOffice 12 = .ok (.aload_n 0, 1) := by decide +kernel
theorem dX11_openOffice_13 : decode cX11_openOffice 13 = .ok (.getfield 28, 3) := by decide +kernel
theorem dX11_openOffice_16 : decode cX11_openOffice 16 = .ok (.getfield 118, 3) := by decide +kernel
theorem dX11_openOffice_19 : decode cX11_openOffice 19 = .ok (.putfield 425, 3) := by decide +kernel
theorem dX11_openOffice_22 : decode cX11_openOffice 22 = .ok (.aload_n 0, 1) := by decide +kernel
theorem dX11_openOffice_23 : decode cX11_openOffice 23 = .ok (.getfield 28, 3) := by decide +kernel
theorem dX11_openOffice_26 : decode cX11_openOffice 26 = .ok (.aload_n 1, 1) := by decide +kernel
theorem dX11_openOffice_27 : decode cX11_openOffice 27 = .ok (.putfield 118, 3) := by decide +kernel
theorem dX11_openOffice_30 : decode cX11_openOffice 30 = .ok (.aload_n 0, 1) := by decide +kernel
theorem dX11_openOffice_31 : decode cX11_openOffice 31 = .ok (.getfield 28, 3) := by decide +kernel
theorem dX11_openOffice_34 : decode cX11_openOffice 34 = .ok (.getfield 137, 3) := by decide +kernel
theorem dX11_openOffice_37 : decode cX11_openOffice 37 = .ok (.aload_n 0, 1) := by decide +kernel
theorem dX11_openOffice_38 : decode cX11_openOffice 38 = .ok (.getfield 21, 3) := by decide +kernel
theorem dX11_openOffice_41 : decode cX11_openOffice 41 = .ok (.getfield 426, 3) := by decide +kernel
theorem dX11_openOffice_44 : decode cX11_openOffice 44 = .ok (.getfield 429, 3) := by decide +kernel
theorem dX11_openOffice_47 : decode cX11_openOffice 47 = .ok (.invokevirtual 432, 3) := by decide +kernel
theorem dX11_openOffice_50 : decode cX11_openOffice 50 = .ok (.aload_n 0, 1) := by decide +kernel
theorem dX11_openOffice_51 : decode cX11_openOffice 51 = .ok (.getfield 35, 3) := by decide +kernel
theorem dX11_openOffice_54 : decode cX11_openOffice 54 = .ok (.invokevirtual 436, 3) := by decide +kernel
theorem dX11_openOffice_57 : decode cX11_openOffice 57 = .ok (.aload_n 0, 1) := by decide +kernel
theorem dX11_openOffice_58 : decode cX11_openOffice 58 = .ok (.iconst 1, 1) := by decide +kernel
theorem dX11_openOffice_59 : decode cX11_openOffice 59 = .ok (.putfield 76, 3) := by decide +kernel
theorem dX11_openOffice_62 : decode cX11_openOffice 62 = .ok (.return_, 1) := by decide +kernel
theorem dX11_isVerdict_0 : decode cX11_isVerdict 0 = .ok (.iload_n 0, 1) := by decide +kernel
theorem dX11_isVerdict_1 : decode cX11_isVerdict 1 = .ok (.ifCond .lt 12, 3) := by decide +kernel
theorem dX11_isVerdict_4 : decode cX11_isVerdict 4 = .ok (.iload_n 0, 1) := by decide +kernel
theorem dX11_isVerdict_5 : decode cX11_isVerdict 5 = .ok (.iconst 3, 1) := by decide +kernel
theorem dX11_isVerdict_6 : decode cX11_isVerdict 6 = .ok (.if_icmp .ge 7, 3) := by decide +kernel
theorem dX11_isVerdict_9 : decode cX11_isVerdict 9 = .ok (.iconst 1, 1) := by decide +kernel
theorem dX11_isVerdict_10 : decode cX11_isVerdict 10 = .ok (.goto 4, 3) := by decide +kernel
theorem dX11_isVerdict_13 : decode cX11_isVerdict 13 = .ok (.iconst 0, 1) := by decide +kernel
theorem dX11_isVerdict_14 : decode cX11_isVerdict 14 = .ok (.ireturn, 1) := by decide +kernel
theorem dX11_hasBit_0 : decode cX11_hasBit 0 = .ok (.iload_n 0, 1) := by decide +kernel
theorem dX11_hasBit_1 : decode cX11_hasBit 1 = .ok (.iload_n 1, 1) := by decide +kernel
theorem dX11_hasBit_2 : decode cX11_hasBit 2 = .ok (.ishr, 1) := by decide +kernel
theorem dX11_hasBit_3 : decode cX11_hasBit 3 = .ok (.iconst 1, 1) := by decide +kernel
theorem dX11_hasBit_4 : decode cX11_hasBit 4 = .ok (.iand, 1) := by decide +kernel
theorem dX11_hasBit_5 : decode cX11_hasBit 5 = .ok (.iconst 1, 1) := by decide +kernel
theorem dX11_hasBit_6 : decode cX11_hasBit 6 = .ok (.if_icmp .ne 7, 3) := by decide +kernel
theorem dX11_hasBit_9 : decode cX11_hasBit 9 = .ok (.iconst 1, 1) := by decide +kernel
theorem dX11_hasBit_10 : decode cX11_hasBit 10 = .ok (.goto 4, 3) := by decide +kernel
theorem dX11_hasBit_13 : decode cX11_hasBit 13 = .ok (.iconst 0, 1) := by decide +kernel
theorem dX11_hasBit_14 : decode cX11_hasBit 14 = .ok (.ireturn, 1) := by decide +kernel
